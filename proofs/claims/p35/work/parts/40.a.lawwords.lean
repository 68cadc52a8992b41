def sb_sels : List Cond := [.selects "java/lang/StringBuilder" ⟨"java/lang/AbstractStringBuilder", "appendNull", "()Ljava/lang/AbstractStringBuilder;"⟩ ⟨"java/lang/AbstractStringBuilder", "appendNull", "()Ljava/lang/AbstractStringBuilder;"⟩, .selects "java/lang/StringBuilder" ⟨"java/lang/AbstractStringBuilder", "ensureCapacityInternal", "(I)V"⟩ ⟨"java/lang/AbstractStringBuilder", "ensureCapacityInternal", "(I)V"⟩, .selects "java/lang/StringBuilder" ⟨"java/lang/AbstractStringBuilder", "newCapacity", "(I)I"⟩ ⟨"java/lang/AbstractStringBuilder", "newCapacity", "(I)I"⟩, .selects "java/lang/StringBuilder" ⟨"java/lang/AbstractStringBuilder", "putStringAt", "(ILjava/lang/String;)V"⟩ ⟨"java/lang/AbstractStringBuilder", "putStringAt", "(ILjava/lang/String;)V"⟩, .selects "java/lang/StringBuilder" ⟨"java/lang/AbstractStringBuilder", "inflateIfNeededFor", "(Ljava/lang/String;)V"⟩ ⟨"java/lang/AbstractStringBuilder", "inflateIfNeededFor", "(Ljava/lang/String;)V"⟩, .selects "java/lang/StringBuilder" ⟨"java/lang/AbstractStringBuilder", "inflate", "()V"⟩ ⟨"java/lang/AbstractStringBuilder", "inflate", "()V"⟩]
def lw_tblP : List Cond := sb_sels ++ lw_tbl
theorem sb_sel {y z : MethodName} {s : State} {args : Array Value} {n : Nat} {C : String} (hy : y.cls ≠ "java/lang/invoke/MethodHandle" ∧ y.cls ≠ "java/lang/invoke/VarHandle") (hz : z.cls = y.cls)
    (hins : (Cond.instantiable C n).before args s = true) (hi : (Cond.selects C z z).before args s = true) (hpriv : (Cond.privateMethod y).before args s = true) (hinst : (Cond.instanceMethod y).before args s = true) :
    (Cond.selects C y y).before args s = true := by
  obtain ⟨c, k, hc, hk, -, -, -, -⟩ := Cond.instantiable_spec hins
  obtain ⟨mk, methM, hnamed, hmethM, -, -⟩ := Cond.instanceMethod_spec hinst
  have hfound : s.methodFound? y.cls y.name y.desc = some mk := State.methodFound?_of_named hnamed hy
  have hsel : selectMethod {} s.vm c mk = .method mk := selectMethod_private hmethM (Cond.privateMethod_at hpriv mk methM hnamed hmethM)
  have hif : (s.vm.classes[mk.cls]?).any (!·.isInterface) = true := by
    simp only [Cond.before, Cond.holds, Cond.value, hc] at hi
    cases hf : s.methodFound? z.cls z.name z.desc with
    | none => simp [hf] at hi
    | some r =>
      cases hn : s.methodNamed? z with
      | none => simp [hf, hn] at hi
      | some mz =>
        have e : mz.cls = mk.cls := by
          have h1 := findClass_of_methodNamed hn
          have h2 := findClass_of_methodNamed hnamed
          rw [hz] at h1
          exact Option.some.inj (h1.symm.trans h2)
        rw [hf, hn] at hi
        dsimp only at hi
        cases hs : selectMethod {} s.vm c r with
        | method m' =>
          rw [hs] at hi
          simp only [e] at hi
          simp at hi
          simpa using hi.2
        | _ => rw [hs] at hi; simp at hi
  simp only [Cond.before, Cond.holds, Cond.value, hc, hfound, hnamed, hsel]
  simp only [hif]
  simp
theorem lwP_ok {args : Array Value} {s : State} (h : ∀ w ∈ lw_tbl, w.before args s = true) : ∀ w ∈ lw_tblP, w.before args s = true := by
  have h1 := h (Cond.instantiable "java/lang/StringBuilder" 4) (by decide +kernel)
  have h2 := h (Cond.selects "java/lang/StringBuilder" ⟨"java/lang/AbstractStringBuilder", "isLatin1", "()Z"⟩ ⟨"java/lang/AbstractStringBuilder", "isLatin1", "()Z"⟩) (by decide +kernel)
  intro w hw
  rcases List.mem_append.mp hw with hw | hw
  · have hq : ∀ w ∈ sb_sels, ∃ y : MethodName, w = .selects "java/lang/StringBuilder" y y ∧ y.cls = "java/lang/AbstractStringBuilder" ∧ Cond.privateMethod y ∈ lw_tbl ∧ Cond.instanceMethod y ∈ lw_tbl := by
      intro w hw
      simp only [sb_sels, List.mem_cons, List.not_mem_nil, or_false] at hw
      rcases hw with rfl | rfl | rfl | rfl | rfl | rfl <;> exact ⟨_, rfl, rfl, by decide +kernel, by decide +kernel⟩
    obtain ⟨y, rfl, e, p1, p2⟩ := hq w hw
    exact sb_sel (by rw [e]; decide) (by rw [e]) h1 h2 (h _ p1) (h _ p2)
  · exact h w hw
set_option maxRecDepth 20000
def lwT : Nat → List Cond
  | 0 => k2_sels lw_privs
  | 1 => tables_1_1
  | 2 => tables_1_2
  | 3 => tables_1_3
  | 4 => tables_1_4
  | 5 => tables_1_5
  | 6 => tables_1_6
  | 7 => tables_1_7
  | 8 => sb_sels
  | _ => []
theorem lwT_in (k : Nat) (w : Cond) (h : w ∈ lwT k) : w ∈ lw_tblP := by
  unfold lw_tblP lw_tbl tables_1
  unfold lwT at h
  split at h
  · exact List.mem_append_right _ (List.mem_append_left _ h)
  · exact List.mem_append_right _ (List.mem_append_right _ (List.mem_append_left _ h))
  · exact List.mem_append_right _ (List.mem_append_right _ (List.mem_append_right _ (List.mem_append_left _ h)))
  · exact List.mem_append_right _ (List.mem_append_right _ (List.mem_append_right _ (List.mem_append_right _ (List.mem_append_left _ h))))
  · exact List.mem_append_right _ (List.mem_append_right _ (List.mem_append_right _ (List.mem_append_right _ (List.mem_append_right _ (List.mem_append_left _ h)))))
  · exact List.mem_append_right _ (List.mem_append_right _ (List.mem_append_right _ (List.mem_append_right _ (List.mem_append_right _ (List.mem_append_right _ (List.mem_append_left _ h))))))
  · exact List.mem_append_right _ (List.mem_append_right _ (List.mem_append_right _ (List.mem_append_right _ (List.mem_append_right _ (List.mem_append_right _ (List.mem_append_right _ (List.mem_append_left _ h)))))))
  · exact List.mem_append_right _ (List.mem_append_right _ (List.mem_append_right _ (List.mem_append_right _ (List.mem_append_right _ (List.mem_append_right _ (List.mem_append_right _ (List.mem_append_right _ (h))))))))
  · exact List.mem_append_left _ h
  · cases h
theorem lwT_places {ws : List Cond} (ps : List (Nat × Nat)) (hp : ws = ps.filterMap (fun p => (lwT p.1)[p.2]?)) : ∀ w ∈ ws, w ∈ lw_tblP := by
  intro w hw
  rw [hp] at hw
  obtain ⟨p, -, hi⟩ := List.mem_filterMap.mp hw
  exact lwT_in p.1 w (by first | exact List.mem_of_getElem? hi | exact List.getElem?_mem hi)
theorem lw_mem_app {a b : List Cond} (ha : ∀ w ∈ a, w ∈ lw_tblP) (hb : ∀ w ∈ b, w ∈ lw_tblP) : ∀ w ∈ a ++ b, w ∈ lw_tblP :=
  fun w h => (List.mem_append.mp h).elim (ha w) (hb w)
theorem wsL_law0_r1_in : ∀ w ∈ wsL_law0_r1, w ∈ lw_tblP := lwT_places [(1, 30), (1, 31), (1, 1), (1, 63), (1, 32), (1, 33), (1, 34), (1, 35), (1, 36), (1, 37), (1, 62), (2, 87), (2, 88), (2, 89), (1, 38), (1, 39), (1, 2), (2, 90), (1, 173), (1, 174), (1, 6), (2, 91), (2, 29), (1, 182)] (by decide +kernel)
theorem wsL_law0_r2_in : ∀ w ∈ wsL_law0_r2, w ∈ lw_tblP := lwT_places [(1, 7), (2, 92), (2, 31), (2, 32), (1, 8), (2, 93), (2, 70), (2, 71), (1, 9), (2, 94), (2, 95), (2, 118), (2, 96), (1, 40), (1, 41), (1, 42), (1, 43), (1, 133), (1, 136), (1, 44), (1, 45), (1, 3), (1, 138), (1, 65)] (by decide +kernel)
theorem wsL_law0_r3_in : ∀ w ∈ wsL_law0_r3, w ∈ lw_tblP := lwT_places [(1, 66), (1, 4), (1, 141), (1, 101), (1, 102), (1, 5), (1, 146), (1, 150), (1, 152), (1, 154), (1, 47), (1, 48), (1, 49), (1, 50), (1, 64), (1, 53), (1, 54), (1, 68), (1, 69), (1, 70), (1, 71), (1, 74), (1, 77), (1, 80)] (by decide +kernel)
theorem wsL_law0_r4_in : ∀ w ∈ wsL_law0_r4, w ∈ lw_tblP := lwT_places [(1, 83), (1, 86), (1, 104), (1, 105), (1, 106), (1, 107), (1, 111), (1, 115), (1, 118), (1, 121), (1, 176), (1, 177), (1, 178), (1, 179), (1, 233), (1, 235), (1, 181), (1, 237), (1, 238), (1, 239), (2, 0), (2, 1), (2, 2), (2, 3)] (by decide +kernel)
theorem wsL_law0_r5_in : ∀ w ∈ wsL_law0_r5, w ∈ lw_tblP := lwT_places [(2, 4), (2, 5), (1, 180), (1, 184), (1, 185), (1, 186), (1, 189), (1, 192), (1, 194), (1, 197), (1, 200), (1, 201), (1, 202), (1, 187), (1, 203), (1, 204), (1, 205), (1, 206), (1, 207), (2, 34), (2, 35), (2, 36), (2, 39), (2, 41)] (by decide +kernel)
theorem wsL_law0_r6_in : ∀ w ∈ wsL_law0_r6, w ∈ lw_tblP := lwT_places [(2, 43), (2, 37), (2, 45), (2, 46), (2, 47), (2, 48), (2, 49), (2, 50), (2, 72), (2, 73), (2, 74), (2, 75), (2, 79), (2, 76), (2, 81), (2, 78), (2, 119), (2, 120), (1, 0), (2, 121), (2, 122), (2, 123), (1, 11), (2, 124)] (by decide +kernel)
theorem wsL_law0_r7_in : ∀ w ∈ wsL_law0_r7, w ∈ lw_tblP := lwT_places [(2, 125), (2, 126), (2, 127), (2, 128), (1, 10), (2, 129), (2, 130), (2, 131), (2, 140), (2, 141), (2, 133), (2, 134), (1, 13), (2, 135), (2, 136), (2, 137), (2, 138), (2, 139), (2, 153), (2, 154), (2, 155), (2, 156), (2, 157), (1, 14)] (by decide +kernel)
theorem wsL_law0_r8_in : ∀ w ∈ wsL_law0_r8, w ∈ lw_tblP := lwT_places [(2, 159), (2, 160), (2, 161), (2, 183), (2, 185), (2, 187), (2, 189), (2, 191), (2, 193), (2, 195), (2, 197), (2, 199), (2, 201), (3, 6), (3, 7), (3, 8), (3, 9), (3, 10), (3, 12), (3, 13), (3, 14), (3, 15), (3, 16), (7, 49)] (by decide +kernel)
theorem wsL_law0_r9_in : ∀ w ∈ wsL_law0_r9, w ∈ lw_tblP := lwT_places [(2, 152), (3, 17), (3, 18), (2, 143), (3, 19), (7, 50), (8, 0), (3, 21), (3, 22), (3, 23), (7, 51), (8, 1), (3, 25), (3, 26), (3, 27), (7, 52), (8, 2), (3, 29), (3, 30), (3, 41), (3, 31), (3, 32), (1, 15), (3, 33)] (by decide +kernel)
theorem wsL_law0_r10_in : ∀ w ∈ wsL_law0_r10, w ∈ lw_tblP := lwT_places [(3, 34), (3, 35), (1, 16), (3, 36), (3, 37), (3, 38), (3, 39), (3, 40), (3, 42), (3, 43), (1, 17), (3, 44), (3, 45), (3, 46), (3, 47), (3, 48), (3, 49), (3, 51), (3, 52), (3, 53), (3, 54), (3, 55), (3, 57), (3, 56)] (by decide +kernel)
theorem wsL_law0_r11_in : ∀ w ∈ wsL_law0_r11, w ∈ lw_tblP := lwT_places [(1, 18), (3, 58), (3, 60), (3, 61), (3, 59), (3, 62), (3, 63), (3, 64), (3, 65), (3, 83), (3, 66), (3, 67), (3, 68), (3, 69), (3, 70), (3, 71), (3, 72), (3, 73), (1, 12), (3, 74), (3, 75), (3, 77), (3, 78), (1, 19)] (by decide +kernel)
theorem wsL_law0_r12_in : ∀ w ∈ wsL_law0_r12, w ∈ lw_tblP := lwT_places [(3, 79), (3, 80), (3, 81), (3, 82), (3, 85), (3, 87), (3, 89), (3, 90), (3, 91), (3, 92), (4, 68), (3, 93), (3, 94), (3, 95), (3, 96), (3, 97), (4, 69), (3, 98), (7, 53), (8, 3), (3, 100), (3, 101), (3, 102), (7, 54)] (by decide +kernel)
theorem wsL_law0_r13_in : ∀ w ∈ wsL_law0_r13, w ∈ lw_tblP := lwT_places [(8, 4), (3, 104), (3, 105), (3, 106), (3, 107), (7, 55), (8, 5), (3, 109), (3, 110), (3, 111), (3, 112), (1, 20), (3, 113), (3, 114), (3, 115), (3, 116), (3, 117), (3, 118), (3, 119), (3, 120), (3, 121), (3, 122), (3, 123), (3, 124)] (by decide +kernel)
theorem wsL_law0_r14_in : ∀ w ∈ wsL_law0_r14, w ∈ lw_tblP := lwT_places [(3, 125), (3, 126), (3, 127), (3, 128), (3, 129), (3, 130), (3, 131), (3, 132), (3, 133), (3, 134), (3, 135), (3, 136), (7, 56), (3, 137), (3, 138), (3, 139), (3, 140), (1, 22), (3, 141), (3, 142), (3, 143), (3, 144), (3, 145), (3, 147)] (by decide +kernel)
theorem wsL_law0_r15_in : ∀ w ∈ wsL_law0_r15, w ∈ lw_tblP := lwT_places [(3, 149), (3, 150), (3, 151), (3, 152), (3, 153), (3, 154), (3, 155), (3, 156), (3, 157), (3, 158), (3, 159), (3, 160), (3, 161), (7, 57), (3, 162), (3, 163), (3, 164), (3, 165), (3, 166), (3, 167), (3, 168), (3, 169), (3, 170), (3, 171)] (by decide +kernel)
theorem wsL_law0_r16_in : ∀ w ∈ wsL_law0_r16, w ∈ lw_tblP := lwT_places [(3, 172), (3, 173), (3, 174), (3, 175), (3, 176), (3, 177), (3, 178), (3, 180), (3, 181), (3, 182), (3, 183), (3, 184), (3, 185), (3, 186), (2, 173), (3, 187), (3, 188), (3, 189), (3, 190), (2, 178), (3, 192), (3, 193), (3, 194), (3, 195)] (by decide +kernel)
theorem wsL_law0_r17_in : ∀ w ∈ wsL_law0_r17, w ∈ lw_tblP := lwT_places [(3, 196), (3, 197), (3, 198), (3, 199), (3, 200), (3, 201), (3, 202), (3, 203), (3, 204), (3, 205), (3, 206), (3, 207), (3, 208), (3, 209), (3, 210), (2, 166), (3, 211), (3, 212), (3, 213), (3, 214), (3, 215), (3, 216), (3, 217), (3, 218)] (by decide +kernel)
theorem wsL_law0_r18_in : ∀ w ∈ wsL_law0_r18, w ∈ lw_tblP := lwT_places [(2, 162), (2, 164), (3, 219), (3, 220), (3, 221), (3, 222), (3, 223), (3, 224), (3, 225), (3, 226), (3, 227), (3, 228), (3, 229), (3, 230), (3, 231), (2, 176), (3, 232), (3, 233), (3, 234), (3, 235), (3, 236), (3, 237), (3, 238), (3, 239)] (by decide +kernel)
theorem wsL_law0_r19_in : ∀ w ∈ wsL_law0_r19, w ∈ lw_tblP := lwT_places [(4, 0), (4, 1), (4, 2), (4, 3), (4, 4), (4, 5), (4, 6), (4, 7), (2, 182), (4, 8), (4, 9), (4, 10), (4, 11), (4, 12), (2, 180), (4, 13), (4, 14), (4, 15), (4, 16), (4, 17), (4, 19), (4, 20), (4, 21), (4, 22)] (by decide +kernel)
theorem wsL_law0_r20_in : ∀ w ∈ wsL_law0_r20, w ∈ lw_tblP := lwT_places [(4, 23), (4, 24), (4, 25), (4, 26), (4, 27), (4, 28), (4, 29), (4, 30), (4, 31), (2, 142), (4, 32), (4, 34), (4, 35), (4, 33), (4, 36), (4, 37), (4, 39), (4, 38), (4, 40), (4, 41), (4, 42), (4, 43), (4, 38), (4, 44)] (by decide +kernel)
theorem wsL_law0_r21_in : ∀ w ∈ wsL_law0_r21, w ∈ lw_tblP := lwT_places [(4, 45), (4, 46), (4, 47), (4, 48), (4, 49), (4, 50), (4, 51), (4, 52), (4, 53), (4, 54), (4, 55), (4, 56), (4, 57), (4, 58), (4, 59), (4, 60), (4, 61), (4, 62), (4, 63), (4, 64), (4, 65), (4, 66), (4, 67), (4, 79)] (by decide +kernel)
theorem wsL_law0_r22_in : ∀ w ∈ wsL_law0_r22, w ∈ lw_tblP := lwT_places [(4, 80), (4, 81), (4, 82), (4, 83), (4, 84), (4, 85), (4, 86), (4, 87), (4, 88), (4, 89), (4, 90), (4, 91), (4, 92), (4, 93), (4, 94), (4, 95), (4, 96), (4, 97), (4, 98), (4, 99), (4, 100), (4, 101), (4, 102), (4, 104)] (by decide +kernel)
theorem wsL_law0_r23_in : ∀ w ∈ wsL_law0_r23, w ∈ lw_tblP := lwT_places [(0, 0), (4, 105), (4, 106), (7, 58), (4, 107), (4, 108), (4, 109), (4, 110), (4, 111), (1, 26), (1, 236), (1, 234), (4, 174), (4, 175), (4, 176), (4, 177), (4, 178), (4, 179), (4, 180), (4, 181), (4, 182), (4, 183), (1, 51), (1, 72)] (by decide +kernel)
theorem wsL_law0_r24_in : ∀ w ∈ wsL_law0_r24, w ∈ lw_tblP := lwT_places [(1, 109), (4, 184), (4, 185), (4, 186), (4, 187), (4, 189), (0, 2), (4, 190), (1, 134), (4, 191), (4, 193), (0, 3), (4, 194), (4, 195), (4, 196), (4, 197), (4, 198), (4, 199), (1, 27), (4, 200), (4, 201), (4, 203), (0, 4), (4, 204)] (by decide +kernel)
theorem wsL_law0_r25_in : ∀ w ∈ wsL_law0_r25, w ∈ lw_tblP := lwT_places [(4, 206), (4, 207), (4, 208), (4, 209), (4, 210), (4, 211), (4, 212), (4, 213), (4, 214), (4, 215), (4, 216), (4, 217), (4, 219), (0, 5), (4, 220), (4, 225), (4, 227), (0, 6), (4, 228), (4, 229), (4, 231), (0, 7), (4, 232), (4, 233)] (by decide +kernel)
theorem wsL_law0_r26_in : ∀ w ∈ wsL_law0_r26, w ∈ lw_tblP := lwT_places [(4, 235), (0, 8), (4, 236), (4, 238), (5, 0), (0, 9), (5, 1), (1, 139), (5, 2), (5, 3), (5, 4), (5, 5), (5, 6), (5, 8), (0, 10), (5, 9), (5, 10), (5, 11), (5, 12), (5, 13), (5, 14), (5, 15), (5, 16), (5, 17)] (by decide +kernel)
theorem wsL_law0_r27_in : ∀ w ∈ wsL_law0_r27, w ∈ lw_tblP := lwT_places [(5, 19), (5, 21), (0, 11), (5, 22), (1, 144), (5, 23), (5, 24), (5, 25), (5, 26), (5, 27), (5, 28), (5, 29), (5, 30), (5, 31), (5, 32), (5, 33), (5, 34), (5, 35), (5, 37), (5, 39), (0, 12), (5, 40), (1, 149), (5, 41)] (by decide +kernel)
theorem wsL_law0_r28_in : ∀ w ∈ wsL_law0_r28, w ∈ lw_tblP := lwT_places [(5, 42), (5, 43), (5, 44), (5, 45), (5, 46), (5, 47), (5, 48), (5, 49), (5, 51), (0, 13), (5, 52), (1, 145), (5, 71), (5, 53), (5, 54), (5, 55), (5, 56), (5, 57), (5, 58), (5, 60), (0, 14), (5, 61), (5, 62), (5, 63)] (by decide +kernel)
theorem wsL_law0_r29_in : ∀ w ∈ wsL_law0_r29, w ∈ lw_tblP := lwT_places [(5, 64), (5, 65), (5, 66), (5, 67), (5, 68), (5, 69), (5, 70), (5, 72), (5, 74), (0, 15), (5, 75), (5, 76), (5, 78), (0, 16), (5, 79), (5, 80), (5, 82), (0, 17), (5, 83), (5, 84), (5, 86), (0, 18), (5, 87), (5, 88)] (by decide +kernel)
theorem wsL_law0_r30_in : ∀ w ∈ wsL_law0_r30, w ∈ lw_tblP := lwT_places [(5, 90), (0, 19), (5, 91), (5, 92), (5, 93), (5, 94), (5, 95), (1, 195), (5, 96), (5, 97), (5, 98), (5, 99), (5, 100), (5, 101), (5, 102), (5, 103), (5, 104), (1, 198), (1, 190), (5, 105), (5, 106), (5, 107), (5, 108), (5, 109)] (by decide +kernel)
theorem wsL_law0_r31_in : ∀ w ∈ wsL_law0_r31, w ∈ lw_tblP := lwT_places [(1, 193), (5, 110), (5, 111), (5, 112), (5, 113), (5, 114), (5, 115), (5, 116), (5, 117), (5, 118), (5, 119), (5, 120), (5, 121), (5, 122), (5, 123), (5, 124), (5, 125), (5, 126), (5, 127), (5, 128), (5, 129), (5, 130), (5, 131), (5, 132)] (by decide +kernel)
theorem wsL_law0_r32_in : ∀ w ∈ wsL_law0_r32, w ∈ lw_tblP := lwT_places [(5, 133), (5, 134), (5, 135), (5, 136), (5, 137), (5, 138), (5, 139), (5, 140), (5, 141), (5, 142), (5, 143), (5, 144), (5, 145), (5, 146), (5, 147), (5, 148), (5, 149), (5, 150), (5, 151), (5, 152), (5, 153), (5, 154), (5, 155), (5, 156)] (by decide +kernel)
theorem wsL_law0_r33_in : ∀ w ∈ wsL_law0_r33, w ∈ lw_tblP := lwT_places [(5, 157), (5, 158), (5, 159), (5, 160), (6, 75), (5, 161), (5, 162), (5, 163), (5, 164), (1, 148), (1, 117), (1, 140), (5, 165), (5, 167), (0, 20), (5, 168), (5, 169), (1, 28), (1, 110), (5, 184), (5, 185), (5, 186), (5, 187), (5, 188)] (by decide +kernel)
theorem wsL_law0_r34_in : ∀ w ∈ wsL_law0_r34, w ∈ lw_tblP := lwT_places [(5, 190), (0, 21), (5, 191), (5, 192), (5, 193), (5, 194), (5, 195), (5, 196), (1, 119), (1, 116), (5, 197), (5, 198), (5, 199), (5, 200), (5, 201), (5, 202), (5, 203), (5, 204), (5, 205), (5, 207), (0, 22), (5, 208), (5, 209), (5, 210)] (by decide +kernel)
theorem wsL_law0_r35_in : ∀ w ∈ wsL_law0_r35, w ∈ lw_tblP := lwT_places [(5, 211), (5, 212), (5, 213), (5, 214), (5, 215), (5, 216), (5, 217), (5, 218), (5, 219), (5, 220), (5, 221), (5, 222), (5, 223), (5, 224), (5, 225), (5, 226), (5, 227), (5, 228), (5, 229), (1, 114), (5, 230), (5, 231), (5, 232), (5, 233)] (by decide +kernel)
theorem wsL_law0_r36_in : ∀ w ∈ wsL_law0_r36, w ∈ lw_tblP := lwT_places [(5, 234), (5, 235), (5, 236), (5, 237), (5, 238), (5, 239), (6, 0), (6, 1), (6, 2), (6, 3), (6, 4), (6, 5), (6, 6), (6, 7), (6, 8), (6, 9), (6, 10), (6, 11), (6, 12), (6, 13), (6, 14), (6, 31), (1, 29), (1, 143)] (by decide +kernel)
theorem wsL_law0_r37_in : ∀ w ∈ wsL_law0_r37, w ∈ lw_tblP := lwT_places [(6, 15), (6, 17), (0, 23), (6, 18), (6, 19), (6, 20), (6, 21), (6, 22), (6, 23), (6, 25), (0, 24), (6, 26), (1, 52), (6, 27), (6, 28), (6, 29), (6, 30), (6, 46), (6, 47), (6, 48), (6, 49), (6, 50), (2, 169), (2, 171)] (by decide +kernel)
theorem wsL_law0_r38_in : ∀ w ∈ wsL_law0_r38, w ∈ lw_tblP := lwT_places [(6, 51), (6, 52), (6, 53), (6, 54), (6, 55), (6, 56), (6, 57), (6, 58), (6, 59), (6, 60), (6, 61), (6, 62), (6, 63), (6, 65), (0, 25), (6, 66), (1, 79), (1, 82), (6, 67), (6, 68), (6, 69), (6, 70), (6, 71), (6, 72)] (by decide +kernel)
theorem wsL_law0_r39_in : ∀ w ∈ wsL_law0_r39, w ∈ lw_tblP := lwT_places [(6, 73), (6, 74), (6, 76), (6, 77), (6, 78), (6, 79), (6, 80), (6, 81), (6, 82), (6, 83), (6, 84), (6, 85), (6, 86), (6, 87), (6, 88), (6, 89), (6, 90), (6, 95), (6, 91), (6, 92), (6, 93), (6, 94), (1, 73), (1, 151)] (by decide +kernel)
theorem wsL_law0_r40_in : ∀ w ∈ wsL_law0_r40, w ∈ lw_tblP := lwT_places [(1, 153), (1, 155), (1, 135), (2, 80), (6, 96), (6, 97), (6, 98), (6, 99), (1, 75), (1, 78), (1, 81), (1, 84), (1, 87), (6, 100), (6, 102), (0, 26), (6, 103), (6, 104), (6, 105), (6, 106), (6, 107), (6, 108), (6, 109), (6, 110)] (by decide +kernel)
theorem wsL_law0_r41_in : ∀ w ∈ wsL_law0_r41, w ∈ lw_tblP := lwT_places [(6, 111), (6, 112), (6, 113), (1, 113), (1, 120), (6, 114), (6, 115), (6, 116), (6, 117), (6, 118), (6, 119), (6, 120), (6, 121), (6, 122), (1, 76), (6, 123), (6, 124), (6, 125), (6, 126), (6, 127), (6, 128), (6, 129), (6, 130), (6, 131)] (by decide +kernel)
theorem wsL_law0_r42_in : ∀ w ∈ wsL_law0_r42, w ∈ lw_tblP := lwT_places [(6, 132), (6, 133), (6, 134), (6, 135), (6, 136), (6, 137), (6, 138), (6, 139), (6, 140), (6, 141), (6, 142), (6, 143), (6, 144), (6, 145), (6, 146), (6, 147), (6, 148), (6, 149), (6, 150), (6, 151), (6, 152), (6, 153), (6, 154), (6, 155)] (by decide +kernel)
theorem wsL_law0_r43_in : ∀ w ∈ wsL_law0_r43, w ∈ lw_tblP := lwT_places [(1, 137), (6, 156), (6, 158), (0, 27), (6, 159), (6, 160), (6, 161), (6, 162), (6, 163), (6, 164), (6, 165), (6, 166), (6, 167), (6, 168), (6, 169), (6, 170), (6, 171), (6, 172), (6, 173), (6, 174), (6, 175), (6, 176), (6, 177), (6, 178)] (by decide +kernel)
theorem wsL_law0_r44_in : ∀ w ∈ wsL_law0_r44, w ∈ lw_tblP := lwT_places [(6, 179), (6, 180), (6, 181), (6, 182), (6, 183), (6, 184), (1, 85), (6, 185), (6, 186), (6, 187), (6, 188), (6, 189), (6, 190), (6, 191), (6, 192), (6, 193), (6, 194), (6, 195), (6, 196), (6, 197), (6, 198), (6, 199), (6, 200), (6, 201)] (by decide +kernel)
theorem wsL_law0_r45_in : ∀ w ∈ wsL_law0_r45, w ∈ lw_tblP := lwT_places [(6, 202), (1, 191), (1, 199), (1, 196), (6, 203), (6, 204), (6, 205), (6, 206), (6, 207), (6, 208), (6, 209), (6, 210), (6, 211), (6, 212), (6, 213), (6, 214), (6, 215), (6, 216), (6, 217), (6, 218), (6, 219), (6, 220), (6, 221), (6, 222)] (by decide +kernel)
theorem wsL_law0_r46_in : ∀ w ∈ wsL_law0_r46, w ∈ lw_tblP := lwT_places [(6, 223), (6, 224), (6, 225), (6, 226), (6, 227), (6, 228), (6, 229), (6, 230), (6, 231), (6, 232), (6, 233), (6, 234), (6, 235), (6, 236), (6, 237), (6, 239), (0, 28), (7, 0), (7, 1), (7, 2), (7, 3), (7, 4), (7, 5), (7, 6)] (by decide +kernel)
theorem wsL_law0_r47_in : ∀ w ∈ wsL_law0_r47, w ∈ lw_tblP := lwT_places [(7, 7), (7, 8), (7, 9), (7, 10), (7, 11), (7, 12), (7, 13), (7, 14), (7, 15), (7, 16), (7, 17), (7, 18), (7, 19), (7, 20), (7, 21), (7, 22), (7, 23), (7, 24), (2, 44), (2, 40), (2, 42), (7, 25), (7, 26), (7, 27)] (by decide +kernel)
theorem wsL_law0_r48_in : ∀ w ∈ wsL_law0_r48, w ∈ lw_tblP := lwT_places [(7, 28), (1, 147), (1, 108), (1, 112), (7, 29), (7, 31), (0, 29), (7, 32), (1, 142), (7, 33), (7, 34), (7, 35), (7, 36), (7, 37), (7, 38), (7, 39), (7, 40), (7, 41), (7, 43), (0, 30), (7, 44), (7, 45), (7, 47), (0, 31)] (by decide +kernel)
theorem wsL_law0_r49_in : ∀ w ∈ wsL_law0_r49, w ∈ lw_tblP := lwT_places [(7, 48)] (by decide +kernel)
theorem wsX90_tin : ∀ w ∈ wsX90, w ∈ lw_tblP := lwT_places [(2, 97), (2, 99), (2, 101), (2, 103), (2, 105), (2, 107), (2, 109), (2, 111), (2, 113), (2, 115)] (by decide +kernel)
theorem wsX10_tin : ∀ w ∈ wsX10, w ∈ lw_tblP := lwT_places [(1, 156), (1, 158), (1, 160), (1, 162), (1, 164), (1, 166), (1, 168), (1, 170)] (by decide +kernel)
theorem wsX50_tin : ∀ w ∈ wsX50, w ∈ lw_tblP := lwT_places [(2, 6), (2, 8), (2, 10), (2, 12), (2, 14), (2, 16), (2, 18), (2, 20), (2, 22), (2, 24), (2, 26)] (by decide +kernel)
theorem wsX20_tin : ∀ w ∈ wsX20, w ∈ lw_tblP := lwT_places [(1, 208), (1, 210), (1, 212), (1, 214), (1, 216), (1, 218), (1, 220), (1, 222), (1, 224), (1, 226), (1, 228), (1, 230)] (by decide +kernel)
theorem wsX00_tin : ∀ w ∈ wsX00, w ∈ lw_tblP := lwT_places [(2, 51), (2, 53), (2, 55), (2, 57), (2, 59), (2, 61), (2, 63), (2, 65), (2, 67)] (by decide +kernel)
theorem wsX30_tin : ∀ w ∈ wsX30, w ∈ lw_tblP := lwT_places [(2, 82), (2, 84)] (by decide +kernel)
theorem wsX70_tin : ∀ w ∈ wsX70, w ∈ lw_tblP := lwT_places [(1, 55), (1, 57), (1, 59)] (by decide +kernel)
theorem wsX60_tin : ∀ w ∈ wsX60, w ∈ lw_tblP := lwT_places [(1, 88), (1, 90), (1, 92), (1, 94), (1, 96), (1, 98)] (by decide +kernel)
theorem wsX80_tin : ∀ w ∈ wsX80, w ∈ lw_tblP := lwT_places [(1, 122), (1, 124), (1, 126), (1, 128), (1, 130)] (by decide +kernel)
theorem wsJ40_tin : ∀ w ∈ wsJ40, w ∈ lw_tblP := lwT_places [(2, 144), (2, 146), (2, 148), (2, 150)] (by decide +kernel)
theorem wsX100_tin : ∀ w ∈ wsX100, w ∈ lw_tblP := lwT_places [(2, 203), (2, 205), (2, 207), (2, 209), (2, 211), (2, 213), (2, 215), (2, 217), (2, 219), (2, 221), (2, 223), (2, 225), (2, 227), (2, 229), (2, 231), (2, 233), (2, 235), (2, 237), (2, 239), (3, 1), (3, 3)] (by decide +kernel)
theorem wsJ00_tin : ∀ w ∈ wsJ00, w ∈ lw_tblP := lwT_places [(4, 70), (4, 72), (4, 74), (4, 76)] (by decide +kernel)
theorem wsL_law_x0 : ∀ w ∈ (vx_at0 RX9 69 "java/lang/IllegalArgumentException" ["java/lang/RuntimeException", "java/lang/Exception"]).filter goodWord, w ∈ lw_tblP := by decide +kernel
theorem wsL_law_x1 : ∀ w ∈ (vx_at0 RX9 313 "java/lang/IndexOutOfBoundsException" ["java/lang/RuntimeException", "java/lang/Exception"]).filter goodWord, w ∈ lw_tblP := by decide +kernel
theorem wsL_law_x2 : ∀ w ∈ (vx_at0 RX9 264 "java/lang/IllegalStateException" ["java/lang/RuntimeException", "java/lang/Exception"]).filter goodWord, w ∈ lw_tblP := by decide +kernel
theorem wsL_law_in0 : ∀ w ∈ wsL_law0, w ∈ lw_tblP := (lw_mem_app (lw_mem_app (lw_mem_app (lw_mem_app (lw_mem_app (lw_mem_app (lw_mem_app (lw_mem_app (lw_mem_app (lw_mem_app (lw_mem_app (lw_mem_app (lw_mem_app (lw_mem_app wsL_law0_r1_in (lw_mem_app wsL_law0_r2_in (lw_mem_app wsL_law0_r3_in (lw_mem_app wsL_law0_r4_in (lw_mem_app wsL_law0_r5_in (lw_mem_app wsL_law0_r6_in (lw_mem_app wsL_law0_r7_in (lw_mem_app wsL_law0_r8_in (lw_mem_app wsL_law0_r9_in (lw_mem_app wsL_law0_r10_in (lw_mem_app wsL_law0_r11_in (lw_mem_app wsL_law0_r12_in (lw_mem_app wsL_law0_r13_in (lw_mem_app wsL_law0_r14_in (lw_mem_app wsL_law0_r15_in (lw_mem_app wsL_law0_r16_in (lw_mem_app wsL_law0_r17_in (lw_mem_app wsL_law0_r18_in (lw_mem_app wsL_law0_r19_in (lw_mem_app wsL_law0_r20_in (lw_mem_app wsL_law0_r21_in (lw_mem_app wsL_law0_r22_in (lw_mem_app wsL_law0_r23_in (lw_mem_app wsL_law0_r24_in (lw_mem_app wsL_law0_r25_in (lw_mem_app wsL_law0_r26_in (lw_mem_app wsL_law0_r27_in (lw_mem_app wsL_law0_r28_in (lw_mem_app wsL_law0_r29_in (lw_mem_app wsL_law0_r30_in (lw_mem_app wsL_law0_r31_in (lw_mem_app wsL_law0_r32_in (lw_mem_app wsL_law0_r33_in (lw_mem_app wsL_law0_r34_in (lw_mem_app wsL_law0_r35_in (lw_mem_app wsL_law0_r36_in (lw_mem_app wsL_law0_r37_in (lw_mem_app wsL_law0_r38_in (lw_mem_app wsL_law0_r39_in (lw_mem_app wsL_law0_r40_in (lw_mem_app wsL_law0_r41_in (lw_mem_app wsL_law0_r42_in (lw_mem_app wsL_law0_r43_in (lw_mem_app wsL_law0_r44_in (lw_mem_app wsL_law0_r45_in (lw_mem_app wsL_law0_r46_in (lw_mem_app wsL_law0_r47_in (lw_mem_app wsL_law0_r48_in wsL_law0_r49_in)))))))))))))))))))))))))))))))))))))))))))))))) wsX90_tin) wsX10_tin) wsX50_tin) wsX20_tin) wsX00_tin) wsX30_tin) wsX70_tin) wsX60_tin) wsX80_tin) wsJ40_tin) wsX100_tin) wsJ00_tin) (fun _ h => absurd h List.not_mem_nil))
theorem wsL_law_in : ∀ w ∈ wsL_law, w ∈ lw_tblP := lw_mem_app (lw_mem_app (lw_mem_app wsL_law_in0 wsL_law_x0) wsL_law_x1) wsL_law_x2
