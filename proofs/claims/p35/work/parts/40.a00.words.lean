def sb_sels : List Cond := [.selects "java/lang/StringBuilder" ⟨"java/lang/AbstractStringBuilder", "appendNull", "()Ljava/lang/AbstractStringBuilder;"⟩ ⟨"java/lang/AbstractStringBuilder", "appendNull", "()Ljava/lang/AbstractStringBuilder;"⟩, .selects "java/lang/StringBuilder" ⟨"java/lang/AbstractStringBuilder", "ensureCapacityInternal", "(I)V"⟩ ⟨"java/lang/AbstractStringBuilder", "ensureCapacityInternal", "(I)V"⟩, .selects "java/lang/StringBuilder" ⟨"java/lang/AbstractStringBuilder", "newCapacity", "(I)I"⟩ ⟨"java/lang/AbstractStringBuilder", "newCapacity", "(I)I"⟩, .selects "java/lang/StringBuilder" ⟨"java/lang/AbstractStringBuilder", "putStringAt", "(ILjava/lang/String;)V"⟩ ⟨"java/lang/AbstractStringBuilder", "putStringAt", "(ILjava/lang/String;)V"⟩, .selects "java/lang/StringBuilder" ⟨"java/lang/AbstractStringBuilder", "inflateIfNeededFor", "(Ljava/lang/String;)V"⟩ ⟨"java/lang/AbstractStringBuilder", "inflateIfNeededFor", "(Ljava/lang/String;)V"⟩, .selects "java/lang/StringBuilder" ⟨"java/lang/AbstractStringBuilder", "inflate", "()V"⟩ ⟨"java/lang/AbstractStringBuilder", "inflate", "()V"⟩]
def lw_tblP : List Cond := sb_sels ++ lw_tbl
theorem sb_sel {y z : MethodName} {s : State} {args : Array Value} {n : Nat} {C : String} (hy : y.cls ≠ "java/lang/invoke/MethodHandle" ∧ y.cls ≠ "java/lang/invoke/VarHandle") (hz : z.cls = y.cls)
    (hins : (Cond.instantiable C n).before args s = true) (hi : (Cond.selects C z z).before args s = true) (hpriv : (Cond.privateMethod y).before args s = true) (hinst : (Cond.instanceMethod y).before args s = true) :
    (Cond.selects C y y).before args s = true := by
  obtain ⟨c, k, hc, hk, -, -, -, -⟩ := Cond.instantiable_spec hins
  obtain ⟨mk, methM, hnamed, hmethM, -, -⟩ := Cond.instanceMethod_spec hinst
  have hfound : s.methodFound? y.cls y.name y.desc = some mk := State.methodFound?_of_named hnamed hy
  have hsel : selectMethod {} s.vm c mk = .method mk := selectMethod_private hmethM (Cond.privateMethod_at hpriv mk methM hnamed hmethM)
  have hif : (s.vm.classes[mk.cls]?).any (!·.isInterface) = true := by
    simp only [Cond.before, Cond.holds, Cond.value, hc] at hi
    cases hf : s.methodFound? z.cls z.name z.desc with
    | none => simp [hf] at hi
    | some r =>
      cases hn : s.methodNamed? z with
      | none => simp [hf, hn] at hi
      | some mz =>
        have e : mz.cls = mk.cls := by
          have h1 := findClass_of_methodNamed hn
          have h2 := findClass_of_methodNamed hnamed
          rw [hz] at h1
          exact Option.some.inj (h1.symm.trans h2)
        rw [hf, hn] at hi
        dsimp only at hi
        cases hs : selectMethod {} s.vm c r with
        | method m' =>
          rw [hs] at hi
          simp only [e] at hi
          simp at hi
          simpa using hi.2
        | _ => rw [hs] at hi; simp at hi
  simp only [Cond.before, Cond.holds, Cond.value, hc, hfound, hnamed, hsel]
  simp only [hif]
  simp
theorem lwP_ok {args : Array Value} {s : State} (h : ∀ w ∈ lw_tbl, w.before args s = true) : ∀ w ∈ lw_tblP, w.before args s = true := by
  have h1 := h (Cond.instantiable "java/lang/StringBuilder" 4) (by decide +kernel)
  have h2 := h (Cond.selects "java/lang/StringBuilder" ⟨"java/lang/AbstractStringBuilder", "isLatin1", "()Z"⟩ ⟨"java/lang/AbstractStringBuilder", "isLatin1", "()Z"⟩) (by decide +kernel)
  intro w hw
  rcases List.mem_append.mp hw with hw | hw
  · have hq : ∀ w ∈ sb_sels, ∃ y : MethodName, w = .selects "java/lang/StringBuilder" y y ∧ y.cls = "java/lang/AbstractStringBuilder" ∧ Cond.privateMethod y ∈ lw_tbl ∧ Cond.instanceMethod y ∈ lw_tbl := by
      intro w hw
      simp only [sb_sels, List.mem_cons, List.not_mem_nil, or_false] at hw
      rcases hw with rfl | rfl | rfl | rfl | rfl | rfl <;> exact ⟨_, rfl, rfl, by decide +kernel, by decide +kernel⟩
    obtain ⟨y, rfl, e, p1, p2⟩ := hq w hw
    exact sb_sel (by rw [e]; decide) (by rw [e]) h1 h2 (h _ p1) (h _ p2)
  · exact h w hw
set_option maxRecDepth 20000
def lwT : Nat → List Cond
  | 0 => k2_sels lw_privs
  | 1 => tables_1_1
  | 2 => tables_1_2
  | 3 => tables_1_3
  | 4 => tables_1_4
  | 5 => tables_1_5
  | 6 => tables_1_6
  | 7 => tables_1_7
  | 8 => sb_sels
  | _ => []
theorem lwT_in (k : Nat) (w : Cond) (h : w ∈ lwT k) : w ∈ lw_tblP := by
  unfold lw_tblP lw_tbl tables_1
  unfold lwT at h
  split at h
  · exact List.mem_append_right _ (List.mem_append_left _ h)
  · exact List.mem_append_right _ (List.mem_append_right _ (List.mem_append_left _ h))
  · exact List.mem_append_right _ (List.mem_append_right _ (List.mem_append_right _ (List.mem_append_left _ h)))
  · exact List.mem_append_right _ (List.mem_append_right _ (List.mem_append_right _ (List.mem_append_right _ (List.mem_append_left _ h))))
  · exact List.mem_append_right _ (List.mem_append_right _ (List.mem_append_right _ (List.mem_append_right _ (List.mem_append_right _ (List.mem_append_left _ h)))))
  · exact List.mem_append_right _ (List.mem_append_right _ (List.mem_append_right _ (List.mem_append_right _ (List.mem_append_right _ (List.mem_append_right _ (List.mem_append_left _ h))))))
  · exact List.mem_append_right _ (List.mem_append_right _ (List.mem_append_right _ (List.mem_append_right _ (List.mem_append_right _ (List.mem_append_right _ (List.mem_append_right _ (List.mem_append_left _ h)))))))
  · exact List.mem_append_right _ (List.mem_append_right _ (List.mem_append_right _ (List.mem_append_right _ (List.mem_append_right _ (List.mem_append_right _ (List.mem_append_right _ (List.mem_append_right _ (h))))))))
  · exact List.mem_append_left _ h
  · cases h
theorem lwT_places {ws : List Cond} (ps : List (Nat × Nat)) (hp : ws = ps.filterMap (fun p => (lwT p.1)[p.2]?)) : ∀ w ∈ ws, w ∈ lw_tblP := by
  intro w hw
  rw [hp] at hw
  obtain ⟨p, -, hi⟩ := List.mem_filterMap.mp hw
  exact lwT_in p.1 w (by first | exact List.mem_of_getElem? hi | exact List.getElem?_mem hi)
theorem lwT_one {w : Cond} (k i : Nat) (h : (lwT k)[i]? = some w) : w ∈ lw_tblP := lwT_in k w (by first | exact List.mem_of_getElem? h | exact List.getElem?_mem h)
theorem lw_mem_app {a b : List Cond} (ha : ∀ w ∈ a, w ∈ lw_tblP) (hb : ∀ w ∈ b, w ∈ lw_tblP) : ∀ w ∈ a ++ b, w ∈ lw_tblP :=
  fun w h => (List.mem_append.mp h).elim (ha w) (hb w)
