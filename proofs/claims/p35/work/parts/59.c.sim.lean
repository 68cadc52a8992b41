/-! between two scripts: nothing waits in the buffer -/
def Sim (S : LC) : Prop := S.1 = 0
theorem p_start (kb : Nat → Nat → Nat → Nat) : Sim (S0 kb) := rfl
theorem p_all (S : LC) (p1 : Nat → Int32) (h : Sim S) : ∃ S9, pL_plays S p1 S9 ∧ Sim S9 := by
  obtain ⟨s1, s2, s3, s4, s5, s6, s7, s8, s9, s10, s11, s12, s13, s14, s15, s16, s17, s18, s19, s20, s21, s22, s23, s24, s25, s26, s27, s28, s29, s30, s31, s32, s33, s34, s35, s36, s37⟩ := S
  have h0 : s1 = 0 := h
  subst h0
  obtain ⟨⟨r1, r2, r3, r4, r5, r6, r7, r8, r9, r10, r11, r12, r13, r14, r15, r16, r17, r18, r19, r20, r21, r22, r23, r24, r25, r26, r27, r28, r29, r30, r31, r32, r33, r34, r35, r36, r37, r38, r39⟩, e, g1, g2⟩ := z_plays s2 s3 s4 s5 s6 s7 s8 s9 s10 s11 s12 s13 s14 s15 s16 s17 s18 s19 s20 s21 s22 s23 s24 s25 s26 s27 s28 s29 s30 s31 s32 s33 s34 s35 s36 s37 p1
  simp only at g1 g2
  subst g1 g2
  exact ⟨_, ⟨_, _, _, _, _, _, _, _, _, _, _, _, _, _, _, _, _, _, _, _, _, _, _, _, _, _, _, _, _, _, _, _, _, _, _, _, _, _, e, rfl⟩, rfl⟩
