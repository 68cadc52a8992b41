/-! the law's own methods: bodies with a table of handlers, a call whose throws are caught, a call of such a body -/
theorem g_entryH {l : Launch} {y : MethodName} {wy ws' : List Cond} {rm : Room} {cc : ByteArray} {nL : Nat} {ret : Option FieldType} {hh : List (Nat × Nat × Nat × Nat)} {cl : List vw_C} {E : gE} {av : List Value} {Lw : List va_W} {post : Option Value → List va_W → Prop} {mc ms : Nat} (lv0 : List (Option Value)) (hy : plainName y.cls = true) (hw : wy = Cond.codeWith y cc nL ret hh :: ws') (hn : (lg_sl av).length ≤ nL) (hlv : gar av ++ List.replicate (nL - (lg_sl av).length) none = lv0)
    (body : ∀ (p : Program) (e : Env) (s : State) (m : MethodId) (below : List Frame) (meth : Method) (c : Code) (A : Nat → Prop), gFx p s m av.toArray meth c y.cls wy cc nL ret cl E A → c.exceptionTable.toList = tableOf hh → Gj p l e rm s m av.toArray below meth c 0 0 (MQ below (gQ cl E A post) av.toArray s mc ms A) cl E A Lw lv0 [] 0) : gMetX l y wy rm cl E av Lw post (fun _ _ => False) mc ms := by
  intro sz
  refine vx_ofWH (cc := cc) (maxL := nL) (ret := ret) (hh := hh) hy hw ?_
  intro p e s m args below meth c s₁ B hml hv
  obtain ⟨rfl, hsz, hP, hK, hD0, hZ⟩ := hv
  subst hsz
  have hts := atoms_spec (ws := wy) B.pre
  have F : gFx p s m av.toArray meth c y.cls wy cc nL ret cl E (va_A Lw.flatten s.heap.size) := ⟨B.exec, B.bytes, hml, B.returns, findClass_of_methodNamed B.named, hts, hK, fun q h => Or.inr h, B.notSynchronized, hZ⟩
  have htab := vx_table (x := y) B (hts _ (by rw [hw]; exact List.mem_cons_self))
  rw [lg_entry_eq]
  subst hlv
  exact g_x (body p e s m below meth c (va_A Lw.flatten s.heap.size) F htab) s.heap [] _ hP hD0.self va_S.rf (gL_entry av hn)
section GLW
variable {p : Program} {l : Launch} {e : Env} {R : Room} {s : State} {m : MethodId} {args : Array Value} {below : List Frame} {meth : Method} {c : Code} {cells slots : Nat} {Q : State → Prop}
variable {own : String} {Ts : List Cond} {cc : ByteArray} {nL : Nat} {ret : Option FieldType} {cl : List vw_C} {E : gE} {A : Nat → Prop}
variable {Lw Lw' Lc Lr : List va_W} {lv lv' : List (Option Value)} {st rest : List Value} {pc : Nat}
theorem g_callVC (F : gFx p s m args meth c own Ts cc nL ret cl E A) {hh : List (Nat × Nat × Nat × Nat)} {y : MethodName} {wy ws' : List Cond} {rm : Room} {C : String} {T : u_T} {N ci ix maxL b mc ms : Nat} {bytes : ByteArray} {ret' : Option FieldType} {post : Option Value → List va_W → Prop} {pX : String → List va_W → Prop} {seg : va_W} {fs As : List Value} (i j n : Nat)
    (hM : gMetX l y wy rm cl E (.ref b :: As) Lc post pX mc ms) (hG : GoodIn Ts (wsV own ix C y wy)) (hw : wy = Cond.code y bytes maxL ret' :: ws') (hrc : rm.cells = mc) (hrs : rm.slots = ms)
    (hd0 : y.cls = C ∧ y.cls ≠ "java/lang/invoke/MethodHandle" ∧ y.cls ≠ "java/lang/invoke/VarHandle" ∧ (parseMethodDescriptor y.desc).map (fun d => d.parameters.length) = some n) (hR : rm.frames + 1 ≤ R.frames ∧ 8 + (maxL + 11) + rm.locals ≤ R.locals)
    (h1 : Lw[i]? = some seg) (h2 : seg[j]? = some (b, .inr (ci, fs))) (hcl : cl[ci]? = some (C, T, N)) (isC isR : List Nat) (hC : isC.map (fun i => Lw[i]?) = Lc.map some) (hRr : isR.map (fun i => Lw[i]?) = Lr.map some) (hnd : gnd (isC ++ isR) = true)
    (hlen : nL = lv.length) (hn : As.length = n) (hstk : st = As.reverse ++ .ref b :: rest) (hroom : (rest.map fun v => v.category).sum ≤ 8) (hd : decode cc pc = .ok (.invokevirtual ix, 3)) (hcs : cells + mc ≤ R.cells ∧ slots + ms ≤ R.slots) (htab : c.exceptionTable.toList = tableOf hh)
    (kk : ∀ (v : Option Value) (w : List va_W), post v w → Gj p l e R s m args below meth c (cells + mc) (slots + ms) Q cl E A (w ++ Lr) lv (v.toList ++ rest) (pc + 3))
    (kx : ∀ (ec : String) (w : List va_W), pX ec w → ∃ (pre : List ExceptionTableEntry) (x : ExceptionTableEntry) (suf : List ExceptionTableEntry), tableOf hh = pre ++ x :: suf ∧ ec ∈ gEx ∧ Cond.classLink own x.catchType ec ∈ Ts ∧ covers x pc = true ∧ x.catchType ≠ 0 ∧ (∀ z ∈ pre, z.catchType ≠ 0 ∧ ∃ nm : String, nm ∈ gEx ∧ ec ≠ nm ∧ Cond.classLink own z.catchType nm ∈ Ts) ∧
      ∀ q : Nat, Gj p l e R s m args below meth c (cells + mc) (slots + ms) Q cl E A (w ++ Lr) lv [.ref q] x.handlerPc) :
    Gj p l e R s m args below meth c cells slots Q cl E A Lw lv st pc := fun H locs ls hP hD hS hl => by
  have hs8 : (isC ++ isR).map (fun i => Lw[i]?) = (Lc ++ Lr).map some := by rw [List.map_append, List.map_append, hC, hRr]
  have hP9 := gsubP (isC ++ isR) hs8 hP
  have hD9 := gsubD (isC ++ isR) hs8 hnd hD
  obtain ⟨q, h3, -⟩ := gfl_get h1 h2
  have hr := va_recv F.2.2.2.2.2.2.1 hP hcl h3
  have hrun := vx_runV (As := As) (rest := rest) (H := H) (locs := locs) (cells := cells) (slots := slots) (l := l) (p := p) (e := e) (below := below) (meth := meth) (R := R) (g := F0 m pc ls st) ⟨F.1, F.2.1, F.2.2.1, F.2.2.2.2.1, F.2.2.2.2.2.1⟩ (hM H.size) (cwV n F.2.2.2.2.2.1 hG hw hrc hrs hd0 hR) ⟨gP_blind, hr, fun U hU hW => ⟨rfl, by rw [hU], by rw [hU]; exact gsubP isC hC hP, va_K.moved hW.alike F.2.2.2.2.2.2.1, by
    have := gD_iff.mp hD9
    rw [List.flatten_append, List.pairwise_append] at this
    exact gD_iff.mpr ⟨this.1.1, fun _ _ => trivial⟩, by rw [hU]; exact gZ_call F hD9 hS hW⟩⟩ rfl hn (hl.1.trans hlen.symm) hstk (lv_room hroom) hd hcs
  rw [List.flatten_append] at hP9 hD9
  have hF : ∀ q, va_A Lc.flatten H.size q → A q := by
    intro q h
    rcases h with ⟨k, e, h⟩ | h
    · exact (gD_iff.mp hD9).2 _ (List.mem_append_left _ (List.mem_of_getElem? h))
    · exact F.2.2.2.2.2.2.2.1 q (Nat.le_trans hS.1 h)
  intro T hT X
  rcases hrun T hT X with ⟨v, st₀, t, T', L, h0, X', hL, e1, e2, ⟨⟨v', w', hv, hp, hP1, hK1, hD1⟩, hz, hk⟩, stp⟩ | ⟨q9, st₀, t, T', L, ec, ce, h0, X', hL, e1, e2, ⟨⟨w', hp, hP1, hK1, hD1⟩, hz, hk⟩, hce, hcv, hcc, stp⟩
  · cases hv
    rw [h0] at hz hk
    obtain ⟨hP2, hD2⟩ := g_join hP9 hD9 hk hF hP1 hD1
    rw [← List.flatten_append] at hP2 hD2
    obtain ⟨t2, a1, b1⟩ := kk v w' hp T'.heap (locs ++ L) ls (by rw [e1]; exact hP2) hD2
      ⟨Nat.le_trans hS.1 (by rw [e1]; exact hz), fun q h1 h2 => by rw [e1, hk q (Nat.lt_of_lt_of_le h1 hS.1) (fun z => h2 (hF q z))]; exact hS.2.1 q h1 h2, fun q hq => by
        rcases List.mem_append.mp hq with h | h
        · exact hS.2.2 q h
        · exact hF _ (hL q h)⟩ hl T' rfl X'
    exact ⟨t2, stp t2 a1, b1⟩
  · rw [h0] at hz hk
    obtain ⟨hP2, hD2⟩ := g_join hP9 hD9 hk hF hP1 hD1
    rw [← List.flatten_append] at hP2 hD2
    obtain ⟨pre, x, suf, t1, t2, t3, t4, t5, t6, t7⟩ := kx ec w' hp
    obtain ⟨z1, z2, z3, z4, z5, z6, z7, z8, z9, z10, z11, z12, z13, z14, z15, z16, z17⟩ := F.2.2.2.2.2.2.2.2.2
    have hS2 : va_S A s.heap T'.heap (locs ++ L) := ⟨Nat.le_trans hS.1 (by rw [e1]; exact hz), fun q h1 h2 => by rw [e1, hk q (Nat.lt_of_lt_of_le h1 hS.1) (fun z => h2 (hF q z))]; exact hS.2.1 q h1 h2, fun q hq => by
        rcases List.mem_append.mp hq with h | h
        · exact hS.2.2 q h
        · exact hF _ (hL q h)⟩
    have out := vx_catch (p := p) (l := l) (e := e) (R := R) (s := s) (m := m) (args := args) (below := below) (meth := meth) (c := c) (H := T'.heap) (locs := locs ++ L) (cells := cells + mc) (slots := slots + ms) (Q := Q) (ls := ls) (rest := rest) (pc := pc) (own := own) (name := ec) (E := ec) (ce := ce) (q := q9) F.2.2.2.2.1 pre x suf (htab.trans t1)
      (fun z hz9 => Or.inr ⟨(t6 z hz9).1, (t6 z hz9).2.elim fun nm h9 => ⟨nm, F.2.2.2.2.2.1 _ h9.2.2, z14 ec t2 nm h9.1 h9.2.1⟩⟩) t4 t5 (F.2.2.2.2.2.1 _ t3) (va_Nw.use rfl (z13 ec t2)) (by rw [e1]; exact hce) hcv hcc
      (t7 q9 T'.heap (locs ++ L) ls (by rw [e1]; exact hP2) hD2 hS2 hl)
    obtain ⟨t2, a1, b1⟩ := out T' rfl X'
    exact ⟨t2, stp.trans a1, b1⟩
theorem g_callSX (F : gFx p s m args meth c own Ts cc nL ret cl E A) {hh : List (Nat × Nat × Nat × Nat)} {y : MethodName} {wy ws' : List Cond} {rm : Room} {ix maxL mc ms : Nat} {bytes : ByteArray} {ret' : Option FieldType} {post : Option Value → List va_W → Prop} {As : List Value} (n : Nat)
    (hM : gMetX l y wy rm cl E As Lc post (fun _ _ => False) mc ms) (hG : GoodIn Ts (va_wsS own ix y wy)) (hw : wy = Cond.codeWith y bytes maxL ret' hh :: ws') (hrc : rm.cells = mc) (hrs : rm.slots = ms)
    (hd0 : y.cls ≠ "java/lang/invoke/MethodHandle" ∧ y.cls ≠ "java/lang/invoke/VarHandle" ∧ (parseMethodDescriptor y.desc).map (fun d => d.parameters.length) = some n) (hR : rm.frames + 1 ≤ R.frames ∧ 8 + (maxL + 11) + rm.locals ≤ R.locals)
    (isC isR : List Nat) (hC : isC.map (fun i => Lw[i]?) = Lc.map some) (hRr : isR.map (fun i => Lw[i]?) = Lr.map some) (hnd : gnd (isC ++ isR) = true)
    (hlen : nL = lv.length) (hn : As.length = n) (hstk : st = As.reverse ++ rest) (hroom : (rest.map fun v => v.category).sum ≤ 8) (hd : decode cc pc = .ok (.invokestatic ix, 3)) (hcs : cells + mc ≤ R.cells ∧ slots + ms ≤ R.slots)
    (kk : ∀ (v : Option Value) (w : List va_W), post v w → Gj p l e R s m args below meth c (cells + mc) (slots + ms) Q cl E A (w ++ Lr) lv (v.toList ++ rest) (pc + 3)) :
    Gj p l e R s m args below meth c cells slots Q cl E A Lw lv st pc := fun H locs ls hP hD hS hl => by
  have hs8 : (isC ++ isR).map (fun i => Lw[i]?) = (Lc ++ Lr).map some := by rw [List.map_append, List.map_append, hC, hRr]
  have hP9 := gsubP (isC ++ isR) hs8 hP
  have hD9 := gsubD (isC ++ isR) hs8 hnd hD
  have hrun := vx_runSX (As := As) (rest := rest) (H := H) (locs := locs) (cells := cells) (slots := slots) (l := l) (p := p) (e := e) (below := below) (meth := meth) (R := R) (g := F0 m pc ls st) ⟨F.1, F.2.1, F.2.2.1, F.2.2.2.2.1, F.2.2.2.2.2.1⟩ (hM H.size) (vx_cwSW n F.2.2.2.2.2.1 hG hw hrc hrs hd0 hR) ⟨gP_blind, fun U hU hW => ⟨rfl, by rw [hU], by rw [hU]; exact gsubP isC hC hP, va_K.moved hW.alike F.2.2.2.2.2.2.1, by
    have := gD_iff.mp hD9
    rw [List.flatten_append, List.pairwise_append] at this
    exact gD_iff.mpr ⟨this.1.1, fun _ _ => trivial⟩, by rw [hU]; exact gZ_call F hD9 hS hW⟩⟩ rfl hn (hl.1.trans hlen.symm) hstk (lv_room hroom) hd hcs
  rw [List.flatten_append] at hP9 hD9
  have hF : ∀ q, va_A Lc.flatten H.size q → A q := by
    intro q h
    rcases h with ⟨k, e, h⟩ | h
    · exact (gD_iff.mp hD9).2 _ (List.mem_append_left _ (List.mem_of_getElem? h))
    · exact F.2.2.2.2.2.2.2.1 q (Nat.le_trans hS.1 h)
  intro T hT X
  rcases hrun T hT X with ⟨v, st₀, t, T', L, h0, X', hL, e1, e2, ⟨⟨v', w', hv, hp, hP1, hK1, hD1⟩, hz, hk⟩, stp⟩ | ⟨q9, st₀, t, T', L, ec, ce, h0, X', hL, e1, e2, ⟨⟨w', hp, hP1, hK1, hD1⟩, hz, hk⟩, hce, hcv, hcc, stp⟩
  · cases hv
    rw [h0] at hz hk
    obtain ⟨hP2, hD2⟩ := g_join hP9 hD9 hk hF hP1 hD1
    rw [← List.flatten_append] at hP2 hD2
    obtain ⟨t2, a1, b1⟩ := kk v w' hp T'.heap (locs ++ L) ls (by rw [e1]; exact hP2) hD2
      ⟨Nat.le_trans hS.1 (by rw [e1]; exact hz), fun q h1 h2 => by rw [e1, hk q (Nat.lt_of_lt_of_le h1 hS.1) (fun z => h2 (hF q z))]; exact hS.2.1 q h1 h2, fun q hq => by
        rcases List.mem_append.mp hq with h | h
        · exact hS.2.2 q h
        · exact hF _ (hL q h)⟩ hl T' rfl X'
    exact ⟨t2, stp t2 a1, b1⟩
  · exact hp.elim
end GLW
