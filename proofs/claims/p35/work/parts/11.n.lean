/-! making: new, arrays, constructors -/
def adr (l : List Nat) : Nat → Nat := fun i => l.getD i 0
def adr2 (l : List (Nat → Nat)) : Nat → Nat → Nat := fun i => l.getD i (fun _ => 0)
def adr3 (l : List (Nat → Nat → Nat)) : Nat → Nat → Nat → Nat := fun i => l.getD i (fun _ _ => 0)
abbrev dU : tUsers := (0, (fun _ => 0), (fun _ => 0))
abbrev dP : tPieces := (0, (fun _ => 0), (fun _ => 0), (fun _ => 0), (fun _ => 0), (fun _ => 0))
abbrev dW : tWords := (0, (fun _ => 0), (fun _ => 0), (fun _ => 0), (fun _ => 0))
abbrev dBk : tBk := (0, 0, 0, upd (fun _ => 0) 2 1, (fun _ => 0), dU, dP, dW)
abbrev dCut : tCut := (0, (fun _ => 0), 0, 0, 0, 0, 1, (fun _ => 0), (fun _ => 0), (fun _ => 0), (fun _ => 0))
abbrev dAdv : tAdv := (0, 0, 0, 0, (fun _ => 0), (fun _ => 0), (fun _ => 0), (fun _ => 0))
section GLN
variable {p : Program} {l : Launch} {e : Env} {R : Room} {s : State} {m : MethodId} {args : Array Value} {below : List Frame} {meth : Method} {c : Code} {cells slots : Nat} {Q : State → Prop}
variable {own : String} {Ts : List Cond} {cc : ByteArray} {nL : Nat} {ret : Option FieldType} {cl : List vw_C} {E : gE} {A : Nat → Prop}
variable {Lw Lw' Lc Lr Ls : List va_W} {lv lv' : List (Option Value)} {st rest : List Value} {pc : Nat}
theorem gfl_push {Lw : List va_W} {x : Nat × va_E} : (Lw ++ [[x]]).flatten = Lw.flatten ++ [x] := by simp
theorem g_pack (hw : Lr ++ [Ls.flatten] = Lw') (k : Gj p l e R s m args below meth c cells slots Q cl E A Lw' lv st pc) : Gj p l e R s m args below meth c cells slots Q cl E A (Ls ++ Lr) lv st pc := by
  subst hw
  refine g_permF ?_ k
  rw [List.flatten_append, List.flatten_append, List.flatten_singleton]
  exact List.perm_append_comm
theorem g_eqF (hw : Lw.flatten = Lw'.flatten) (k : Gj p l e R s m args below meth c cells slots Q cl E A Lw' lv st pc) : Gj p l e R s m args below meth c cells slots Q cl E A Lw lv st pc := g_permF (List.Perm.of_eq hw) k
theorem g_new (F : gFx p s m args meth c own Ts cc nL ret cl E A) {C : String} {T : u_T} {N ci ix : Nat} {tys : Nat → FieldType} (fs : List Value) (hin : ∀ w ∈ u_ws C T N, w ∈ Ts) (hty : ∀ k, k < N → parseFieldDescriptor (T k).2.2.1 = some (tys k)) (hcl : Cond.classLink own ix C ∈ Ts) (hinst : Cond.instantiable C N ∈ Ts) (hini : Cond.initialized C ∈ Ts) (hc : cl[ci]? = some (C, T, N)) (hfs : ∀ j, j < N → defaultValue (tys j) = vp_V fs j) (hcs : cells + 1 ≤ R.cells) (hss : slots + N ≤ R.slots) (hd : decode cc pc = .ok (.new ix, 3))
    (k : ∀ q : Nat, Gj p l e R s m args below meth c (cells + 1) (slots + N) Q cl E A (Lw ++ [[(q, .inr (ci, fs))]]) lv (.ref q :: st) (pc + 3)) : Gj p l e R s m args below meth c cells slots Q cl E A Lw lv st pc := fun H locs ls hP hD hS hl => by
  refine va_new F.1 F.2.1 F.2.2.2.2.2.1 hin tys hty F.2.2.2.2.1 (F.2.2.2.2.2.1 _ hcl) (F.2.2.2.2.2.1 _ hinst) (F.2.2.2.2.2.1 _ hini) F.2.2.2.2.2.2.1 hP hD hS F.2.2.2.2.2.2.2.1 hc hfs hcs hss hd (fun q H1 hP1 hD1 hS1 => ?_)
  rw [← gfl_push] at hP1 hD1
  exact k q H1 locs ls hP1 hD1 hS1 hl
theorem g_newa (F : gFx p s m args meth c own Ts cc nL ret cl E A) {atype : ArrayType} {ty : FieldType} {n : Int32} {N' : Nat} (t0 : Nat) (a0 : vp_A) (ht : (gT E)[t0]? = some (E.2.1 t0, ty)) (hty : newarray.typeOf atype = ty) (hRA : ∀ cA : ClassId, va_RA s cA ty → s.vm.findClass ("[" ++ ty.toString) = some cA) (harr : Cond.arrayClass (newarray.typeOf atype) ∈ Ts) (ha : ∀ cA : ClassId, vp_cell cA a0 = arrV cA N' (fun _ => defaultValue ty)) (hn : ¬ n < 0) (hN : n.toNatClampNeg = N') (hby : N' * componentBytes ty ≤ 536870912) (hcs : cells + 1 ≤ R.cells) (hss : slots + N' ≤ R.slots) (hd : decode cc pc = .ok (.newarray atype, 2))
    (k : ∀ q : Nat, Gj p l e R s m args below meth c (cells + 1) (slots + N') Q cl E A (Lw ++ [[(q, .inl (E.2.1 t0, a0))]]) lv (.ref q :: st) (pc + 2)) : Gj p l e R s m args below meth c cells slots Q cl E A Lw lv (.int n :: st) pc := fun H locs ls hP hD hS hl => by
  refine va_newa F.1 F.2.1 (F.2.2.2.2.2.1 _ harr) hty F.2.2.2.2.2.2.1 hP hD hS F.2.2.2.2.2.2.2.1 ha hn hN hby hcs hss hd (fun q cA H1 hK1 hP1 hD1 hS1 => ?_)
  have e1 := hRA _ (F.2.2.2.2.2.2.1.2 t0 _ ht).2
  have e2 := hRA _ (hK1.2 (gT E).length (cA, ty) (by rw [List.getElem?_append_right (Nat.le_refl _), Nat.sub_self]; rfl)).2
  have e3 : cA = E.2.1 t0 := Option.some.inj (e2.symm.trans e1)
  subst e3
  rw [← gfl_push] at hP1 hD1
  exact k q H1 locs ls hP1 hD1 hS1 hl
theorem g_newq (F : gFx p s m args meth c own Ts cc nL ret cl E A) {ix : Nat} {n : Int32} {N' : Nat} (hcl : Cond.classLink own ix "PieceDeposits$Book" ∈ Ts) (hn : ¬ n < 0) (hN : n.toNatClampNeg = N') (hby : N' * 4 ≤ 536870912) (hcs : cells + 1 ≤ R.cells) (hss : slots + N' ≤ R.slots) (hd : decode cc pc = .ok (.anewarray ix, 3))
    (k : ∀ q : Nat, Gj p l e R s m args below meth c (cells + 1) (slots + N') Q cl E A (Lw ++ [[(q, .inl (E.2.1 4, N', .inr (.inr (.inr (.inr (fun _ => none))))))]]) lv (.ref q :: st) (pc + 3)) : Gj p l e R s m args below meth c cells slots Q cl E A Lw lv (.int n :: st) pc := fun H locs ls hP hD hS hl => by
  refine va_newq F.1 F.2.1 F.2.2.2.2.1 (F.2.2.2.2.2.1 _ hcl) F.2.2.2.2.2.2.2.2.2.2.2.2.2.2.2.2.2.2.2.2.2.2.2.2.2.1 F.2.2.2.2.2.2.1 hP hD hS F.2.2.2.2.2.2.2.1 hn hN hby hcs hss hd (fun q cA H1 hK1 hP1 hD1 hS1 => ?_)
  obtain ⟨_, _, _, _, _, e1⟩ := (F.2.2.2.2.2.2.1.2 4 _ rfl).2
  obtain ⟨_, _, _, _, _, e2⟩ := (hK1.2 (gT E).length (cA, .object "PieceDeposits$Book") (by rw [List.getElem?_append_right (Nat.le_refl _), Nat.sub_self]; rfl)).2
  have e3 : cA = E.2.1 4 := Option.some.inj (e2.symm.trans e1)
  subst e3
  rw [← gfl_push] at hP1 hD1
  exact k q H1 locs ls hP1 hD1 hS1 hl
theorem g_mna (F : gFx p s m args meth c own Ts cc nL ret cl E A) {ix : Nat} (hcl : Cond.classLink own ix "[[I" ∈ Ts) (harr : Cond.arrayClass .int ∈ Ts) (hcs : cells + 13 ≤ R.cells) (hss : slots + 96 ≤ R.slots) (hd : decode cc pc = .ok (.multianewarray ix 2, 4))
    (k : ∀ (q : Nat) (r : Nat → Nat), Gj p l e R s m args below meth c (cells + 13) (slots + 96) Q cl E A (Lw ++ [[(q, .inl (E.2.1 5, 12, .inr (.inr (.inr (.inr (fun i => if i < 12 then some (r i) else none))))))], sCutR E r (fun _ _ => 0)]) lv (.ref q :: st) (pc + 4)) : Gj p l e R s m args below meth c cells slots Q cl E A Lw lv (.int 7 :: .int 12 :: st) pc := fun H locs ls hP hD hS hl => by
  have hcy : s.vm.findClass (FieldType.array .int).toString = some (E.2.1 1) := (F.2.2.2.2.2.2.1.2 1 _ rfl).2
  refine va_mna (X := Lw.flatten) (L := []) (f := fun _ => .inr (0, [])) (ty := .int) (N' := 12) (K' := 7) (z := (7, .inl (fun _ => 0))) F.1 F.2.1 F.2.2.2.2.1 (F.2.2.2.2.2.1 _ hcl) F.2.2.2.2.2.2.2.2.2.2.2.2.2.2.2.2.2.2.2.2.2.2.2.2.1 (F.2.2.2.2.2.1 _ harr) hcy F.2.2.2.2.2.2.1 (by rw [show va_pl [] (fun _ => (.inr (0, []) : va_E)) = [] from rfl, List.append_nil]; exact hP) (by rw [show va_pl [] (fun _ => (.inr (0, []) : va_E)) = [] from rfl, List.append_nil]; exact hD) hS F.2.2.2.2.2.2.2.1 (by decide) (by decide) (by decide) (by decide) (by decide) (by decide) (by decide) rfl rfl (by omega) (by omega) (fun cc9 => rfl) hd (fun q r cA H1 hinj hnL hK1 hP1 hD1 hS1 => ?_)
  have e2 : s.vm.findClass ("[" ++ (FieldType.array .int).toString) = some cA := (hK1.2 (gT E).length (cA, .array .int) (by rw [List.getElem?_append_right (Nat.le_refl _), Nat.sub_self]; rfl)).2
  have e1 : s.vm.findClass ("[" ++ (FieldType.array .int).toString) = some (E.2.1 5) := (F.2.2.2.2.2.2.1.2 5 _ rfl).2
  have e3 : cA = E.2.1 5 := Option.some.inj (e2.symm.trans e1)
  subst e3
  have er : va_pl ([] ++ (List.range 12).map r) (vr_up (fun _ => .inr (0, [])) ((List.range 12).map r) (.inl (E.2.1 1, (7, .inl (fun _ => 0))))) = sCutR E r (fun _ _ => 0) := by
    unfold va_pl sCutR
    rw [List.nil_append, List.map_map]
    refine List.map_congr_left fun i hi => ?_
    show (r i, vr_up _ _ _ (r i)) = _
    rw [vr_up_in (List.mem_map.mpr ⟨i, hi, rfl⟩)]
  rw [er] at hP1 hD1
  have ef : (Lw ++ [[(q, (.inl (E.2.1 5, 12, .inr (.inr (.inr (.inr (fun i => if i < 12 then some (r i) else none))))) : va_E))], sCutR E r (fun _ _ => 0)]).flatten = (Lw.flatten ++ [(q, .inl (E.2.1 5, 12, .inr (.inr (.inr (.inr (fun i => if i < 12 then some (r i) else none))))))]) ++ sCutR E r (fun _ _ => 0) := by simp
  have kk := k q r H1 locs ls (by rw [ef]; exact hP1) (by rw [ef]; exact hD1) hS1 hl
  exact kk
theorem g_putF (F : gFx p s m args meth c own Ts cc nL ret cl E A) (hnm2 : meth.name = "<init>") {T : u_T} {N a ci ix : Nat} {seg : va_W} {fs : List Value} {v : Value} {ty : FieldType} {tys : Nat → FieldType} (i j k : Nat) (h1 : Lw[i]? = some seg) (h2 : seg[j]? = some (a, .inr (ci, fs))) (hc : cl[ci]? = some (own, T, N)) (hin : ∀ w ∈ u_ws own T N, w ∈ Ts) (hty : ∀ k, k < N → parseFieldDescriptor (T k).2.2.1 = some (tys k)) (hnm : ∀ a, a < N → ∀ b, b < N → a ≠ b → (T a).2.1 ≠ (T b).2.1) (hk : k < N) (hlink : Cond.fieldLink own ix (T k).1 (T k).2.1 (T k).2.2.1 ∈ Ts) (hfin : (T k).2.2.2 = true) (hdecl : (T k).1 = own) (ht : tys k = ty) (hn : narrow ty v = v) (hfit : fits ty v = true) (hl0 : k < fs.length) (hd : decode cc pc = .ok (.putfield ix, 3)) (hw : Lw.set i (seg.set j (a, .inr (ci, fs.set k v))) = Lw') (kk : Gj p l e R s m args below meth c cells slots Q cl E A Lw' lv st (pc + 3)) : Gj p l e R s m args below meth c cells slots Q cl E A Lw lv (v :: .ref a :: st) pc := fun H locs ls hP hD hS hl => by
  obtain ⟨q, h3, h4⟩ := gfl_get h1 h2
  refine va_putF F.1 F.2.1 F.2.2.2.2.2.1 hin tys hty hnm F.2.2.2.2.1 F.2.2.2.2.2.2.1 hP hD hS q h3 hc k hk (F.2.2.2.2.2.1 _ hlink) (fun _ h9 => h9) hfin hnm2 hdecl (by rw [hty k hk, ht]) hn hfit hl0 hd (fun H1 locs1 hP1 hD1 hS1 => ?_)
  rw [← h4, hw] at hP1 hD1
  exact kk H1 locs1 ls hP1 hD1 hS1 hl
theorem g_obj (F : gFx p s m args meth c own Ts cc nL ret cl E A) {ix a : Nat} (hlink : Cond.methodLink own ix objectInit ∈ Ts) (hinst : Cond.instanceMethod objectInit ∈ Ts) (hcode : Cond.code objectInit ⟨#[0xb1]⟩ 1 none ∈ Ts) (hlen : nL = lv.length) (hd : decode cc pc = .ok (.invokespecial ix, 3)) (hfr : 1 ≤ R.frames) (hlo : (st.map fun v => v.category).sum + 12 ≤ R.locals) (kk : Gj p l e R s m args below meth c cells slots Q cl E A Lw lv st (pc + 3)) : Gj p l e R s m args below meth c cells slots Q cl E A Lw lv (.ref a :: st) pc := fun H locs ls hP hD hS hl => by
  refine W.objInit F.1 F.2.1 F.2.2.2.2.1 (F.2.2.2.2.2.1 _ hlink) (F.2.2.2.2.2.1 _ hinst) (F.2.2.2.2.2.1 _ hcode) rfl (by rw [F.2.2.1, hlen]; exact hl.1) rfl hd hfr (by show 2 * 0 + _ + 12 ≤ _; omega) ?_
  exact kk H locs ls hP hD hS hl
theorem g_callI (F : gFx p s m args meth c own Ts cc nL ret cl E A) {y : MethodName} {wy : List Cond} {rm : Room} {ix maxL b mc ms : Nat} {bytes : ByteArray} {post : Option Value → List va_W → Prop} {As : List Value} (n : Nat)
    (hM : gMet l y wy rm cl E (.ref b :: As) Lc post mc ms) (hcw : CallB R s args own ix y bytes maxL none wy rm mc ms n ∧ y.name = "<init>" ∧ (Cond.instanceMethod y).before args s = true)
    (isC isR : List Nat) (hC : isC.map (fun i => Lw[i]?) = Lc.map some) (hRr : isR.map (fun i => Lw[i]?) = Lr.map some) (hnd : gnd (isC ++ isR) = true)
    (hlen : nL = lv.length) (hn : As.length = n) (hstk : st = As.reverse ++ .ref b :: rest) (hroom : (rest.map fun v => v.category).sum ≤ 8) (hd : decode cc pc = .ok (.invokespecial ix, 3)) (hcs : cells + mc ≤ R.cells ∧ slots + ms ≤ R.slots)
    (kk : ∀ (v : Option Value) (w : List va_W), post v w → Gj p l e R s m args below meth c (cells + mc) (slots + ms) Q cl E A (w ++ Lr) lv (v.toList ++ rest) (pc + 3)) : Gj p l e R s m args below meth c cells slots Q cl E A Lw lv st pc := fun H locs ls hP hD hS hl => by
  have hs9 : (isC ++ isR).map (fun i => Lw[i]?) = (Lc ++ Lr).map some := by rw [List.map_append, List.map_append, hC, hRr]
  have hP9 := gsubP (isC ++ isR) hs9 hP
  have hD9 := gsubD (isC ++ isR) hs9 hnd hD
  refine g_after F (va_runI (As := As) (rest := rest) ⟨F.1, F.2.1, F.2.2.1, F.2.2.2.2.1, F.2.2.2.2.2.1⟩ (hM H.size) hcw ⟨gP_blind, fun U hU hW => ⟨rfl, by rw [hU], by rw [hU]; exact gsubP isC hC hP, va_K.moved hW.alike F.2.2.2.2.2.2.1, ?_, ?_⟩⟩ rfl hn (hl.1.trans hlen.symm) hstk (lv_room hroom) hd hcs) hP9 hD9 hS hl kk
  · have := gD_iff.mp hD9
    rw [List.flatten_append, List.pairwise_append] at this
    exact gD_iff.mpr ⟨this.1.1, fun _ _ => trivial⟩
  · rw [hU]
    exact gZ_call F hD9 hS hW
theorem g_callIN (F : gFx p s m args meth c own Ts cc nL ret cl E A) {y : MethodName} {wy : List Cond} {rm : Room} {host : String} {ix maxL b mc ms : Nat} {bytes : ByteArray} {post : Option Value → List va_W → Prop} {As : List Value} (n : Nat)
    (hM : gMet l y wy rm cl E (.ref b :: As) Lc post mc ms) (hcw : va_CN R s args own ix y host bytes maxL none wy rm mc ms n ∧ y.name = "<init>" ∧ (Cond.instanceMethod y).before args s = true)
    (isC isR : List Nat) (hC : isC.map (fun i => Lw[i]?) = Lc.map some) (hRr : isR.map (fun i => Lw[i]?) = Lr.map some) (hnd : gnd (isC ++ isR) = true)
    (hlen : nL = lv.length) (hn : As.length = n) (hstk : st = As.reverse ++ .ref b :: rest) (hroom : (rest.map fun v => v.category).sum ≤ 8) (hd : decode cc pc = .ok (.invokespecial ix, 3)) (hcs : cells + mc ≤ R.cells ∧ slots + ms ≤ R.slots)
    (kk : ∀ (v : Option Value) (w : List va_W), post v w → Gj p l e R s m args below meth c (cells + mc) (slots + ms) Q cl E A (w ++ Lr) lv (v.toList ++ rest) (pc + 3)) : Gj p l e R s m args below meth c cells slots Q cl E A Lw lv st pc := fun H locs ls hP hD hS hl => by
  have hs9 : (isC ++ isR).map (fun i => Lw[i]?) = (Lc ++ Lr).map some := by rw [List.map_append, List.map_append, hC, hRr]
  have hP9 := gsubP (isC ++ isR) hs9 hP
  have hD9 := gsubD (isC ++ isR) hs9 hnd hD
  refine g_after F (va_runIN (As := As) (rest := rest) ⟨F.1, F.2.1, F.2.2.1, F.2.2.2.2.1, F.2.2.2.2.2.1⟩ (hM H.size) hcw ⟨gP_blind, fun U hU hW => ⟨rfl, by rw [hU], by rw [hU]; exact gsubP isC hC hP, va_K.moved hW.alike F.2.2.2.2.2.2.1, ?_, ?_⟩⟩ rfl hn (hl.1.trans hlen.symm) hstk (lv_room hroom) hd hcs) hP9 hD9 hS hl kk
  · have := gD_iff.mp hD9
    rw [List.flatten_append, List.pairwise_append] at this
    exact gD_iff.mpr ⟨this.1.1, fun _ _ => trivial⟩
  · rw [hU]
    exact gZ_call F hD9 hS hW
end GLN
theorem g_aast {p : Program} {l : Launch} {e : Env} {R : Room} {s : State} {m : MethodId} {args : Array Value} {below : List Frame} {meth : Method} {c : Code} {cells slots : Nat} {Q : State → Prop} {own : String} {Ts : List Cond} {cc : ByteArray} {nL : Nat} {ret : Option FieldType} {cl : List vw_C} {E : gE} {A : Nat → Prop} {Lw Lw' : List va_W} {lv : List (Option Value)} {st : List Value} {pc : Nat}
    (F : gFx p s m args meth c own Ts cc nL ret cl E A) {a n v ci : Nat} {seg seg2 : va_W} {f : Nat → Option Nat} {x : Int32} {r : vw_C} (i j q9 : Nat) (hq9 : x.toNatClampNeg = q9) (t0 : Nat) (ht : (gT E)[t0]? = some (E.2.1 t0, .object r.1)) (h1 : Lw[i]? = some seg) (h2 : seg[j]? = some (a, .inl (E.2.1 t0, n, .inr (.inr (.inr (.inr f)))))) (i2 : Nat) (h3 : Lw[i2]? = some seg2) (h4 : ∃ (j2 : Nat) (vs : List Value), seg2[j2]? = some (v, .inr (ci, vs))) (hc : cl[ci]? = some r) (hin : ¬ (x < 0 ∨ n ≤ x.toNatClampNeg)) (hd : decode cc pc = .ok (.aastore, 1)) (hw : Lw.set i (seg.set j (a, .inl (E.2.1 t0, n, .inr (.inr (.inr (.inr (va_up f q9 (some v)))))))) = Lw')
    (k : Gj p l e R s m args below meth c cells slots Q cl E A Lw' lv st (pc + 1)) : Gj p l e R s m args below meth c cells slots Q cl E A Lw lv (.ref v :: .int x :: .ref a :: st) pc := fun H locs ls hP hD hS hl => by
  subst hq9
  obtain ⟨j2, vs, h4⟩ := h4
  obtain ⟨q, g1, g2⟩ := gfl_get h1 h2
  obtain ⟨q2, g3, -⟩ := gfl_get h3 h4
  refine va_astq F.1 F.2.1 F.2.2.2.2.2.2.1 hP hD hS q t0 q2 ci g1 ht g3 hc hin hd (fun H1 locs1 hP1 hD1 hS1 => ?_)
  rw [← g2, hw] at hP1 hD1
  exact k H1 locs1 ls hP1 hD1 hS1 hl
/-! what the law adds: rooms that are counted, texts, nest mates' fields, rows of four -/
theorem gle1 {a b c d : Nat} (h : ¬ (b < a ∨ d < c)) : a ≤ b := Nat.le_of_not_lt (fun z => h (Or.inl z))
theorem gle2 {a b c d : Nat} (h : ¬ (b < a ∨ d < c)) : c ≤ d := Nat.le_of_not_lt (fun z => h (Or.inr z))
theorem gMet_conv {l : Launch} {y : MethodName} {wy : List Cond} {rm : Room} {cl : List vw_C} {E : gE} {av : List Value} {Lw Lw' : List va_W} {post post' : Option Value → List va_W → Prop} {mc ms : Nat} (hM : gMet l y wy rm cl E av Lw post mc ms) (hw : Lw.flatten = Lw'.flatten) (hp : ∀ v w, post v w → ∃ w', post' v w' ∧ w.flatten = w'.flatten) : gMet l y wy rm cl E av Lw' post' mc ms := by
  intro sz p e h1 h2 h3 s m args below hf hS hP hK
  obtain ⟨n, o, a, b, c, ⟨⟨v, w, e1, e2, e3, e4, e5⟩, e6⟩, e7⟩ := hM sz p e h1 h2 h3 s m args below hf hS (by
    obtain ⟨q0, q1, qP, qK, qD, qZ⟩ := hP
    rw [← hw] at qP qD qZ
    exact ⟨q0, q1, qP, qK, qD, qZ⟩) hK
  obtain ⟨w', g1, g2⟩ := hp v w e2
  rw [hw] at e5 e6 e7
  rw [g2] at e3 e5
  exact ⟨n, o, a, b, c, ⟨⟨v, w', e1, g1, e3, e4, e5⟩, e6⟩, e7⟩
def gTx (i : Nat) : List Nat := (gBy i).map (fun z => z.toNatClampNeg)
def gDecF : Nat → Nat → List Nat
  | 0, _ => []
  | k + 1, v => if v < 10 then [48 + v] else gDecF k (v / 10) ++ [48 + v % 10]
def gDec (v : Nat) : List Nat := gDecF 10 v
def okT (t : List Nat) (g : Nat → Int32) : Prop := t.length ≤ 500 ∧ (∀ x ∈ t, x < 128) ∧ (∀ i, i < t.length → g i = Int32.ofNat (t.getD i 0)) ∧ ∀ i, fits .byte (.int (g i)) = true
def okS (t : List Nat) (g : Nat → Int32) : Prop := okT t g
def okSB (t : List Nat) (c : Nat) (g : Nat → Int32) : Prop := okT t g ∧ t.length ≤ c ∧ c ≤ 1002
def sSB (E : gE) (a v : Nat → Nat) (c : Nat) (t : List Nat) (g : Nat → Int32) : va_W := [(a 0, .inr (1, [.ref (v 0), .int 0, .int 0, .int (Int32.ofNat t.length)])), (v 0, .inl (E.2.1 0, c, .inl g))]
def sStr (E : gE) (a : Nat → Nat) (t : List Nat) (g : Nat → Int32) : va_W := [(a 0, .inr (0, [.ref (a 1), .int 0, .int 0, .int 0])), (a 1, .inl (E.2.1 0, t.length, .inl g))]
def sR45 (E : gE) (a r : Nat → Nat) (S : tCutR) : va_W := (a 0, .inl (E.2.1 5, 4, .inr (.inr (.inr (.inr (fun i => if i < 4 then some (r i) else none)))))) :: (List.range 4).map (fun i => (r i, .inl (E.2.1 1, 5, .inl (S i))))
theorem sR45_at (E : gE) (a r : Nat → Nat) (S : tCutR) {j : Nat} (h : j < 4) : (sR45 E a r S)[j + 1]? = some (r j, .inl (E.2.1 1, 5, .inl (S j))) := by
  unfold sR45
  rw [List.getElem?_cons_succ, List.getElem?_map, List.getElem?_range h]
  rfl
theorem sR45_set {E : gE} {a r : Nat → Nat} {S : tCutR} {j : Nat} {v : Nat → Int32} : (sR45 E a r S).set (j + 1) (r j, .inl (E.2.1 1, 5, .inl v)) = sR45 E a r (fun i => if i = j then v else S i) := by
  unfold sR45
  rw [List.set_cons_succ]
  congr 1
  apply List.ext_getElem?
  intro k
  rw [List.getElem?_set, List.length_map, List.length_range, List.getElem?_map, List.getElem?_map]
  by_cases e : j = k
  · subst e
    rw [if_pos rfl]
    by_cases h : j < 4
    · rw [if_pos h, List.getElem?_range h]; simp
    · rw [if_neg h, List.getElem?_eq_none (by rw [List.length_range]; omega)]; rfl
  · rw [if_neg e]
    by_cases h : k < 4
    · rw [List.getElem?_range h]
      have : ¬ k = j := fun q => e q.symm
      simp [this]
    · rw [List.getElem?_eq_none (by rw [List.length_range]; omega)]; rfl
section GL8
variable {p : Program} {l : Launch} {e : Env} {R : Room} {s : State} {m : MethodId} {args : Array Value} {below : List Frame} {meth : Method} {c : Code} {cells slots : Nat} {Q : State → Prop}
variable {own : String} {Ts : List Cond} {cc : ByteArray} {nL : Nat} {ret : Option FieldType} {cl : List vw_C} {E : gE} {A : Nat → Prop}
variable {Lw Lw' Lc Lr Ls : List va_W} {lv lv' : List (Option Value)} {st rest : List Value} {pc : Nat}
theorem g_aret (F : gFx p s m args meth c own Ts cc nL ret cl E A) {post : Option Value → List va_W → Prop} {a : Nat} {rt : FieldType} (hr : ret = some rt) (hrt : (∃ n, rt = .object n) ∨ ∃ t, rt = .array t) (hpost : post (some (.ref a)) Lw) (hd : decode cc pc = .ok (.areturn, 1)) : Gj p l e R s m args below meth c cells slots (MQ below (gQ cl E A post) args s cells slots A) cl E A Lw lv [.ref a] pc := fun H locs ls hP hD hS hl =>
  W.aret F.1 F.2.1 (by rw [F.2.2.2.1, hr]) hrt (Or.inr ⟨a, rfl⟩) (fun t ht hW => ⟨⟨some (.ref a), Lw, rfl, hpost, by rw [ht]; exact hP, va_K.moved hW.alike F.2.2.2.2.2.2.1, hD⟩, hS.F ht⟩) hS.2.2 hd F.2.2.2.2.2.2.2.2.1
theorem g_newI (F : gFx p s m args meth c own Ts cc nL ret cl E A) {n : Int32} {N' : Nat} (harr : Cond.arrayClass .int ∈ Ts) (hn : ¬ n < 0) (hN : n.toNatClampNeg = N') (hby : N' * componentBytes .int ≤ 536870912) (hcs : cells + 1 ≤ R.cells) (hss : slots + N' ≤ R.slots) (hd : decode cc pc = .ok (.newarray .int, 2))
    (k : ∀ a : Nat → Nat, Gj p l e R s m args below meth c (cells + 1) (slots + N') Q cl E A (Lw ++ [sArrI E a N' (fun _ => 0)]) lv (.ref (a 0) :: st) (pc + 2)) : Gj p l e R s m args below meth c cells slots Q cl E A Lw lv (.int n :: st) pc :=
  g_newa (atype := .int) (ty := .int) F 1 (N', .inl (fun _ => 0)) rfl rfl (fun _ h9 => h9) harr (fun _ => rfl) hn hN hby hcs hss hd (fun q => k (fun _ => q))
theorem g_newB (F : gFx p s m args meth c own Ts cc nL ret cl E A) {n : Int32} {N' : Nat} (harr : Cond.arrayClass .byte ∈ Ts) (hn : ¬ n < 0) (hN : n.toNatClampNeg = N') (hby : N' * componentBytes .byte ≤ 536870912) (hcs : cells + 1 ≤ R.cells) (hss : slots + N' ≤ R.slots) (hd : decode cc pc = .ok (.newarray .byte, 2))
    (k : ∀ a : Nat → Nat, Gj p l e R s m args below meth c (cells + 1) (slots + N') Q cl E A (Lw ++ [sArrB E a N' (fun _ => 0)]) lv (.ref (a 0) :: st) (pc + 2)) : Gj p l e R s m args below meth c cells slots Q cl E A Lw lv (.int n :: st) pc :=
  g_newa (atype := .byte) (ty := .byte) F 0 (N', .inl (fun _ => 0)) rfl rfl (fun _ h9 => h9) harr (fun _ => rfl) hn hN hby hcs hss hd (fun q => k (fun _ => q))
theorem g_mna45 (F : gFx p s m args meth c own Ts cc nL ret cl E A) {ix : Nat} (hcl : Cond.classLink own ix "[[I" ∈ Ts) (harr : Cond.arrayClass .int ∈ Ts) (hcs : cells + 5 ≤ R.cells) (hss : slots + 24 ≤ R.slots) (hd : decode cc pc = .ok (.multianewarray ix 2, 4))
    (k : ∀ (a r : Nat → Nat), Gj p l e R s m args below meth c (cells + 5) (slots + 24) Q cl E A (Lw ++ [sR45 E a r (fun _ _ => 0)]) lv (.ref (a 0) :: st) (pc + 4)) : Gj p l e R s m args below meth c cells slots Q cl E A Lw lv (.int 5 :: .int 4 :: st) pc := fun H locs ls hP hD hS hl => by
  have hcy : s.vm.findClass (FieldType.array .int).toString = some (E.2.1 1) := (F.2.2.2.2.2.2.1.2 1 _ rfl).2
  refine va_mna (X := Lw.flatten) (L := []) (f := fun _ => .inr (0, [])) (ty := .int) (N' := 4) (K' := 5) (z := (5, .inl (fun _ => 0))) F.1 F.2.1 F.2.2.2.2.1 (F.2.2.2.2.2.1 _ hcl) F.2.2.2.2.2.2.2.2.2.2.2.2.2.2.2.2.2.2.2.2.2.2.2.2.1 (F.2.2.2.2.2.1 _ harr) hcy F.2.2.2.2.2.2.1 (by rw [show va_pl [] (fun _ => (.inr (0, []) : va_E)) = [] from rfl, List.append_nil]; exact hP) (by rw [show va_pl [] (fun _ => (.inr (0, []) : va_E)) = [] from rfl, List.append_nil]; exact hD) hS F.2.2.2.2.2.2.2.1 (by decide) (by decide) (by decide) (by decide) (by decide) (by decide) (by decide) rfl rfl (by omega) (by omega) (fun cc9 => rfl) hd (fun q r cA H1 hinj hnL hK1 hP1 hD1 hS1 => ?_)
  have e2 : s.vm.findClass ("[" ++ (FieldType.array .int).toString) = some cA := (hK1.2 (gT E).length (cA, .array .int) (by rw [List.getElem?_append_right (Nat.le_refl _), Nat.sub_self]; rfl)).2
  have e1 : s.vm.findClass ("[" ++ (FieldType.array .int).toString) = some (E.2.1 5) := (F.2.2.2.2.2.2.1.2 5 _ rfl).2
  have e3 : cA = E.2.1 5 := Option.some.inj (e2.symm.trans e1)
  subst e3
  have er : va_pl ([] ++ (List.range 4).map r) (vr_up (fun _ => .inr (0, [])) ((List.range 4).map r) (.inl (E.2.1 1, (5, .inl (fun _ => 0))))) = (List.range 4).map (fun i => (r i, .inl (E.2.1 1, 5, .inl (fun _ => 0)))) := by
    unfold va_pl
    rw [List.nil_append, List.map_map]
    refine List.map_congr_left fun i hi => ?_
    show (r i, vr_up _ _ _ (r i)) = _
    rw [vr_up_in (List.mem_map.mpr ⟨i, hi, rfl⟩)]
  rw [er] at hP1 hD1
  have ef : (Lw ++ [sR45 E (fun _ => q) r (fun _ _ => 0)]).flatten = (Lw.flatten ++ [(q, .inl (E.2.1 5, 4, .inr (.inr (.inr (.inr (fun i => if i < 4 then some (r i) else none))))))]) ++ (List.range 4).map (fun i => (r i, .inl (E.2.1 1, 5, .inl (fun _ => 0)))) := by
    rw [List.flatten_append, List.flatten_singleton, List.append_assoc]
    rfl
  exact k (fun _ => q) r H1 locs ls (by rw [ef]; exact hP1) (by rw [ef]; exact hD1) hS1 hl
theorem g_getN (F : gFx p s m args meth c own Ts cc nL ret cl E A) {C host : String} {T : u_T} {N a ci ix : Nat} {seg : va_W} {fs : List Value} {v : Value} (i j k : Nat) (h1 : Lw[i]? = some seg) (h2 : seg[j]? = some (a, .inr (ci, fs))) (hc : cl[ci]? = some (C, T, N)) (hin : ∀ w ∈ u_ws C T N, w ∈ Ts) (hk : k < N) (hlink : (own, ix, (T k).1, (T k).2.1, (T k).2.2.1, host) ∈ gNf) (hv : fs[k]? = some v) (hd : decode cc pc = .ok (.getfield ix, 3)) (kk : Gj p l e R s m args below meth c cells slots Q cl E A Lw lv (v :: st) (pc + 3)) : Gj p l e R s m args below meth c cells slots Q cl E A Lw lv (.ref a :: st) pc := fun H locs ls hP hD hS hl => by
  obtain ⟨q, h3, -⟩ := gfl_get h1 h2
  exact va_getN F.1 F.2.1 F.2.2.2.2.2.1 hin F.2.2.2.2.1 F.2.2.2.2.2.2.1 hP q h3 hc k hk (va_Nw.use rfl (F.2.2.2.2.2.2.2.2.2.2.1 _ hlink)) (fun _ h9 => h9) hv hd (kk H locs ls hP hD hS hl)
theorem g_putN (F : gFx p s m args meth c own Ts cc nL ret cl E A) {C host : String} {T : u_T} {N a ci ix : Nat} {seg : va_W} {fs : List Value} {v : Value} {ty : FieldType} {tys : Nat → FieldType} (i j k : Nat) (h1 : Lw[i]? = some seg) (h2 : seg[j]? = some (a, .inr (ci, fs))) (hc : cl[ci]? = some (C, T, N)) (hin : ∀ w ∈ u_ws C T N, w ∈ Ts) (hty : ∀ k, k < N → parseFieldDescriptor (T k).2.2.1 = some (tys k)) (hnm : ∀ a, a < N → ∀ b, b < N → a ≠ b → (T a).2.1 ≠ (T b).2.1) (hk : k < N) (hlink : (own, ix, (T k).1, (T k).2.1, (T k).2.2.1, host) ∈ gNf) (hfin : (T k).2.2.2 = false) (ht : tys k = ty) (hn : narrow ty v = v) (hfit : fits ty v = true) (hl0 : k < fs.length) (hd : decode cc pc = .ok (.putfield ix, 3)) (hw : Lw.set i (seg.set j (a, .inr (ci, fs.set k v))) = Lw') (kk : Gj p l e R s m args below meth c cells slots Q cl E A Lw' lv st (pc + 3)) : Gj p l e R s m args below meth c cells slots Q cl E A Lw lv (v :: .ref a :: st) pc := fun H locs ls hP hD hS hl => by
  obtain ⟨q, h3, h4⟩ := gfl_get h1 h2
  refine va_putN F.1 F.2.1 F.2.2.2.2.2.1 hin tys hty hnm F.2.2.2.2.1 F.2.2.2.2.2.2.1 hP hD hS q h3 hc k hk (va_Nw.use rfl (F.2.2.2.2.2.2.2.2.2.2.1 _ hlink)) (fun _ h9 => h9) hfin (by rw [hty k hk, ht]) hn hfit hl0 hd (fun H1 locs1 hP1 hD1 hS1 => ?_)
  rw [← h4, hw] at hP1 hD1
  exact kk H1 locs1 ls hP1 hD1 hS1 hl
theorem g_mmax (F : gFx p s m args meth c own Ts cc nL ret cl E A) {x y : Int32} {ix : Nat} (hlink : Cond.methodLink own ix Lib.Math.max.name ∈ Ts) (hstat : Cond.static Lib.Math.max.name ∈ Ts) (hini : Cond.initialized "java/lang/Math" ∈ Ts) (hcode : Cond.code Lib.Math.max.name Lib.Math.max.code 2 (some .int) ∈ Ts) (hlen : nL = lv.length) (hf : 1 ≤ R.frames) (hlo : (st.map fun v => v.category).sum + 13 ≤ R.locals) (hc : cells ≤ R.cells) (hs : slots ≤ R.slots) (hd : decode cc pc = .ok (.invokestatic ix, 3))
    (k : Gj p l e R s m args below meth c cells slots Q cl E A Lw lv (.int (if x < y then y else x) :: st) (pc + 3)) : Gj p l e R s m args below meth c cells slots Q cl E A Lw lv (.int y :: .int x :: st) pc := fun H locs ls hP hD hS hl =>
  va_mmax F.1 F.2.1 (by rw [F.2.2.1, hl.1, hlen]) F.2.2.2.2.1 (F.2.2.2.2.2.1 _ hlink) (F.2.2.2.2.2.1 _ hstat) (F.2.2.2.2.2.1 _ hini) (F.2.2.2.2.2.1 _ hcode) hf hlo hc hs hd (k H locs ls hP hD hS hl)
theorem g_getsD (F : gFx p s m args meth c own Ts cc nL ret cl E A) {ix : Nat} (hlink : Cond.fieldLink own ix "java/lang/Integer" "DigitOnes" "[B" ∈ Ts) (hd : decode cc pc = .ok (.getstatic ix, 3)) (k : Gj p l e R s m args below meth c cells slots Q cl E A Lw lv (.ref (E.2.2 18) :: st) (pc + 3)) : Gj p l e R s m args below meth c cells slots Q cl E A Lw lv st pc := fun H locs ls hP hD hS hl =>
  va_gets F.1 F.2.1 F.2.2.2.2.2.2.2.2.2.2.2.2.2.2.2.2.2.2.2.2.2.2.2.2.2.2.1 hS F.2.2.2.2.1 (F.2.2.2.2.2.1 _ hlink) (fun _ h9 => h9) hd (k H locs ls hP hD hS hl)
theorem g_getsE (F : gFx p s m args meth c own Ts cc nL ret cl E A) {ix : Nat} (hlink : Cond.fieldLink own ix "java/lang/Integer" "DigitTens" "[B" ∈ Ts) (hd : decode cc pc = .ok (.getstatic ix, 3)) (k : Gj p l e R s m args below meth c cells slots Q cl E A Lw lv (.ref (E.2.2 19) :: st) (pc + 3)) : Gj p l e R s m args below meth c cells slots Q cl E A Lw lv st pc := fun H locs ls hP hD hS hl =>
  va_gets F.1 F.2.1 F.2.2.2.2.2.2.2.2.2.2.2.2.2.2.2.2.2.2.2.2.2.2.2.2.2.2.2.2.1 hS F.2.2.2.2.1 (F.2.2.2.2.2.1 _ hlink) (fun _ h9 => h9) hd (k H locs ls hP hD hS hl)
theorem g_staD (F : gFx p s m args meth c own Ts cc nL ret cl E A) {x : Int32} (hin : ¬ (x < 0 ∨ 100 ≤ x.toNatClampNeg)) (hd : decode cc pc = .ok (.baload, 1)) (k : Gj p l e R s m args below meth c cells slots Q cl E A Lw lv (.int (gDO x.toNatClampNeg) :: st) (pc + 1)) : Gj p l e R s m args below meth c cells slots Q cl E A Lw lv (.int x :: .ref (E.2.2 18) :: st) pc := fun H locs ls hP hD hS hl =>
  va_tb F.1 F.2.1 F.2.2.2.2.2.2.2.2.2.2.2.2.2.2.2.2.2.2.2.2.2.2.2.2.2.2.2.1 hS hin rfl hd (k H locs ls hP hD hS hl)
theorem g_staE (F : gFx p s m args meth c own Ts cc nL ret cl E A) {x : Int32} (hin : ¬ (x < 0 ∨ 100 ≤ x.toNatClampNeg)) (hd : decode cc pc = .ok (.baload, 1)) (k : Gj p l e R s m args below meth c cells slots Q cl E A Lw lv (.int (gDT x.toNatClampNeg) :: st) (pc + 1)) : Gj p l e R s m args below meth c cells slots Q cl E A Lw lv (.int x :: .ref (E.2.2 19) :: st) pc := fun H locs ls hP hD hS hl =>
  va_tb F.1 F.2.1 F.2.2.2.2.2.2.2.2.2.2.2.2.2.2.2.2.2.2.2.2.2.2.2.2.2.2.2.2.2.1 hS hin rfl hd (k H locs ls hP hD hS hl)
theorem g_copyT (F : gFx p s m args meth c own Ts cc nL ret cl E A) {a ix n1 i0 : Nat} {seg : va_W} {g : Nat → Int32} {sp dp n : Int32} (hi : i0 < 8) (i j : Nat) (h3 : Lw[i]? = some seg) (h4 : seg[j]? = some (a, .inl (E.2.1 0, n1, .inl g))) (hlink : Cond.methodLink own ix arraycopyName ∈ Ts) (hnat : Cond.native arraycopyName ∈ Ts) (hstat : Cond.static arraycopyName ∈ Ts) (hini : Cond.initialized "java/lang/System" ∈ Ts)
    (hb : ¬ (sp < 0 ∨ dp < 0 ∨ n < 0 ∨ (gBy i0).length < sp.toNatClampNeg + n.toNatClampNeg ∨ n1 < dp.toNatClampNeg + n.toNatClampNeg)) (hfit : ∀ i, i < n.toNatClampNeg → fits .byte (.int ((gBy i0).getD (sp.toNatClampNeg + i) 0)) = true) (hlen : nL = lv.length) (hfr : 1 ≤ R.frames) (hlo : (st.map fun v => v.category).sum + (nativeFrameWords "java/lang/System" "arraycopy" 5 + 11) ≤ R.locals) (hd : decode cc pc = .ok (.invokestatic ix, 3)) (hw : Lw.set i (seg.set j (a, .inl (E.2.1 0, n1, .inl (va_cpy (fun k => (gBy i0).getD k 0) g sp.toNatClampNeg dp.toNatClampNeg n.toNatClampNeg)))) = Lw')
    (k : Gj p l e R s m args below meth c cells slots Q cl E A Lw' lv st (pc + 3)) : Gj p l e R s m args below meth c cells slots Q cl E A Lw lv (.int n :: .int dp :: .ref a :: .int sp :: .ref (E.2.2 (8 + i0)) :: st) pc := fun H locs ls hP hD hS hl => by
  obtain ⟨q1, g4, g5⟩ := gfl_get h3 h4
  refine vk_copyt (f := fun k => (gBy i0).getD k 0) F.1 F.2.1 (by rw [F.2.2.1, hl.1, hlen]) F.2.2.2.2.1 (F.2.2.2.2.2.1 _ hlink) (F.2.2.2.2.2.1 _ hnat) (F.2.2.2.2.2.1 _ hstat) (F.2.2.2.2.2.1 _ hini) F.2.2.2.2.2.2.1 hP hD hS (F.2.2.2.2.2.2.2.2.2.2.2.2.1 i0 hi).2.2.2 q1 0 g4 rfl (fun z => hb (Or.inl z)) (fun z => hb (Or.inr (Or.inl z))) (fun z => hb (Or.inr (Or.inr (Or.inl z)))) (Nat.le_of_not_lt (fun z => hb (Or.inr (Or.inr (Or.inr (Or.inl z)))))) (Nat.le_of_not_lt (fun z => hb (Or.inr (Or.inr (Or.inr (Or.inr z)))))) hfit hfr hlo hd (fun H1 locs1 hP1 hD1 hS1 => ?_)
  rw [← g5, hw] at hP1 hD1
  exact k H1 locs1 ls hP1 hD1 hS1 hl
theorem g_ifnn (F : gFx p s m args meth c own Ts cc nL ret cl E A) {a : Nat} {off : Int} (tgt : Nat) (hd : decode cc pc = .ok (.ifnonnull off, 3)) (ht : (pc : Int) + off = (tgt : Int)) (k : Gj p l e R s m args below meth c cells slots Q cl E A Lw lv st tgt) : Gj p l e R s m args below meth c cells slots Q cl E A Lw lv (.ref a :: st) pc := fun H locs ls hP hD hS hl => lv_ifnonnull F.1 F.2.1 hd ht (k H locs ls hP hD hS hl)
theorem g_cloneB (F : gFx p s m args meth c own Ts cc nL ret cl E A) {ix : Nat} {a : Nat → Nat} {N' : Nat} {g : Nat → Int32} (i : Nat) (h1 : Lw[i]? = some (sArrB E a N' g)) (hlink : Cond.methodLink own ix ⟨"[B", "clone", "()Ljava/lang/Object;"⟩ ∈ Ts) (hsame : Cond.sameMethod "[B" "java/lang/Object" "clone" "()Ljava/lang/Object;" ∈ Ts) (hnat : Cond.native ⟨"java/lang/Object", "clone", "()Ljava/lang/Object;"⟩ ∈ Ts) (hinst : Cond.instanceMethod ⟨"java/lang/Object", "clone", "()Ljava/lang/Object;"⟩ ∈ Ts) (hsel : Cond.selects "[B" ⟨"[B", "clone", "()Ljava/lang/Object;"⟩ ⟨"java/lang/Object", "clone", "()Ljava/lang/Object;"⟩ ∈ Ts) (hfit : ∀ i, fits .byte (.int (g i)) = true) (hlen : nL = lv.length) (hfr : 1 ≤ R.frames) (hlo : (st.map fun v => v.category).sum + 14 ≤ R.locals) (hcs : cells + 1 ≤ R.cells) (hss : slots + N' ≤ R.slots) (hd : decode cc pc = .ok (.invokevirtual ix, 3))
    (k : ∀ b : Nat → Nat, Gj p l e R s m args below meth c (cells + 1) (slots + N') Q cl E A (Lw ++ [sArrB E b N' g]) lv (.ref (b 0) :: st) (pc + 3)) : Gj p l e R s m args below meth c cells slots Q cl E A Lw lv (.ref (a 0) :: st) pc := fun H locs ls hP hD hS hl => by
  obtain ⟨q, h3, -⟩ := gfl_get (j := 0) h1 rfl
  have hnm : s.vm.findClass "[B" = some (E.2.1 0) := (F.2.2.2.2.2.2.1.2 0 _ rfl).2
  refine va_clone F.1 F.2.1 (by rw [F.2.2.1, hl.1, hlen]) F.2.2.2.2.1 (F.2.2.2.2.2.1 _ hlink) (F.2.2.2.2.2.1 _ hsame) (F.2.2.2.2.2.1 _ hnat) (F.2.2.2.2.2.1 _ hinst) (F.2.2.2.2.2.1 _ hsel) F.2.2.2.2.2.2.2.2.2.2.2.2.2.2.2.2.2.2.2.2.2.2.2.2.2.2.2.2.2.2 F.2.2.2.2.2.2.1 hP hD hS F.2.2.2.2.2.2.2.1 q 0 h3 rfl hnm (fun i v hv => ?_) hfr hlo hcs hss hd (fun q9 H1 hK1 hP1 hD1 hS1 => ?_)
  · have hi : i < N' := by
      have := (Array.getElem?_eq_some_iff.mp hv).1
      rw [vp_cell_i, arrV_size] at this
      exact this
    rw [vp_cell_i, arrV_read _ _ hi] at hv
    cases hv
    exact hfit i
  · have ef : (Lw ++ [sArrB E (fun _ => q9) N' g]).flatten = Lw.flatten ++ [(q9, .inl (E.2.1 0, N', .inl g))] := by
      rw [List.flatten_append, List.flatten_singleton]
      rfl
    exact k (fun _ => q9) H1 locs ls (by rw [ef]; exact hP1) (by rw [ef]; exact hD1) hS1 hl
theorem g_castB (F : gFx p s m args meth c own Ts cc nL ret cl E A) {ix : Nat} {a : Nat → Nat} {N' : Nat} {g : Nat → Int32} (i : Nat) (h1 : Lw[i]? = some (sArrB E a N' g)) (hlink : Cond.classLink own ix "[B" ∈ Ts) (hd : decode cc pc = .ok (.checkcast ix, 3)) (k : Gj p l e R s m args below meth c cells slots Q cl E A Lw lv (.ref (a 0) :: st) (pc + 3)) : Gj p l e R s m args below meth c cells slots Q cl E A Lw lv (.ref (a 0) :: st) pc := fun H locs ls hP hD hS hl => by
  obtain ⟨q, h3, -⟩ := gfl_get (j := 0) h1 rfl
  have hnm : s.vm.findClass "[B" = some (E.2.1 0) := (F.2.2.2.2.2.2.1.2 0 _ rfl).2
  exact va_castA F.1 F.2.1 F.2.2.2.2.1 (F.2.2.2.2.2.1 _ hlink) hP q h3 hnm hd (k H locs ls hP hD hS hl)
theorem g_callU (F : gFx p s m args meth c own Ts cc nL ret cl E A) {x y : MethodName} {owner : String} {wy : List Cond} {rm : Room} {C : String} {T : u_T} {N ci ix maxL b mc ms : Nat} {bytes : ByteArray} {ret' : Option FieldType} {post : Option Value → List va_W → Prop} {seg : va_W} {fs As : List Value} (i j n : Nat)
    (hM : gMet l y wy rm cl E (.ref b :: As) Lc post mc ms) (hcw : va_CU R s args own C owner ix x y bytes maxL ret' wy rm mc ms n)
    (h1 : Lw[i]? = some seg) (h2 : seg[j]? = some (b, .inr (ci, fs))) (hcl : cl[ci]? = some (C, T, N)) (isC isR : List Nat) (hC : isC.map (fun i => Lw[i]?) = Lc.map some) (hRr : isR.map (fun i => Lw[i]?) = Lr.map some) (hnd : gnd (isC ++ isR) = true)
    (hlen : nL = lv.length) (hn : As.length = n) (hstk : st = As.reverse ++ .ref b :: rest) (hroom : (rest.map fun v => v.category).sum ≤ 8) (hd : decode cc pc = .ok (.invokevirtual ix, 3)) (hcs : cells + mc ≤ R.cells ∧ slots + ms ≤ R.slots)
    (kk : ∀ (v : Option Value) (w : List va_W), post v w → Gj p l e R s m args below meth c (cells + mc) (slots + ms) Q cl E A (w ++ Lr) lv (v.toList ++ rest) (pc + 3)) : Gj p l e R s m args below meth c cells slots Q cl E A Lw lv st pc := fun H locs ls hP hD hS hl => by
  have hs9 : (isC ++ isR).map (fun i => Lw[i]?) = (Lc ++ Lr).map some := by rw [List.map_append, List.map_append, hC, hRr]
  have hP9 := gsubP (isC ++ isR) hs9 hP
  have hD9 := gsubD (isC ++ isR) hs9 hnd hD
  obtain ⟨q, h3, -⟩ := gfl_get h1 h2
  have hr := va_recv F.2.2.2.2.2.2.1 hP hcl h3
  refine g_after F (va_runU (As := As) (rest := rest) ⟨F.1, F.2.1, F.2.2.1, F.2.2.2.2.1, F.2.2.2.2.2.1⟩ (hM H.size) hcw ⟨gP_blind, hr, fun U hU hW => ⟨rfl, by rw [hU], by rw [hU]; exact gsubP isC hC hP, va_K.moved hW.alike F.2.2.2.2.2.2.1, ?_, ?_⟩⟩ rfl hn (hl.1.trans hlen.symm) hstk (lv_room hroom) hd hcs) hP9 hD9 hS hl kk
  · have := gD_iff.mp hD9
    rw [List.flatten_append, List.pairwise_append] at this
    exact gD_iff.mpr ⟨this.1.1, fun _ _ => trivial⟩
  · rw [hU]
    exact gZ_call F hD9 hS hW
theorem g_callSU (F : gFx p s m args meth c own Ts cc nL ret cl E A) {y : MethodName} {wy : List Cond} {rm : Room} {C : String} {T : u_T} {N ci ix maxL b mc ms : Nat} {bytes : ByteArray} {ret' : Option FieldType} {post : Option Value → List va_W → Prop} {seg : va_W} {fs As : List Value} (i j n : Nat)
    (hM : gMet l y wy rm cl E (.ref b :: As) Lc post mc ms) (hcw : va_CS R s args own ix y bytes maxL ret' wy rm mc ms n)
    (h1 : Lw[i]? = some seg) (h2 : seg[j]? = some (b, .inr (ci, fs))) (hcl : cl[ci]? = some (C, T, N)) (isC isR : List Nat) (hC : isC.map (fun i => Lw[i]?) = Lc.map some) (hRr : isR.map (fun i => Lw[i]?) = Lr.map some) (hnd : gnd (isC ++ isR) = true)
    (hlen : nL = lv.length) (hn : As.length = n) (hstk : st = As.reverse ++ .ref b :: rest) (hroom : (rest.map fun v => v.category).sum ≤ 8) (hd : decode cc pc = .ok (.invokespecial ix, 3)) (hcs : cells + mc ≤ R.cells ∧ slots + ms ≤ R.slots)
    (kk : ∀ (v : Option Value) (w : List va_W), post v w → Gj p l e R s m args below meth c (cells + mc) (slots + ms) Q cl E A (w ++ Lr) lv (v.toList ++ rest) (pc + 3)) : Gj p l e R s m args below meth c cells slots Q cl E A Lw lv st pc := fun H locs ls hP hD hS hl => by
  have hs9 : (isC ++ isR).map (fun i => Lw[i]?) = (Lc ++ Lr).map some := by rw [List.map_append, List.map_append, hC, hRr]
  have hP9 := gsubP (isC ++ isR) hs9 hP
  have hD9 := gsubD (isC ++ isR) hs9 hnd hD
  obtain ⟨q, h3, -⟩ := gfl_get h1 h2
  have hr := va_recv F.2.2.2.2.2.2.1 hP hcl h3
  obtain ⟨-, hfc, kC, hkC, hkind⟩ := F.2.2.2.2.2.2.1.1 ci _ hcl
  refine g_after F (va_runSU (As := As) (rest := rest) (C := C) ⟨hfc, kC, hkC, hkind⟩ ⟨F.1, F.2.1, F.2.2.1, F.2.2.2.2.1, F.2.2.2.2.2.1⟩ (hM H.size) hcw ⟨gP_blind, hr, fun U hU hW => ⟨rfl, by rw [hU], by rw [hU]; exact gsubP isC hC hP, va_K.moved hW.alike F.2.2.2.2.2.2.1, ?_, ?_⟩⟩ rfl hn (hl.1.trans hlen.symm) hstk (lv_room hroom) hd hcs) hP9 hD9 hS hl kk
  · have := gD_iff.mp hD9
    rw [List.flatten_append, List.pairwise_append] at this
    exact gD_iff.mpr ⟨this.1.1, fun _ _ => trivial⟩
  · rw [hU]
    exact gZ_call F hD9 hS hW
end GL8
