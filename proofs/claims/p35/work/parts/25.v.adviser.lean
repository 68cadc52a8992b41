abbrev rmX0_listParts : Room := { frames := 1, cells := 0, slots := 0, locals := 23 }
theorem iX0_listParts_X0 : ∀ w ∈ u_ws RX0 TX0 9, w ∈ wsX0_listParts := by decide +kernel
theorem iX0_listParts_X1 : ∀ w ∈ u_ws RX1 TX1 8, w ∈ wsX0_listParts := by decide +kernel
theorem h0X0_listParts : yX0_listParts.cls = RX0 ∧ yX0_listParts.cls ≠ "java/lang/invoke/MethodHandle" ∧ yX0_listParts.cls ≠ "java/lang/invoke/VarHandle" ∧ (parseMethodDescriptor yX0_listParts.desc).map (fun d => d.parameters.length) = some 2 := by decide +kernel
abbrev rmX0_takeBest : Room := { frames := 0, cells := 0, slots := 0, locals := 0 }
theorem iX0_takeBest_X0 : ∀ w ∈ u_ws RX0 TX0 9, w ∈ wsX0_takeBest := by decide +kernel
theorem h0X0_takeBest : yX0_takeBest.cls = RX0 ∧ yX0_takeBest.cls ≠ "java/lang/invoke/MethodHandle" ∧ yX0_takeBest.cls ≠ "java/lang/invoke/VarHandle" ∧ (parseMethodDescriptor yX0_takeBest.desc).map (fun d => d.parameters.length) = some 0 := by decide +kernel
abbrev rmX0_weighParts : Room := { frames := 4, cells := 0, slots := 0, locals := 100 }
theorem iX0_weighParts_X0 : ∀ w ∈ u_ws RX0 TX0 9, w ∈ wsX0_weighParts := by decide +kernel
theorem iX0_weighParts_X1 : ∀ w ∈ u_ws RX1 TX1 8, w ∈ wsX0_weighParts := by decide +kernel
theorem iX0_weighParts_X8 : ∀ w ∈ u_ws RX8 TX8 5, w ∈ wsX0_weighParts := by decide +kernel
theorem h0X0_weighParts : yX0_weighParts.cls = RX0 ∧ yX0_weighParts.cls ≠ "java/lang/invoke/MethodHandle" ∧ yX0_weighParts.cls ≠ "java/lang/invoke/VarHandle" ∧ (parseMethodDescriptor yX0_weighParts.desc).map (fun d => d.parameters.length) = some 2 := by decide +kernel
def fX0_listParts_L24 (x2 : Int64) (x4 : Int32) (x5 : Int32) (P : tPieces) (k : tAdv → Option (tAdv)) : Nat → Int32 → tAdv → Option (tAdv)
  | 0, _, _ => none
  | n + 1, x6, V => if x4 < (x6 + x5) then (k V) else (if 72 ≤ V.2.2.2.1 then (k V) else (gb1 (fX4_section x2 x6 x5) fun (r_1 : Int64) => gb1 (fX6_numberOf r_1 P) fun (r_2 : Int32) => if r_2 = (-1) then (if V.2.2.2.1 < 0 ∨ 72 ≤ V.2.2.2.1.toNatClampNeg then none else Lt (V.1, V.2.1, V.2.2.1, V.2.2.2.1, vp_updL V.2.2.2.2.1 (V.2.2.2.1.toNatClampNeg) r_1, V.2.2.2.2.2.1, V.2.2.2.2.2.2.1, V.2.2.2.2.2.2.2) fun (V_1 : tAdv) => if V_1.2.2.2.1 < 0 ∨ 72 ≤ V_1.2.2.2.1.toNatClampNeg then none else Lt (V_1.1, V_1.2.1, V_1.2.2.1, V_1.2.2.2.1, V_1.2.2.2.2.1, upd V_1.2.2.2.2.2.1 (V_1.2.2.2.1.toNatClampNeg) x6, V_1.2.2.2.2.2.2.1, V_1.2.2.2.2.2.2.2) fun (V_2 : tAdv) => if V_2.2.2.2.1 < 0 ∨ 72 ≤ V_2.2.2.2.1.toNatClampNeg then none else Lt (V_2.1, V_2.2.1, V_2.2.2.1, V_2.2.2.2.1, V_2.2.2.2.2.1, V_2.2.2.2.2.2.1, upd V_2.2.2.2.2.2.2.1 (V_2.2.2.2.1.toNatClampNeg) x5, V_2.2.2.2.2.2.2.2) fun (V_3 : tAdv) => if V_3.2.2.2.1 < 0 ∨ 72 ≤ V_3.2.2.2.1.toNatClampNeg then none else Lt (V_3.1, V_3.2.1, V_3.2.2.1, V_3.2.2.2.1, V_3.2.2.2.2.1, V_3.2.2.2.2.2.1, V_3.2.2.2.2.2.2.1, upd V_3.2.2.2.2.2.2.2 (V_3.2.2.2.1.toNatClampNeg) 0) fun (V_4 : tAdv) => fX0_listParts_L24 x2 x4 x5 P k n (x6 + 1) (V_4.1, V_4.2.1, V_4.2.2.1, V_4.2.2.2.1 + 1, V_4.2.2.2.2.1, V_4.2.2.2.2.2.1, V_4.2.2.2.2.2.2.1, V_4.2.2.2.2.2.2.2)) else (fX0_listParts_L24 x2 x4 x5 P k n (x6 + 1) V)))
def fX0_listParts_L14 (x2 : Int64) (x4 : Int32) (P : tPieces) (k : tAdv → Option (tAdv)) : Nat → Int32 → tAdv → Option (tAdv)
  | 0, _, _ => none
  | n + 1, x5, V => if 6 < x5 then (k V) else (fX0_listParts_L24 x2 x4 x5 P (fun (V_1 : tAdv) => (fX0_listParts_L14 x2 x4 P k n (x5 + 1) V_1)) FU 0 V)
def fX0_listParts (x2 : Int64) (V : tAdv) (P : tPieces) : Option (tAdv) := gb1 (fX4_lengthOf x2) fun (r_1 : Int32) => fX0_listParts_L14 x2 r_1 P (fun (V_1 : tAdv) => (some V_1)) FU 1 (V.1, V.2.1, V.2.2.1, 0, V.2.2.2.2.1, V.2.2.2.2.2.1, V.2.2.2.2.2.2.1, V.2.2.2.2.2.2.2)
def fX0_takeBest_L7 (k : tAdv → Option (tAdv)) : Nat → Int32 → tAdv → Option (tAdv)
  | 0, _, _ => none
  | n + 1, x1, V => if V.2.2.2.1 ≤ x1 then (k V) else (if x1 < 0 ∨ 72 ≤ x1.toNatClampNeg then none else if (V.2.2.2.2.2.2.2 (x1.toNatClampNeg)) ≤ V.2.2.1 then (fX0_takeBest_L7 k n (x1 + 1) V) else (if x1 < 0 ∨ 72 ≤ x1.toNatClampNeg then none else Lt (V.1, V.2.1, V.2.2.2.2.2.2.2 (x1.toNatClampNeg), V.2.2.2.1, V.2.2.2.2.1, V.2.2.2.2.2.1, V.2.2.2.2.2.2.1, V.2.2.2.2.2.2.2) fun (V_1 : tAdv) => if x1 < 0 ∨ 72 ≤ x1.toNatClampNeg then none else Lt (V_1.2.2.2.2.2.1 (x1.toNatClampNeg), V_1.2.1, V_1.2.2.1, V_1.2.2.2.1, V_1.2.2.2.2.1, V_1.2.2.2.2.2.1, V_1.2.2.2.2.2.2.1, V_1.2.2.2.2.2.2.2) fun (V_2 : tAdv) => if x1 < 0 ∨ 72 ≤ x1.toNatClampNeg then none else Lt (V_2.1, V_2.2.2.2.2.2.2.1 (x1.toNatClampNeg), V_2.2.2.1, V_2.2.2.2.1, V_2.2.2.2.2.1, V_2.2.2.2.2.2.1, V_2.2.2.2.2.2.2.1, V_2.2.2.2.2.2.2.2) fun (V_3 : tAdv) => fX0_takeBest_L7 k n (x1 + 1) V_3))
def fX0_takeBest (V : tAdv) : Option (tAdv) := fX0_takeBest_L7 (fun (V_1 : tAdv) => (some V_1)) FU 0 (V.1, V.2.1, 0, V.2.2.2.1, V.2.2.2.2.1, V.2.2.2.2.2.1, V.2.2.2.2.2.2.1, V.2.2.2.2.2.2.2)
def fX0_weighParts_L42 (x4 : Int32) (k : tAdv → tCut → tCutR → Option (tAdv × tCut × tCutR)) : Nat → Int32 → tAdv → tCut → tCutR → Option (tAdv × tCut × tCutR)
  | 0, _, _, _, _ => none
  | n + 1, x5, V, C, S => if V.2.2.2.1 ≤ x5 then (k V C S) else (if x5 < 0 ∨ 72 ≤ x5.toNatClampNeg then none else if x5 < 0 ∨ 72 ≤ x5.toNatClampNeg then none else if x5 < 0 ∨ 72 ≤ x5.toNatClampNeg then none else gb3 (fX2_gainOf (V.2.2.2.2.1 (x5.toNatClampNeg)) (V.2.2.2.2.2.2.1 (x5.toNatClampNeg)) C S) fun (r_1 : Int32) (C_1 : tCut) (S_1 : tCutR) => if x5 < 0 ∨ 72 ≤ x5.toNatClampNeg then none else Lt (V.1, V.2.1, V.2.2.1, V.2.2.2.1, V.2.2.2.2.1, V.2.2.2.2.2.1, V.2.2.2.2.2.2.1, upd V.2.2.2.2.2.2.2 (x5.toNatClampNeg) ((V.2.2.2.2.2.2.2 (x5.toNatClampNeg)) + r_1)) fun (V_1 : tAdv) => fX0_weighParts_L42 x4 k n (x5 + 1) V_1 C_1 S_1)
def fX0_weighParts_L9 (settings : (Nat → Int32)) (P : tPieces) (W : tWords) (k : tAdv → tCut → tCutR → Option (tAdv × tCut × tCutR)) : Nat → Int32 → tAdv → tCut → tCutR → Option (tAdv × tCut × tCutR)
  | 0, _, _, _, _ => none
  | n + 1, x4, V, C, S => if W.1 ≤ x4 then (k V C S) else (if x4 < 0 ∨ 16 ≤ x4.toNatClampNeg then none else gb2 (fX2_cutKnown (W.2.1 (x4.toNatClampNeg)) C S settings P) fun (C_1 : tCut) (S_1 : tCutR) => fX0_weighParts_L42 x4 (fun (V_1 : tAdv) (C_2 : tCut) (S_2 : tCutR) => (fX0_weighParts_L9 settings P W k n (x4 + 1) V_1 C_2 S_2)) FU 0 V C_1 S_1)
def fX0_weighParts (x2 : Int64) (V : tAdv) (C : tCut) (S : tCutR) (settings : (Nat → Int32)) (P : tPieces) (W : tWords) : Option (tAdv × tCut × tCutR) := gb1 (fX0_listParts x2 V P) fun (V_1 : tAdv) => fX0_weighParts_L9 settings P W (fun (V_2 : tAdv) (C_1 : tCut) (S_1 : tCutR) => (gb1 (fX0_takeBest V_2) fun (V_3 : tAdv) => some (V_3, C_1, S_1))) FU 0 V_1 C S
set_option maxHeartbeats 4000000 in
set_option maxRecDepth 100000 in
theorem ktX0_listParts_L24 {p : Program} {l : Launch} {e : Env} {s : State} {m : MethodId} {args : Array Value} {below : List Frame} {meth : Method} {c : Code} {E : gE} {A : Nat → Prop} (F : gFx p s m args meth c RX0 wsX0_listParts cX0_listParts 9 none vwCl E A) (aV aC aB asettings asums aU aP aW : Nat → Nat) (x2 : Int64) (x4 : Int32) (x5 : Int32) (P : tPieces) (B_time : Int32) (B_chest : Int32) (B_fund : Int32) (V' : tAdv) {k : tAdv → Option (tAdv)} (hk : ∀ (V : tAdv), k V = some V' → Gj p l e rmX0_listParts s m args below meth c 0 0 (MQ below (gQ vwCl E A (fun v w => v = none ∧ w = [sAdv E aV aC V', sBook E aB asettings asums aU aP aW B_time B_chest B_fund, sPieces E aP P])) args s 0 0 A) vwCl E A [sAdv E aV aC V, sBook E aB asettings asums aU aP aW B_time B_chest B_fund, sPieces E aP P] [some (.ref (aV 0)), some (.ref (aB 0)), some (.long x2), none, some (.int x4), some (.int x5), none, none, none] [] 125) : ∀ (n : Nat) (x6 : Int32) (V : tAdv), fX0_listParts_L24 x2 x4 x5 P k n x6 V = some V' → Gj p l e rmX0_listParts s m args below meth c 0 0 (MQ below (gQ vwCl E A (fun v w => v = none ∧ w = [sAdv E aV aC V', sBook E aB asettings asums aU aP aW B_time B_chest B_fund, sPieces E aP P])) args s 0 0 A) vwCl E A [sAdv E aV aC V, sBook E aB asettings asums aU aP aW B_time B_chest B_fund, sPieces E aP P] [some (.ref (aV 0)), some (.ref (aB 0)), some (.long x2), none, some (.int x4), some (.int x5), some (.int x6), none, none] [] 24
  | 0, _, _, hf => by cases hf
  | n + 1, x6, V, hf => by
    have ih := ktX0_listParts_L24 F aV aC aB asettings asums aU aP aW x2 x4 x5 P B_time B_chest B_fund V' hk n
    rw [fX0_listParts_L24] at hf
    refine g_iload F dX0_listParts_24 rfl ?_
    refine g_iload F dX0_listParts_26 rfl ?_
    refine g_iadd F dX0_listParts_28 ?_
    refine g_iload F dX0_listParts_29 rfl ?_
    refine g_icmp_gt F 125 dX0_listParts_31 (by decide) (fun hc_3 => ?_) (fun hc_3 => ?_)
    · replace hf := gi_t hc_3 hf
      refine g_mask [true, true, true, true, true, true, false, true, true] rfl ?_
      exact hk V hf
    · replace hf := gi_f hc_3 hf
      refine g_aload_n F dX0_listParts_34 rfl ?_
      refine g_get (C := RX0) (T := TX0) (N := 9) F 0 0 4 rfl rfl rfl iX0_listParts_X0 (by decide) (by decide +kernel) rfl dX0_listParts_35 ?_
      refine g_bipush F 72 dX0_listParts_38 rfl ?_
      refine g_icmp_ge F 125 dX0_listParts_40 (by decide) (fun hc_2 => ?_) (fun hc_2 => ?_)
      · replace hf := gi_t hc_2 hf
        refine g_mask [true, true, true, true, true, true, false, true, true] rfl ?_
        exact hk V hf
      · replace hf := gi_f hc_2 hf
        refine g_lload_n F dX0_listParts_43 rfl ?_
        refine g_iload F dX0_listParts_44 rfl ?_
        refine g_iload F dX0_listParts_46 rfl ?_
        obtain ⟨r_1, hg_1, hf⟩ := gb1_el hf
        refine g_callS (Lr := [sAdv E aV aC V, sBook E aB asettings asums aU aP aW B_time B_chest B_fund, sPieces E aP P]) (As := [.long x2, .int x6, .int x5]) (rest := []) F 3 (ctX4_section l E x2 x6 x5 r_1 hg_1) (va_cwS 3 F.2.2.2.2.2.1 gX0_listParts_X4_section rfl rfl rfl h0X4_section ⟨Nat.le_of_ble_eq_true rfl, Nat.le_of_ble_eq_true rfl⟩) [] [0, 1, 2] rfl rfl rfl rfl rfl rfl (Nat.le_of_ble_eq_true rfl) dX0_listParts_48 ⟨(Nat.le_of_ble_eq_true rfl), (Nat.le_of_ble_eq_true rfl)⟩ ?_
        rintro v w ⟨rfl, rfl⟩
        refine g_norm (Lw' := [sAdv E aV aC V, sBook E aB asettings asums aU aP aW B_time B_chest B_fund, sPieces E aP P]) (st' := [.long r_1]) (pc' := 51) [0, 1, 2] rfl rfl rfl rfl ?_
        refine g_lstore (lv' := [some (.ref (aV 0)), some (.ref (aB 0)), some (.long x2), none, some (.int x4), some (.int x5), some (.int x6), some (.long r_1), none]) F dX0_listParts_51 (Nat.le_of_ble_eq_true rfl) rfl rfl ?_
        refine g_aload_n F dX0_listParts_53 rfl ?_
        refine g_get (C := RX1) (T := TX1) (N := 8) F 1 0 3 rfl rfl rfl iX0_listParts_X1 (by decide) (by decide +kernel) rfl dX0_listParts_54 ?_
        refine g_lload F dX0_listParts_57 rfl ?_
        obtain ⟨r_2, hg_2, hf⟩ := gb1_el hf
        refine g_callV (C := RX6) (T := TX6) (N := 6) (Lr := [sAdv E aV aC V, sBook E aB asettings asums aU aP aW B_time B_chest B_fund]) (As := [.long r_1]) (rest := []) F 2 0 1 (ctX6_numberOf l E aP r_1 P r_2 hg_2) gX0_listParts_X6_numberOf rfl rfl rfl h0X6_numberOf ⟨Nat.le_of_ble_eq_true rfl, Nat.le_of_ble_eq_true rfl⟩ rfl rfl rfl [2] [0, 1] rfl rfl rfl rfl rfl rfl (Nat.le_of_ble_eq_true rfl) dX0_listParts_59 ⟨(Nat.le_of_ble_eq_true rfl), (Nat.le_of_ble_eq_true rfl)⟩ ?_
        rintro v w ⟨rfl, rfl⟩
        refine g_norm (Lw' := [sAdv E aV aC V, sBook E aB asettings asums aU aP aW B_time B_chest B_fund, sPieces E aP P]) (st' := [.int r_2]) (pc' := 62) [1, 2, 0] rfl rfl rfl rfl ?_
        refine g_iconst F (-1) dX0_listParts_62 rfl ?_
        refine g_icmp_ne F 119 dX0_listParts_63 (by decide) (fun hc_1 => ?_) (fun hc_1 => ?_)
        · replace hf := gi_f hc_1 hf
          refine g_iinc (lv' := [some (.ref (aV 0)), some (.ref (aB 0)), some (.long x2), none, some (.int x4), some (.int x5), some (.int (x6 + 1)), some (.long r_1), none]) F (x6 + 1) dX0_listParts_119 rfl rfl rfl rfl ?_
          refine g_goto F 24 dX0_listParts_122 (by decide) ?_
          refine g_mask [true, true, true, true, true, true, true, false, true] rfl ?_
          exact ih (x6 + 1) V hf
        · replace hf := gi_t hc_1 hf
          refine g_aload_n F dX0_listParts_66 rfl ?_
          refine g_get (C := RX0) (T := TX0) (N := 9) F 0 0 5 rfl rfl rfl iX0_listParts_X0 (by decide) (by decide +kernel) rfl dX0_listParts_67 ?_
          refine g_aload_n F dX0_listParts_70 rfl ?_
          refine g_get (C := RX0) (T := TX0) (N := 9) F 0 0 4 rfl rfl rfl iX0_listParts_X0 (by decide) (by decide +kernel) rfl dX0_listParts_71 ?_
          refine g_lload F dX0_listParts_74 rfl ?_
          obtain ⟨hb_1, hf⟩ := gb_in hf
          obtain ⟨V_1, hV_1, hf⟩ := Lt_el hf
          refine g_last (Lw' := [sAdv E aV aC V_1, sBook E aB asettings asums aU aP aW B_time B_chest B_fund, sPieces E aP P]) F 0 1 (V.2.2.2.1.toNatClampNeg) rfl rfl rfl hb_1 dX0_listParts_76 (by subst hV_1; rfl) ?_
          refine g_aload_n F dX0_listParts_77 rfl ?_
          refine g_get (C := RX0) (T := TX0) (N := 9) F 0 0 6 rfl rfl rfl iX0_listParts_X0 (by decide) (by decide +kernel) rfl dX0_listParts_78 ?_
          refine g_aload_n F dX0_listParts_81 rfl ?_
          refine g_get (C := RX0) (T := TX0) (N := 9) F 0 0 4 rfl rfl rfl iX0_listParts_X0 (by decide) (by decide +kernel) rfl dX0_listParts_82 ?_
          refine g_iload F dX0_listParts_85 rfl ?_
          obtain ⟨hb_2, hf⟩ := gb_in hf
          obtain ⟨V_2, hV_2, hf⟩ := Lt_el hf
          refine g_iast (Lw' := [sAdv E aV aC V_2, sBook E aB asettings asums aU aP aW B_time B_chest B_fund, sPieces E aP P]) F 0 2 (V_1.2.2.2.1.toNatClampNeg) rfl rfl rfl hb_2 dX0_listParts_87 (by subst hV_2; rfl) ?_
          refine g_aload_n F dX0_listParts_88 rfl ?_
          refine g_get (C := RX0) (T := TX0) (N := 9) F 0 0 7 rfl rfl rfl iX0_listParts_X0 (by decide) (by decide +kernel) rfl dX0_listParts_89 ?_
          refine g_aload_n F dX0_listParts_92 rfl ?_
          refine g_get (C := RX0) (T := TX0) (N := 9) F 0 0 4 rfl rfl rfl iX0_listParts_X0 (by decide) (by decide +kernel) rfl dX0_listParts_93 ?_
          refine g_iload F dX0_listParts_96 rfl ?_
          obtain ⟨hb_3, hf⟩ := gb_in hf
          obtain ⟨V_3, hV_3, hf⟩ := Lt_el hf
          refine g_iast (Lw' := [sAdv E aV aC V_3, sBook E aB asettings asums aU aP aW B_time B_chest B_fund, sPieces E aP P]) F 0 3 (V_2.2.2.2.1.toNatClampNeg) rfl rfl rfl hb_3 dX0_listParts_98 (by subst hV_3; rfl) ?_
          refine g_aload_n F dX0_listParts_99 rfl ?_
          refine g_get (C := RX0) (T := TX0) (N := 9) F 0 0 8 rfl rfl rfl iX0_listParts_X0 (by decide) (by decide +kernel) rfl dX0_listParts_100 ?_
          refine g_aload_n F dX0_listParts_103 rfl ?_
          refine g_get (C := RX0) (T := TX0) (N := 9) F 0 0 4 rfl rfl rfl iX0_listParts_X0 (by decide) (by decide +kernel) rfl dX0_listParts_104 ?_
          refine g_iconst F 0 dX0_listParts_107 rfl ?_
          obtain ⟨hb_4, hf⟩ := gb_in hf
          obtain ⟨V_4, hV_4, hf⟩ := Lt_el hf
          refine g_iast (Lw' := [sAdv E aV aC V_4, sBook E aB asettings asums aU aP aW B_time B_chest B_fund, sPieces E aP P]) F 0 4 (V_3.2.2.2.1.toNatClampNeg) rfl rfl rfl hb_4 dX0_listParts_108 (by subst hV_4; rfl) ?_
          refine g_aload_n F dX0_listParts_109 rfl ?_
          refine g_dup F dX0_listParts_110 rfl ?_
          refine g_get (C := RX0) (T := TX0) (N := 9) F 0 0 4 rfl rfl rfl iX0_listParts_X0 (by decide) (by decide +kernel) rfl dX0_listParts_111 ?_
          refine g_iconst F 1 dX0_listParts_114 rfl ?_
          refine g_iadd F dX0_listParts_115 ?_
          refine g_put (C := RX0) (T := TX0) (N := 9) (tys := tyX0) (Lw' := [sAdv E aV aC (V_4.1, V_4.2.1, V_4.2.2.1, V_4.2.2.2.1 + 1, V_4.2.2.2.2.1, V_4.2.2.2.2.2.1, V_4.2.2.2.2.2.2.1, V_4.2.2.2.2.2.2.2), sBook E aB asettings asums aU aP aW B_time B_chest B_fund, sPieces E aP P]) F 0 0 4 rfl rfl rfl iX0_listParts_X0 tyX0_ok nmX0 (by decide) (by decide +kernel) rfl rfl rfl rfl (Nat.le_of_ble_eq_true rfl) dX0_listParts_116 rfl ?_
          refine g_iinc (lv' := [some (.ref (aV 0)), some (.ref (aB 0)), some (.long x2), none, some (.int x4), some (.int x5), some (.int (x6 + 1)), some (.long r_1), none]) F (x6 + 1) dX0_listParts_119 rfl rfl rfl rfl ?_
          refine g_goto F 24 dX0_listParts_122 (by decide) ?_
          refine g_mask [true, true, true, true, true, true, true, false, true] rfl ?_
          exact ih (x6 + 1) (V_4.1, V_4.2.1, V_4.2.2.1, V_4.2.2.2.1 + 1, V_4.2.2.2.2.1, V_4.2.2.2.2.2.1, V_4.2.2.2.2.2.2.1, V_4.2.2.2.2.2.2.2) hf
set_option maxHeartbeats 4000000 in
set_option maxRecDepth 100000 in
theorem ktX0_listParts_L14 {p : Program} {l : Launch} {e : Env} {s : State} {m : MethodId} {args : Array Value} {below : List Frame} {meth : Method} {c : Code} {E : gE} {A : Nat → Prop} (F : gFx p s m args meth c RX0 wsX0_listParts cX0_listParts 9 none vwCl E A) (aV aC aB asettings asums aU aP aW : Nat → Nat) (x2 : Int64) (x4 : Int32) (P : tPieces) (B_time : Int32) (B_chest : Int32) (B_fund : Int32) (V' : tAdv) {k : tAdv → Option (tAdv)} (hk : ∀ (V : tAdv), k V = some V' → Gj p l e rmX0_listParts s m args below meth c 0 0 (MQ below (gQ vwCl E A (fun v w => v = none ∧ w = [sAdv E aV aC V', sBook E aB asettings asums aU aP aW B_time B_chest B_fund, sPieces E aP P])) args s 0 0 A) vwCl E A [sAdv E aV aC V, sBook E aB asettings asums aU aP aW B_time B_chest B_fund, sPieces E aP P] [none, none, none, none, none, none, none, none, none] [] 131) : ∀ (n : Nat) (x5 : Int32) (V : tAdv), fX0_listParts_L14 x2 x4 P k n x5 V = some V' → Gj p l e rmX0_listParts s m args below meth c 0 0 (MQ below (gQ vwCl E A (fun v w => v = none ∧ w = [sAdv E aV aC V', sBook E aB asettings asums aU aP aW B_time B_chest B_fund, sPieces E aP P])) args s 0 0 A) vwCl E A [sAdv E aV aC V, sBook E aB asettings asums aU aP aW B_time B_chest B_fund, sPieces E aP P] [some (.ref (aV 0)), some (.ref (aB 0)), some (.long x2), none, some (.int x4), some (.int x5), none, none, none] [] 14
  | 0, _, _, hf => by cases hf
  | n + 1, x5, V, hf => by
    have ih := ktX0_listParts_L14 F aV aC aB asettings asums aU aP aW x2 x4 P B_time B_chest B_fund V' hk n
    rw [fX0_listParts_L14] at hf
    refine g_iload F dX0_listParts_14 rfl ?_
    refine g_bipush F 6 dX0_listParts_16 rfl ?_
    refine g_icmp_gt F 131 dX0_listParts_18 (by decide) (fun hc_1 => ?_) (fun hc_1 => ?_)
    · replace hf := gi_t hc_1 hf
      refine g_mask [false, false, false, true, false, false, true, true, true] rfl ?_
      exact hk V hf
    · replace hf := gi_f hc_1 hf
      refine g_iconst F 0 dX0_listParts_21 rfl ?_
      refine g_istore (lv' := [some (.ref (aV 0)), some (.ref (aB 0)), some (.long x2), none, some (.int x4), some (.int x5), some (.int 0), none, none]) F dX0_listParts_22 (Nat.le_of_ble_eq_true rfl) rfl rfl ?_
      refine ktX0_listParts_L24 F aV aC aB asettings asums aU aP aW x2 x4 x5 P B_time B_chest B_fund V' (fun V_1 hf => ?_) FU 0 V hf
      refine g_iinc (lv' := [some (.ref (aV 0)), some (.ref (aB 0)), some (.long x2), none, some (.int x4), some (.int (x5 + 1)), none, none, none]) F (x5 + 1) dX0_listParts_125 rfl rfl rfl rfl ?_
      refine g_goto F 14 dX0_listParts_128 (by decide) ?_
      exact ih (x5 + 1) V_1 hf
set_option maxHeartbeats 4000000 in
set_option maxRecDepth 100000 in
theorem ctX0_listParts (l : Launch) (E : gE) (aV aC aB asettings asums aU aP aW : Nat → Nat) (x2 : Int64) (V : tAdv) (B_time : Int32) (B_chest : Int32) (B_fund : Int32) (P : tPieces) (V' : tAdv) (hf : fX0_listParts x2 V P = some V') : gMet l yX0_listParts wsX0_listParts rmX0_listParts vwCl E [.ref (aV 0), .ref (aB 0), .long x2] [sAdv E aV aC V, sBook E aB asettings asums aU aP aW B_time B_chest B_fund, sPieces E aP P] (fun v w => v = none ∧ w = [sAdv E aV aC V', sBook E aB asettings asums aU aP aW B_time B_chest B_fund, sPieces E aP P]) 0 0 := by
  refine g_entry [some (.ref (aV 0)), some (.ref (aB 0)), some (.long x2), none, none, none, none, none, none] (by decide) rfl (Nat.le_of_ble_eq_true rfl) rfl ?_
  intro p e s m below meth c A F hnm
  unfold fX0_listParts at hf
  refine g_aload_n F dX0_listParts_0 rfl ?_
  refine g_iconst F 0 dX0_listParts_1 rfl ?_
  refine g_put (C := RX0) (T := TX0) (N := 9) (tys := tyX0) (Lw' := [sAdv E aV aC (V.1, V.2.1, V.2.2.1, 0, V.2.2.2.2.1, V.2.2.2.2.2.1, V.2.2.2.2.2.2.1, V.2.2.2.2.2.2.2), sBook E aB asettings asums aU aP aW B_time B_chest B_fund, sPieces E aP P]) F 0 0 4 rfl rfl rfl iX0_listParts_X0 tyX0_ok nmX0 (by decide) (by decide +kernel) rfl rfl rfl rfl (Nat.le_of_ble_eq_true rfl) dX0_listParts_2 rfl ?_
  refine g_lload_n F dX0_listParts_5 rfl ?_
  obtain ⟨r_1, hg_1, hf⟩ := gb1_el hf
  refine g_callS (Lr := [sAdv E aV aC (V.1, V.2.1, V.2.2.1, 0, V.2.2.2.2.1, V.2.2.2.2.2.1, V.2.2.2.2.2.2.1, V.2.2.2.2.2.2.2), sBook E aB asettings asums aU aP aW B_time B_chest B_fund, sPieces E aP P]) (As := [.long x2]) (rest := []) F 1 (ctX4_lengthOf l E x2 r_1 hg_1) (va_cwS 1 F.2.2.2.2.2.1 gX0_listParts_X4_lengthOf rfl rfl rfl h0X4_lengthOf ⟨Nat.le_of_ble_eq_true rfl, Nat.le_of_ble_eq_true rfl⟩) [] [0, 1, 2] rfl rfl rfl rfl rfl rfl (Nat.le_of_ble_eq_true rfl) dX0_listParts_6 ⟨(Nat.le_of_ble_eq_true rfl), (Nat.le_of_ble_eq_true rfl)⟩ ?_
  rintro v w ⟨rfl, rfl⟩
  refine g_norm (Lw' := [sAdv E aV aC (V.1, V.2.1, V.2.2.1, 0, V.2.2.2.2.1, V.2.2.2.2.2.1, V.2.2.2.2.2.2.1, V.2.2.2.2.2.2.2), sBook E aB asettings asums aU aP aW B_time B_chest B_fund, sPieces E aP P]) (st' := [.int r_1]) (pc' := 9) [0, 1, 2] rfl rfl rfl rfl ?_
  refine g_istore (lv' := [some (.ref (aV 0)), some (.ref (aB 0)), some (.long x2), none, some (.int r_1), none, none, none, none]) F dX0_listParts_9 (Nat.le_of_ble_eq_true rfl) rfl rfl ?_
  refine g_iconst F 1 dX0_listParts_11 rfl ?_
  refine g_istore (lv' := [some (.ref (aV 0)), some (.ref (aB 0)), some (.long x2), none, some (.int r_1), some (.int 1), none, none, none]) F dX0_listParts_12 (Nat.le_of_ble_eq_true rfl) rfl rfl ?_
  refine ktX0_listParts_L14 F aV aC aB asettings asums aU aP aW x2 r_1 P B_time B_chest B_fund V' (fun V_1 hf => ?_) FU 1 (V.1, V.2.1, V.2.2.1, 0, V.2.2.2.2.1, V.2.2.2.2.2.1, V.2.2.2.2.2.2.1, V.2.2.2.2.2.2.2) hf
  cases hf
  exact g_vret F rfl ⟨rfl, rfl⟩ dX0_listParts_131
set_option maxHeartbeats 4000000 in
set_option maxRecDepth 100000 in
theorem ktX0_takeBest_L7 {p : Program} {l : Launch} {e : Env} {s : State} {m : MethodId} {args : Array Value} {below : List Frame} {meth : Method} {c : Code} {E : gE} {A : Nat → Prop} (F : gFx p s m args meth c RX0 wsX0_takeBest cX0_takeBest 2 none vwCl E A) (aV aC : Nat → Nat) (V' : tAdv) {k : tAdv → Option (tAdv)} (hk : ∀ (V : tAdv), k V = some V' → Gj p l e rmX0_takeBest s m args below meth c 0 0 (MQ below (gQ vwCl E A (fun v w => v = none ∧ w = [sAdv E aV aC V'])) args s 0 0 A) vwCl E A [sAdv E aV aC V] [none, none] [] 64) : ∀ (n : Nat) (x1 : Int32) (V : tAdv), fX0_takeBest_L7 k n x1 V = some V' → Gj p l e rmX0_takeBest s m args below meth c 0 0 (MQ below (gQ vwCl E A (fun v w => v = none ∧ w = [sAdv E aV aC V'])) args s 0 0 A) vwCl E A [sAdv E aV aC V] [some (.ref (aV 0)), some (.int x1)] [] 7
  | 0, _, _, hf => by cases hf
  | n + 1, x1, V, hf => by
    have ih := ktX0_takeBest_L7 F aV aC V' hk n
    rw [fX0_takeBest_L7] at hf
    refine g_iload_n F dX0_takeBest_7 rfl ?_
    refine g_aload_n F dX0_takeBest_8 rfl ?_
    refine g_get (C := RX0) (T := TX0) (N := 9) F 0 0 4 rfl rfl rfl iX0_takeBest_X0 (by decide) (by decide +kernel) rfl dX0_takeBest_9 ?_
    refine g_icmp_ge F 64 dX0_takeBest_12 (by decide) (fun hc_2 => ?_) (fun hc_2 => ?_)
    · replace hf := gi_t hc_2 hf
      refine g_mask [false, false] rfl ?_
      exact hk V hf
    · replace hf := gi_f hc_2 hf
      refine g_aload_n F dX0_takeBest_15 rfl ?_
      refine g_get (C := RX0) (T := TX0) (N := 9) F 0 0 8 rfl rfl rfl iX0_takeBest_X0 (by decide) (by decide +kernel) rfl dX0_takeBest_16 ?_
      refine g_iload_n F dX0_takeBest_19 rfl ?_
      obtain ⟨hb_1, hf⟩ := gb_in hf
      refine g_iald F 0 4 (x1.toNatClampNeg) rfl rfl rfl hb_1 dX0_takeBest_20 ?_
      refine g_aload_n F dX0_takeBest_21 rfl ?_
      refine g_get (C := RX0) (T := TX0) (N := 9) F 0 0 2 rfl rfl rfl iX0_takeBest_X0 (by decide) (by decide +kernel) rfl dX0_takeBest_22 ?_
      refine g_icmp_le F 58 dX0_takeBest_25 (by decide) (fun hc_1 => ?_) (fun hc_1 => ?_)
      · replace hf := gi_t hc_1 hf
        refine g_iinc (lv' := [some (.ref (aV 0)), some (.int (x1 + 1))]) F (x1 + 1) dX0_takeBest_58 rfl rfl rfl rfl ?_
        refine g_goto F 7 dX0_takeBest_61 (by decide) ?_
        exact ih (x1 + 1) V hf
      · replace hf := gi_f hc_1 hf
        refine g_aload_n F dX0_takeBest_28 rfl ?_
        refine g_aload_n F dX0_takeBest_29 rfl ?_
        refine g_get (C := RX0) (T := TX0) (N := 9) F 0 0 8 rfl rfl rfl iX0_takeBest_X0 (by decide) (by decide +kernel) rfl dX0_takeBest_30 ?_
        refine g_iload_n F dX0_takeBest_33 rfl ?_
        obtain ⟨hb_2, hf⟩ := gb_in hf
        refine g_iald F 0 4 (x1.toNatClampNeg) rfl rfl rfl hb_2 dX0_takeBest_34 ?_
        obtain ⟨V_1, hV_1, hf⟩ := Lt_el hf
        refine g_put (C := RX0) (T := TX0) (N := 9) (tys := tyX0) (Lw' := [sAdv E aV aC V_1]) F 0 0 2 rfl rfl rfl iX0_takeBest_X0 tyX0_ok nmX0 (by decide) (by decide +kernel) rfl rfl rfl rfl (Nat.le_of_ble_eq_true rfl) dX0_takeBest_35 (by subst hV_1; rfl) ?_
        refine g_aload_n F dX0_takeBest_38 rfl ?_
        refine g_aload_n F dX0_takeBest_39 rfl ?_
        refine g_get (C := RX0) (T := TX0) (N := 9) F 0 0 6 rfl rfl rfl iX0_takeBest_X0 (by decide) (by decide +kernel) rfl dX0_takeBest_40 ?_
        refine g_iload_n F dX0_takeBest_43 rfl ?_
        obtain ⟨hb_3, hf⟩ := gb_in hf
        refine g_iald F 0 2 (x1.toNatClampNeg) rfl rfl rfl hb_3 dX0_takeBest_44 ?_
        obtain ⟨V_2, hV_2, hf⟩ := Lt_el hf
        refine g_put (C := RX0) (T := TX0) (N := 9) (tys := tyX0) (Lw' := [sAdv E aV aC V_2]) F 0 0 0 rfl rfl rfl iX0_takeBest_X0 tyX0_ok nmX0 (by decide) (by decide +kernel) rfl rfl rfl rfl (Nat.le_of_ble_eq_true rfl) dX0_takeBest_45 (by subst hV_2; rfl) ?_
        refine g_aload_n F dX0_takeBest_48 rfl ?_
        refine g_aload_n F dX0_takeBest_49 rfl ?_
        refine g_get (C := RX0) (T := TX0) (N := 9) F 0 0 7 rfl rfl rfl iX0_takeBest_X0 (by decide) (by decide +kernel) rfl dX0_takeBest_50 ?_
        refine g_iload_n F dX0_takeBest_53 rfl ?_
        obtain ⟨hb_4, hf⟩ := gb_in hf
        refine g_iald F 0 3 (x1.toNatClampNeg) rfl rfl rfl hb_4 dX0_takeBest_54 ?_
        obtain ⟨V_3, hV_3, hf⟩ := Lt_el hf
        refine g_put (C := RX0) (T := TX0) (N := 9) (tys := tyX0) (Lw' := [sAdv E aV aC V_3]) F 0 0 1 rfl rfl rfl iX0_takeBest_X0 tyX0_ok nmX0 (by decide) (by decide +kernel) rfl rfl rfl rfl (Nat.le_of_ble_eq_true rfl) dX0_takeBest_55 (by subst hV_3; rfl) ?_
        refine g_iinc (lv' := [some (.ref (aV 0)), some (.int (x1 + 1))]) F (x1 + 1) dX0_takeBest_58 rfl rfl rfl rfl ?_
        refine g_goto F 7 dX0_takeBest_61 (by decide) ?_
        exact ih (x1 + 1) V_3 hf
set_option maxHeartbeats 4000000 in
set_option maxRecDepth 100000 in
theorem ctX0_takeBest (l : Launch) (E : gE) (aV aC : Nat → Nat) (V : tAdv) (V' : tAdv) (hf : fX0_takeBest V = some V') : gMet l yX0_takeBest wsX0_takeBest rmX0_takeBest vwCl E [.ref (aV 0)] [sAdv E aV aC V] (fun v w => v = none ∧ w = [sAdv E aV aC V']) 0 0 := by
  refine g_entry [some (.ref (aV 0)), none] (by decide) rfl (Nat.le_of_ble_eq_true rfl) rfl ?_
  intro p e s m below meth c A F hnm
  unfold fX0_takeBest at hf
  refine g_aload_n F dX0_takeBest_0 rfl ?_
  refine g_iconst F 0 dX0_takeBest_1 rfl ?_
  refine g_put (C := RX0) (T := TX0) (N := 9) (tys := tyX0) (Lw' := [sAdv E aV aC (V.1, V.2.1, 0, V.2.2.2.1, V.2.2.2.2.1, V.2.2.2.2.2.1, V.2.2.2.2.2.2.1, V.2.2.2.2.2.2.2)]) F 0 0 2 rfl rfl rfl iX0_takeBest_X0 tyX0_ok nmX0 (by decide) (by decide +kernel) rfl rfl rfl rfl (Nat.le_of_ble_eq_true rfl) dX0_takeBest_2 rfl ?_
  refine g_iconst F 0 dX0_takeBest_5 rfl ?_
  refine g_istore_n (lv' := [some (.ref (aV 0)), some (.int 0)]) F dX0_takeBest_6 (Nat.le_of_ble_eq_true rfl) rfl rfl ?_
  refine ktX0_takeBest_L7 F aV aC V' (fun V_1 hf => ?_) FU 0 (V.1, V.2.1, 0, V.2.2.2.1, V.2.2.2.2.1, V.2.2.2.2.2.1, V.2.2.2.2.2.2.1, V.2.2.2.2.2.2.2) hf
  cases hf
  exact g_vret F rfl ⟨rfl, rfl⟩ dX0_takeBest_64
set_option maxHeartbeats 4000000 in
set_option maxRecDepth 100000 in
theorem ktX0_weighParts_L42 {p : Program} {l : Launch} {e : Env} {s : State} {m : MethodId} {args : Array Value} {below : List Frame} {meth : Method} {c : Code} {E : gE} {A : Nat → Prop} (F : gFx p s m args meth c RX0 wsX0_weighParts cX0_weighParts 6 none vwCl E A) (aV aC aS aB asettings asums aU aP aW : Nat → Nat) (x4 : Int32) (B_time : Int32) (B_chest : Int32) (B_fund : Int32) (settings : (Nat → Int32)) (P : tPieces) (W : tWords) (V' : tAdv) (C' : tCut) (S' : tCutR) {k : tAdv → tCut → tCutR → Option (tAdv × tCut × tCutR)} (hk : ∀ (V : tAdv) (C : tCut) (S : tCutR), k V C S = some (V', C', S') → Gj p l e rmX0_weighParts s m args below meth c 0 0 (MQ below (gQ vwCl E A (fun v w => v = none ∧ w = [sAdv E aV aC V', sCut E aC aS C', sCutR E aS S', sBook E aB asettings asums aU aP aW B_time B_chest B_fund, sArrI E asettings 5 settings, sPieces E aP P, sWords E aW W])) args s 0 0 A) vwCl E A [sAdv E aV aC V, sCut E aC aS C, sCutR E aS S, sBook E aB asettings asums aU aP aW B_time B_chest B_fund, sArrI E asettings 5 settings, sPieces E aP P, sWords E aW W] [some (.ref (aV 0)), some (.ref (aB 0)), none, none, some (.int x4), none] [] 88) : ∀ (n : Nat) (x5 : Int32) (V : tAdv) (C : tCut) (S : tCutR), fX0_weighParts_L42 x4 k n x5 V C S = some (V', C', S') → Gj p l e rmX0_weighParts s m args below meth c 0 0 (MQ below (gQ vwCl E A (fun v w => v = none ∧ w = [sAdv E aV aC V', sCut E aC aS C', sCutR E aS S', sBook E aB asettings asums aU aP aW B_time B_chest B_fund, sArrI E asettings 5 settings, sPieces E aP P, sWords E aW W])) args s 0 0 A) vwCl E A [sAdv E aV aC V, sCut E aC aS C, sCutR E aS S, sBook E aB asettings asums aU aP aW B_time B_chest B_fund, sArrI E asettings 5 settings, sPieces E aP P, sWords E aW W] [some (.ref (aV 0)), some (.ref (aB 0)), none, none, some (.int x4), some (.int x5)] [] 42
  | 0, _, _, _, _, hf => by cases hf
  | n + 1, x5, V, C, S, hf => by
    have ih := ktX0_weighParts_L42 F aV aC aS aB asettings asums aU aP aW x4 B_time B_chest B_fund settings P W V' C' S' hk n
    rw [fX0_weighParts_L42] at hf
    refine g_iload F dX0_weighParts_42 rfl ?_
    refine g_aload_n F dX0_weighParts_44 rfl ?_
    refine g_get (C := RX0) (T := TX0) (N := 9) F 0 0 4 rfl rfl rfl iX0_weighParts_X0 (by decide) (by decide +kernel) rfl dX0_weighParts_45 ?_
    refine g_icmp_ge F 88 dX0_weighParts_48 (by decide) (fun hc_1 => ?_) (fun hc_1 => ?_)
    · replace hf := gi_t hc_1 hf
      refine g_mask [true, true, true, true, true, false] rfl ?_
      exact hk V C S hf
    · replace hf := gi_f hc_1 hf
      refine g_aload_n F dX0_weighParts_51 rfl ?_
      refine g_get (C := RX0) (T := TX0) (N := 9) F 0 0 8 rfl rfl rfl iX0_weighParts_X0 (by decide) (by decide +kernel) rfl dX0_weighParts_52 ?_
      refine g_iload F dX0_weighParts_55 rfl ?_
      refine g_dup2 F dX0_weighParts_57 rfl rfl ?_
      obtain ⟨hb_1, hf⟩ := gb_in hf
      refine g_iald F 0 4 (x5.toNatClampNeg) rfl rfl rfl hb_1 dX0_weighParts_58 ?_
      refine g_aload_n F dX0_weighParts_59 rfl ?_
      refine g_get (C := RX0) (T := TX0) (N := 9) F 0 0 3 rfl rfl rfl iX0_weighParts_X0 (by decide) (by decide +kernel) rfl dX0_weighParts_60 ?_
      refine g_aload_n F dX0_weighParts_63 rfl ?_
      refine g_get (C := RX0) (T := TX0) (N := 9) F 0 0 5 rfl rfl rfl iX0_weighParts_X0 (by decide) (by decide +kernel) rfl dX0_weighParts_64 ?_
      refine g_iload F dX0_weighParts_67 rfl ?_
      obtain ⟨hb_2, hf⟩ := gb_in hf
      refine g_lald F 0 1 (x5.toNatClampNeg) rfl rfl rfl hb_2 dX0_weighParts_69 ?_
      refine g_aload_n F dX0_weighParts_70 rfl ?_
      refine g_get (C := RX0) (T := TX0) (N := 9) F 0 0 7 rfl rfl rfl iX0_weighParts_X0 (by decide) (by decide +kernel) rfl dX0_weighParts_71 ?_
      refine g_iload F dX0_weighParts_74 rfl ?_
      obtain ⟨hb_3, hf⟩ := gb_in hf
      refine g_iald F 0 3 (x5.toNatClampNeg) rfl rfl rfl hb_3 dX0_weighParts_76 ?_
      obtain ⟨r_1, C_1, S_1, hg_1, hf⟩ := gb3_el hf
      refine g_callV (C := RX2) (T := TX2) (N := 12) (Lr := [sAdv E aV aC V, sBook E aB asettings asums aU aP aW B_time B_chest B_fund, sArrI E asettings 5 settings, sPieces E aP P, sWords E aW W]) (As := [.long (V.2.2.2.2.1 (x5.toNatClampNeg)), .int (V.2.2.2.2.2.2.1 (x5.toNatClampNeg))]) (rest := [.int (V.2.2.2.2.2.2.2 (x5.toNatClampNeg)), .int x5, .ref (aV 4)]) F 1 0 2 (ctX2_gainOf l E aC aS (V.2.2.2.2.1 (x5.toNatClampNeg)) (V.2.2.2.2.2.2.1 (x5.toNatClampNeg)) C S r_1 C_1 S_1 hg_1) gX0_weighParts_X2_gainOf rfl rfl rfl h0X2_gainOf ⟨Nat.le_of_ble_eq_true rfl, Nat.le_of_ble_eq_true rfl⟩ rfl rfl rfl [1, 2] [0, 3, 4, 5, 6] rfl rfl rfl rfl rfl rfl (Nat.le_of_ble_eq_true rfl) dX0_weighParts_77 ⟨(Nat.le_of_ble_eq_true rfl), (Nat.le_of_ble_eq_true rfl)⟩ ?_
      rintro v w ⟨rfl, rfl⟩
      refine g_norm (Lw' := [sAdv E aV aC V, sCut E aC aS C_1, sCutR E aS S_1, sBook E aB asettings asums aU aP aW B_time B_chest B_fund, sArrI E asettings 5 settings, sPieces E aP P, sWords E aW W]) (st' := [.int r_1, .int (V.2.2.2.2.2.2.2 (x5.toNatClampNeg)), .int x5, .ref (aV 4)]) (pc' := 80) [2, 0, 1, 3, 4, 5, 6] rfl rfl rfl rfl ?_
      refine g_iadd F dX0_weighParts_80 ?_
      obtain ⟨hb_4, hf⟩ := gb_in hf
      obtain ⟨V_1, hV_1, hf⟩ := Lt_el hf
      refine g_iast (Lw' := [sAdv E aV aC V_1, sCut E aC aS C_1, sCutR E aS S_1, sBook E aB asettings asums aU aP aW B_time B_chest B_fund, sArrI E asettings 5 settings, sPieces E aP P, sWords E aW W]) F 0 4 (x5.toNatClampNeg) rfl rfl rfl hb_4 dX0_weighParts_81 (by subst hV_1; rfl) ?_
      refine g_iinc (lv' := [some (.ref (aV 0)), some (.ref (aB 0)), none, none, some (.int x4), some (.int (x5 + 1))]) F (x5 + 1) dX0_weighParts_82 rfl rfl rfl rfl ?_
      refine g_goto F 42 dX0_weighParts_85 (by decide) ?_
      exact ih (x5 + 1) V_1 C_1 S_1 hf
set_option maxHeartbeats 4000000 in
set_option maxRecDepth 100000 in
theorem ktX0_weighParts_L9 {p : Program} {l : Launch} {e : Env} {s : State} {m : MethodId} {args : Array Value} {below : List Frame} {meth : Method} {c : Code} {E : gE} {A : Nat → Prop} (F : gFx p s m args meth c RX0 wsX0_weighParts cX0_weighParts 6 none vwCl E A) (aV aC aS aB asettings asums aU aP aW : Nat → Nat) (settings : (Nat → Int32)) (P : tPieces) (W : tWords) (B_time : Int32) (B_chest : Int32) (B_fund : Int32) (V' : tAdv) (C' : tCut) (S' : tCutR) {k : tAdv → tCut → tCutR → Option (tAdv × tCut × tCutR)} (hk : ∀ (V : tAdv) (C : tCut) (S : tCutR), k V C S = some (V', C', S') → Gj p l e rmX0_weighParts s m args below meth c 0 0 (MQ below (gQ vwCl E A (fun v w => v = none ∧ w = [sAdv E aV aC V', sCut E aC aS C', sCutR E aS S', sBook E aB asettings asums aU aP aW B_time B_chest B_fund, sArrI E asettings 5 settings, sPieces E aP P, sWords E aW W])) args s 0 0 A) vwCl E A [sAdv E aV aC V, sCut E aC aS C, sCutR E aS S, sBook E aB asettings asums aU aP aW B_time B_chest B_fund, sArrI E asettings 5 settings, sPieces E aP P, sWords E aW W] [some (.ref (aV 0)), none, none, none, none, none] [] 94) : ∀ (n : Nat) (x4 : Int32) (V : tAdv) (C : tCut) (S : tCutR), fX0_weighParts_L9 settings P W k n x4 V C S = some (V', C', S') → Gj p l e rmX0_weighParts s m args below meth c 0 0 (MQ below (gQ vwCl E A (fun v w => v = none ∧ w = [sAdv E aV aC V', sCut E aC aS C', sCutR E aS S', sBook E aB asettings asums aU aP aW B_time B_chest B_fund, sArrI E asettings 5 settings, sPieces E aP P, sWords E aW W])) args s 0 0 A) vwCl E A [sAdv E aV aC V, sCut E aC aS C, sCutR E aS S, sBook E aB asettings asums aU aP aW B_time B_chest B_fund, sArrI E asettings 5 settings, sPieces E aP P, sWords E aW W] [some (.ref (aV 0)), some (.ref (aB 0)), none, none, some (.int x4), none] [] 9
  | 0, _, _, _, _, hf => by cases hf
  | n + 1, x4, V, C, S, hf => by
    have ih := ktX0_weighParts_L9 F aV aC aS aB asettings asums aU aP aW settings P W B_time B_chest B_fund V' C' S' hk n
    rw [fX0_weighParts_L9] at hf
    refine g_iload F dX0_weighParts_9 rfl ?_
    refine g_aload_n F dX0_weighParts_11 rfl ?_
    refine g_get (C := RX1) (T := TX1) (N := 8) F 3 0 4 rfl rfl rfl iX0_weighParts_X1 (by decide) (by decide +kernel) rfl dX0_weighParts_12 ?_
    refine g_get (C := RX8) (T := TX8) (N := 5) F 6 0 0 rfl rfl rfl iX0_weighParts_X8 (by decide) (by decide +kernel) rfl dX0_weighParts_15 ?_
    refine g_icmp_ge F 94 dX0_weighParts_18 (by decide) (fun hc_1 => ?_) (fun hc_1 => ?_)
    · replace hf := gi_t hc_1 hf
      refine g_mask [true, false, true, true, false, true] rfl ?_
      exact hk V C S hf
    · replace hf := gi_f hc_1 hf
      refine g_aload_n F dX0_weighParts_21 rfl ?_
      refine g_get (C := RX0) (T := TX0) (N := 9) F 0 0 3 rfl rfl rfl iX0_weighParts_X0 (by decide) (by decide +kernel) rfl dX0_weighParts_22 ?_
      refine g_aload_n F dX0_weighParts_25 rfl ?_
      refine g_aload_n F dX0_weighParts_26 rfl ?_
      refine g_get (C := RX1) (T := TX1) (N := 8) F 3 0 4 rfl rfl rfl iX0_weighParts_X1 (by decide) (by decide +kernel) rfl dX0_weighParts_27 ?_
      refine g_get (C := RX8) (T := TX8) (N := 5) F 6 0 1 rfl rfl rfl iX0_weighParts_X8 (by decide) (by decide +kernel) rfl dX0_weighParts_30 ?_
      refine g_iload F dX0_weighParts_33 rfl ?_
      obtain ⟨hb_1, hf⟩ := gb_in hf
      refine g_lald F 6 1 (x4.toNatClampNeg) rfl rfl rfl hb_1 dX0_weighParts_35 ?_
      obtain ⟨C_1, S_1, hg_1, hf⟩ := gb2_el hf
      refine g_callV (C := RX2) (T := TX2) (N := 12) (Lr := [sAdv E aV aC V, sWords E aW W]) (As := [.ref (aB 0), .long (W.2.1 (x4.toNatClampNeg))]) (rest := []) F 1 0 2 (ctX2_cutKnown l E aC aS aB asettings asums aU aP aW (W.2.1 (x4.toNatClampNeg)) C S B_time B_chest B_fund settings P C_1 S_1 hg_1) gX0_weighParts_X2_cutKnown rfl rfl rfl h0X2_cutKnown ⟨Nat.le_of_ble_eq_true rfl, Nat.le_of_ble_eq_true rfl⟩ rfl rfl rfl [1, 2, 3, 4, 5] [0, 6] rfl rfl rfl rfl rfl rfl (Nat.le_of_ble_eq_true rfl) dX0_weighParts_36 ⟨(Nat.le_of_ble_eq_true rfl), (Nat.le_of_ble_eq_true rfl)⟩ ?_
      rintro v w ⟨rfl, rfl⟩
      refine g_norm (Lw' := [sAdv E aV aC V, sCut E aC aS C_1, sCutR E aS S_1, sBook E aB asettings asums aU aP aW B_time B_chest B_fund, sArrI E asettings 5 settings, sPieces E aP P, sWords E aW W]) (st' := []) (pc' := 39) [5, 0, 1, 2, 3, 4, 6] rfl rfl rfl rfl ?_
      refine g_iconst F 0 dX0_weighParts_39 rfl ?_
      refine g_istore (lv' := [some (.ref (aV 0)), some (.ref (aB 0)), none, none, some (.int x4), some (.int 0)]) F dX0_weighParts_40 (Nat.le_of_ble_eq_true rfl) rfl rfl ?_
      refine ktX0_weighParts_L42 F aV aC aS aB asettings asums aU aP aW x4 B_time B_chest B_fund settings P W V' C' S' (fun V_1 C_2 S_2 hf => ?_) FU 0 V C_1 S_1 hf
      refine g_iinc (lv' := [some (.ref (aV 0)), some (.ref (aB 0)), none, none, some (.int (x4 + 1)), none]) F (x4 + 1) dX0_weighParts_88 rfl rfl rfl rfl ?_
      refine g_goto F 9 dX0_weighParts_91 (by decide) ?_
      exact ih (x4 + 1) V_1 C_2 S_2 hf
set_option maxHeartbeats 4000000 in
set_option maxRecDepth 100000 in
theorem ctX0_weighParts (l : Launch) (E : gE) (aV aC aS aB asettings asums aU aP aW : Nat → Nat) (x2 : Int64) (V : tAdv) (C : tCut) (S : tCutR) (B_time : Int32) (B_chest : Int32) (B_fund : Int32) (settings : (Nat → Int32)) (P : tPieces) (W : tWords) (V' : tAdv) (C' : tCut) (S' : tCutR) (hf : fX0_weighParts x2 V C S settings P W = some (V', C', S')) : gMet l yX0_weighParts wsX0_weighParts rmX0_weighParts vwCl E [.ref (aV 0), .ref (aB 0), .long x2] [sAdv E aV aC V, sCut E aC aS C, sCutR E aS S, sBook E aB asettings asums aU aP aW B_time B_chest B_fund, sArrI E asettings 5 settings, sPieces E aP P, sWords E aW W] (fun v w => v = none ∧ w = [sAdv E aV aC V', sCut E aC aS C', sCutR E aS S', sBook E aB asettings asums aU aP aW B_time B_chest B_fund, sArrI E asettings 5 settings, sPieces E aP P, sWords E aW W]) 0 0 := by
  refine g_entry [some (.ref (aV 0)), some (.ref (aB 0)), some (.long x2), none, none, none] (by decide) rfl (Nat.le_of_ble_eq_true rfl) rfl ?_
  intro p e s m below meth c A F hnm
  unfold fX0_weighParts at hf
  refine g_aload_n F dX0_weighParts_0 rfl ?_
  refine g_aload_n F dX0_weighParts_1 rfl ?_
  refine g_lload_n F dX0_weighParts_2 rfl ?_
  obtain ⟨V_1, hg_1, hf⟩ := gb1_el hf
  refine g_callV (C := RX0) (T := TX0) (N := 9) (Lr := [sCut E aC aS C, sCutR E aS S, sArrI E asettings 5 settings, sWords E aW W]) (As := [.ref (aB 0), .long x2]) (rest := []) F 0 0 2 (ctX0_listParts l E aV aC aB asettings asums aU aP aW x2 V B_time B_chest B_fund P V_1 hg_1) gX0_weighParts_X0_listParts rfl rfl rfl h0X0_listParts ⟨Nat.le_of_ble_eq_true rfl, Nat.le_of_ble_eq_true rfl⟩ rfl rfl rfl [0, 3, 5] [1, 2, 4, 6] rfl rfl rfl rfl rfl rfl (Nat.le_of_ble_eq_true rfl) dX0_weighParts_3 ⟨(Nat.le_of_ble_eq_true rfl), (Nat.le_of_ble_eq_true rfl)⟩ ?_
  rintro v w ⟨rfl, rfl⟩
  refine g_norm (Lw' := [sAdv E aV aC V_1, sCut E aC aS C, sCutR E aS S, sBook E aB asettings asums aU aP aW B_time B_chest B_fund, sArrI E asettings 5 settings, sPieces E aP P, sWords E aW W]) (st' := []) (pc' := 6) [0, 3, 4, 1, 5, 2, 6] rfl rfl rfl rfl ?_
  refine g_iconst F 0 dX0_weighParts_6 rfl ?_
  refine g_istore (lv' := [some (.ref (aV 0)), some (.ref (aB 0)), some (.long x2), none, some (.int 0), none]) F dX0_weighParts_7 (Nat.le_of_ble_eq_true rfl) rfl rfl ?_
  refine g_mask [true, true, false, true, true, true] rfl ?_
  refine ktX0_weighParts_L9 F aV aC aS aB asettings asums aU aP aW settings P W B_time B_chest B_fund V' C' S' (fun V_2 C_1 S_1 hf => ?_) FU 0 V_1 C S hf
  refine g_aload_n F dX0_weighParts_94 rfl ?_
  obtain ⟨V_3, hg_2, hf⟩ := gb1_el hf
  refine g_callV (C := RX0) (T := TX0) (N := 9) (Lr := [sCut E aC aS C_1, sCutR E aS S_1, sBook E aB asettings asums aU aP aW B_time B_chest B_fund, sArrI E asettings 5 settings, sPieces E aP P, sWords E aW W]) (As := []) (rest := []) F 0 0 0 (ctX0_takeBest l E aV aC V_2 V_3 hg_2) gX0_weighParts_X0_takeBest rfl rfl rfl h0X0_takeBest ⟨Nat.le_of_ble_eq_true rfl, Nat.le_of_ble_eq_true rfl⟩ rfl rfl rfl [0] [1, 2, 3, 4, 5, 6] rfl rfl rfl rfl rfl rfl (Nat.le_of_ble_eq_true rfl) dX0_weighParts_95 ⟨(Nat.le_of_ble_eq_true rfl), (Nat.le_of_ble_eq_true rfl)⟩ ?_
  rintro v w ⟨rfl, rfl⟩
  refine g_norm (Lw' := [sAdv E aV aC V_3, sCut E aC aS C_1, sCutR E aS S_1, sBook E aB asettings asums aU aP aW B_time B_chest B_fund, sArrI E asettings 5 settings, sPieces E aP P, sWords E aW W]) (st' := []) (pc' := 98) [0, 1, 2, 3, 4, 5, 6] rfl rfl rfl rfl ?_
  cases hf
  exact g_vret F rfl ⟨rfl, rfl⟩ dX0_weighParts_98
