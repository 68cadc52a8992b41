/-! the class's book: pieces bought, words stored -/
abbrev aB : Type := aUs × aPs × aWs × (Nat → Nat) × (Nat → Int32) × Int32 × Int32 × Int32
def cB (A : aB) (time chest fund : Int32) (settings sums : Nat → Int32) (U : tUsers) (P : tPieces) (W : tWords) : Prop := cU A.1 U ∧ cP A.2.1 P ∧ cW A.2.2.1 W ∧ cS A.2.2.2.1 settings ∧ (∀ i, i < 6 → sums i = A.2.2.2.2.1 i) ∧ time = A.2.2.2.2.2.1 ∧ chest = A.2.2.2.2.2.2.1 ∧ fund = A.2.2.2.2.2.2.2
def pBuy (st : Nat → Nat) (u t : Int32) (p : aPs) (s : List Nat) : aPs := pAdd p s (st 0 + st 1 * s.length) u t
def pBuys (st : Nat → Nat) (u t : Int32) (p : aPs) (fr : List (List Nat)) : aPs := fr.foldl (pBuy st u t) p
def pUses (p : aPs) (idx : List Nat) : aPs := idx.foldl pUse p
theorem pBuys_snoc (st : Nat → Nat) (u t : Int32) (p : aPs) (fr : List (List Nat)) (s : List Nat) : pBuys st u t p (fr ++ [s]) = pBuy st u t (pBuys st u t p fr) s := by simp [pBuys]
theorem pUses_snoc (p : aPs) (idx : List Nat) (q : Nat) : pUses p (idx ++ [q]) = pUse (pUses p idx) q := by simp [pUses]
theorem pBuys_n (st : Nat → Nat) (u t : Int32) : ∀ (fr : List (List Nat)) (p : aPs), (pBuys st u t p fr).1 = p.1 + fr.length
  | [], p => rfl
  | s :: fr, p => by
    show (pBuys st u t (pBuy st u t p s) fr).1 = _
    rw [pBuys_n st u t fr]
    simp only [pBuy, pAdd, List.length_cons]
    omega
theorem pUses_n : ∀ (idx : List Nat) (p : aPs), (pUses p idx).1 = p.1 ∧ (pUses p idx).2.1 = p.2.1
  | [], p => ⟨rfl, rfl⟩
  | q :: idx, p => pUses_n idx (pUse p q)
theorem pBuy_lo (st : Nat → Nat) (u t : Int32) (p : aPs) (s : List Nat) (i : Nat) (h : i < p.1) : (pBuy st u t p s).2.1 i = p.2.1 i := up_ne _ _ _ _ (by omega)
theorem pBuys_lo (st : Nat → Nat) (u t : Int32) : ∀ (fr : List (List Nat)) (p : aPs) (i : Nat), i < p.1 → (pBuys st u t p fr).2.1 i = p.2.1 i
  | [], p, i, _ => rfl
  | s :: fr, p, i, h => by
    show (pBuys st u t (pBuy st u t p s) fr).2.1 i = _
    rw [pBuys_lo st u t fr _ i (by simp only [pBuy, pAdd]; omega), pBuy_lo _ _ _ _ _ _ h]
theorem fnd_stable {p : aPs} {st : Nat → Nat} {u t : Int32} (fr : List (List Nat)) {x : List Nat} (h : fnd p.1 p.2.1 x < p.1) : fnd (pBuys st u t p fr).1 (pBuys st u t p fr).2.1 x = fnd p.1 p.2.1 x := by
  refine fnd_eq (by rw [pBuys_n]; omega) ?_ (fun j hj => ?_)
  · rw [pBuys_lo _ _ _ _ _ _ h]; exact fnd_hit h
  · rw [pBuys_lo _ _ _ _ _ _ (by omega)]; exact fnd_miss hj
theorem fnd_stable1 {p : aPs} {st : Nat → Nat} {u t : Int32} (s : List Nat) {x : List Nat} (h : fnd p.1 p.2.1 x < p.1) : fnd (pBuy st u t p s).1 (pBuy st u t p s).2.1 x = fnd p.1 p.2.1 x := fnd_stable [s] h
theorem fnd_new {p : aPs} {st : Nat → Nat} {u t : Int32} (s : List Nat) (h : ¬ fnd p.1 p.2.1 s < p.1) : fnd (pBuy st u t p s).1 (pBuy st u t p s).2.1 s = p.1 := by
  refine fnd_eq (by simp only [pBuy, pAdd]; omega) (by simp only [pBuy, pAdd, up_eq]) (fun j hj => ?_)
  rw [pBuy_lo _ _ _ _ _ _ hj]
  exact fnd_miss (n := p.1) (by omega)
theorem kn_buy {p : aPs} {st : Nat → Nat} {u t : Int32} (s x : List Nat) : fnd (pBuy st u t p s).1 (pBuy st u t p s).2.1 x < (pBuy st u t p s).1 ↔ fnd p.1 p.2.1 x < p.1 ∨ x = s := by
  constructor
  · intro h
    have h1 := fnd_hit h
    by_cases c : fnd (pBuy st u t p s).1 (pBuy st u t p s).2.1 x < p.1
    · rw [pBuy_lo _ _ _ _ _ _ c] at h1
      exact Or.inl (fnd_lt c h1)
    · have e : fnd (pBuy st u t p s).1 (pBuy st u t p s).2.1 x = p.1 := by
        have : (pBuy st u t p s).1 = p.1 + 1 := rfl
        omega
      rw [e] at h1
      right
      rw [← h1]
      simp only [pBuy, pAdd, up_eq]
  · rintro (h | h)
    · rw [fnd_stable1 s h]
      have : (pBuy st u t p s).1 = p.1 + 1 := rfl
      omega
    · subst h
      exact fnd_lt (i := p.1) (by simp only [pBuy, pAdd]; omega) (by simp only [pBuy, pAdd, up_eq])
theorem kn_buys {st : Nat → Nat} {u t : Int32} : ∀ (fr : List (List Nat)) (p : aPs) (x : List Nat), fnd (pBuys st u t p fr).1 (pBuys st u t p fr).2.1 x < (pBuys st u t p fr).1 ↔ fnd p.1 p.2.1 x < p.1 ∨ x ∈ fr
  | [], p, x => by simp [pBuys]
  | s :: fr, p, x => by
    have e : pBuys st u t p (s :: fr) = pBuys st u t (pBuy st u t p s) fr := rfl
    rw [e, kn_buys fr, kn_buy, List.mem_cons, or_assoc]
theorem frs_app (np : Nat) (pl : Nat → List Nat) : ∀ (acc a b : List (List Nat)), frs np pl acc (a ++ b) = frs np pl (frs np pl acc a) b
  | acc, [], b => rfl
  | acc, q :: a, b => frs_app np pl _ a b
theorem frs_pre (np : Nat) (pl : Nat → List Nat) : ∀ (acc b : List (List Nat)), ∃ t, frs np pl acc b = acc ++ t
  | acc, [] => ⟨[], by simp [frs]⟩
  | acc, q :: b => by
    rw [frs]
    obtain ⟨t, ht⟩ := frs_pre np pl (if fnd np pl q < np ∨ q ∈ acc then acc else acc ++ [q]) b
    rw [ht]
    split
    · exact ⟨t, rfl⟩
    · exact ⟨[q] ++ t, by rw [List.append_assoc]⟩
theorem frs_take (np : Nat) (pl : Nat → List Nat) (st : Nat → Nat) (ps : List (List Nat)) (j : Nat) : (frs np pl [] (ps.take j)).length ≤ (frs np pl [] ps).length ∧ prS st (frs np pl [] (ps.take j)) ≤ prS st (frs np pl [] ps) := by
  have e : frs np pl [] ps = frs np pl (frs np pl [] (ps.take j)) (ps.drop j) := by
    rw [← frs_app, List.take_append_drop]
  obtain ⟨t, ht⟩ := frs_pre np pl (frs np pl [] (ps.take j)) (ps.drop j)
  rw [e, ht, List.length_append, prS_app]
  omega
theorem pUse_add (p : aPs) (q : Nat) (hq : q < p.1) (row : List Nat) (paid : Nat) (own t : Int32) : pUse (pAdd p row paid own t) q = pAdd (pUse p q) row paid own t := by
  have h1 : q ≠ p.1 := by omega
  simp only [pUse, pAdd, up_ne _ _ _ _ h1]
  congr 5
  funext j
  simp only [up]
  by_cases c : j = p.1
  · rw [if_pos c, if_neg (by omega), if_pos c]
  · rw [if_neg c]
    by_cases c2 : j = q
    · rw [if_pos c2, if_neg c]
    · rw [if_neg c2, if_neg c]
theorem pUses_buy (st : Nat → Nat) (u t : Int32) (s : List Nat) : ∀ (idx : List Nat) (p : aPs), (∀ q ∈ idx, q < p.1) → pUses (pBuy st u t p s) idx = pBuy st u t (pUses p idx) s
  | [], p, _ => rfl
  | q :: idx, p, h => by
    have e : pUses (pBuy st u t p s) (q :: idx) = pUses (pUse (pBuy st u t p s) q) idx := rfl
    rw [e, pBuy, pUse_add p q (h q (by simp))]
    exact pUses_buy st u t s idx (pUse p q) (fun x hx => h x (by simp [hx]))
theorem ok_gb5 {α0 α1 α2 α3 α4 β : Type} {x : Option (α0 × α1 × α2 × α3 × α4)} {k : α0 → α1 → α2 → α3 → α4 → Option β} {Q : β → Prop} (h : Ok x (fun a => Ok (k a.1 a.2.1 a.2.2.1 a.2.2.2.1 a.2.2.2.2) Q)) : Ok (gb5 x k) Q := by
  obtain ⟨a, e, q⟩ := h
  rw [e]
  exact q
theorem ok_gb3 {α0 α1 α2 β : Type} {x : Option (α0 × α1 × α2)} {k : α0 → α1 → α2 → Option β} {Q : β → Prop} (h : Ok x (fun a => Ok (k a.1 a.2.1 a.2.2) Q)) : Ok (gb3 x k) Q := by
  obtain ⟨a, e, q⟩ := h
  rw [e]
  exact q
theorem cU_pay {us : aUs} {U : tUsers} (h : cU us U) {u : Nat} (v : Nat) : cU (us.1, us.2.1, up us.2.2 u v) (U.1, U.2.1, upd U.2.2 u (Int32.ofNat v)) := by
  refine ⟨h.1, fun i hi => ⟨(h.2 i hi).1, ?_⟩⟩
  by_cases c : i = u
  · subst c
    simp only [upd_eq, up_eq]
  · simp only [upd_ne _ _ _ _ c, up_ne _ _ _ _ c]
    exact (h.2 i hi).2
theorem c_buyPiece {us : aUs} {p : aPs} {U : tUsers} {P : tPieces} {st : Nat → Nat} {settings : Nat → Int32} (hU : cU us U) (hu4 : us.1 ≤ 4) (hP : cP p P) (hn : p.1 < 24) (hs : cS st settings) {u : Nat} (hu : u < us.1) {s : List Nat} (hw : wf s) (hl : s.length ≤ 12) (hc : st 0 + st 1 * s.length ≤ us.2.2 u) (time chest : Int32) (sums : Nat → Int32) : Ok (fX1_buyPiece (Int32.ofNat u) (L64 s) time chest settings sums U P) (fun r => r.1 = Int32.ofNat p.1 ∧ r.2.1 = chest + Int32.ofNat (st 0 + st 1 * s.length) ∧ (∀ i, r.2.2.1 i = if i = 0 then sums 0 + Int32.ofNat (st 0 + st 1 * s.length) else if i = 4 then sums 4 + Int32.ofNat 1 else sums i) ∧ cU (us.1, us.2.1, up us.2.2 u (us.2.2 u - (st 0 + st 1 * s.length))) r.2.2.2.1 ∧ cP (pBuy st (Int32.ofNat u) time p s) r.2.2.2.2) := by
  rw [fX1_buyPiece, c_lengthOf hw hl, gb1_some, c_newPrice hs, gb1_some]
  have hck : ¬ (Int32.ofNat u < 0 ∨ 4 ≤ (Int32.ofNat u).toNatClampNeg) := by
    rw [i_0, J_lt _ _ (by omega) (by omega), J_nat _ (by omega)]
    omega
  rw [c_give hU hu4 hu, gb1_some, Lt_eq, Lt_eq, J_subn _ _ hc]
  apply ok_gb2
  refine ok_mono (c_addP hP hn s (st 0 + st 1 * s.length) (Int32.ofNat u) time) ?_
  rintro ⟨r1, P1⟩ ⟨e1, e2⟩
  refine ok_some ⟨e1, rfl, fun i => ?_, cU_pay hU _, e2⟩
  simp only []
  by_cases c0 : i = 0
  · subst c0
    rw [upd_ne _ _ _ _ (by decide), upd_eq, if_pos rfl]
  · rw [if_neg c0]
    by_cases c4 : i = 4
    · subst c4
      rw [upd_eq, upd_ne _ _ _ _ (by decide), if_pos rfl, i_1]
    · rw [if_neg c4, upd_ne _ _ _ _ c4, upd_ne _ _ _ _ c0]
def sBuy (f : Nat → Int32) (a b : Nat) : Nat → Int32 := fun i => if i = 0 then f 0 + Int32.ofNat a else if i = 4 then f 4 + Int32.ofNat b else f i
theorem I_assoc (x : Int32) (a b : Nat) : x + Int32.ofNat a + Int32.ofNat b = x + Int32.ofNat (a + b) := by rw [Int32.add_assoc, J_add]
def stB (st : Nat → Nat) (u t : Int32) (p : aPs) (ps : List (List Nat)) : aPs := pBuys st u t p (frs p.1 p.2.1 [] ps)
def stI (st : Nat → Nat) (u t : Int32) (p : aPs) (ps : List (List Nat)) : List Nat := ps.map (fnd (stB st u t p ps).1 (stB st u t p ps).2.1)
theorem stI_lt (st : Nat → Nat) (u t : Int32) (p : aPs) (ps : List (List Nat)) : ∀ q ∈ stI st u t p ps, q < (stB st u t p ps).1 := by
  intro q hq
  obtain ⟨x, hx, e⟩ := List.mem_map.mp hq
  rw [← e]
  refine (kn_buys _ _ _).mpr ?_
  by_cases c : fnd p.1 p.2.1 x < p.1
  · exact Or.inl c
  · exact Or.inr (frs_mem _ _ _ _ _ hx c)
theorem st_known (st : Nat → Nat) (u t : Int32) (p : aPs) (ps : List (List Nat)) (s : List Nat) (h : fnd (stB st u t p ps).1 (stB st u t p ps).2.1 s < (stB st u t p ps).1) : stB st u t p (ps ++ [s]) = stB st u t p ps ∧ stI st u t p (ps ++ [s]) = stI st u t p ps ++ [fnd (stB st u t p ps).1 (stB st u t p ps).2.1 s] := by
  have e : stB st u t p (ps ++ [s]) = stB st u t p ps := by
    unfold stB
    rw [frs_snoc, if_pos ((kn_buys _ _ _).mp h)]
  refine ⟨e, ?_⟩
  unfold stI
  rw [e, List.map_append]
  rfl
theorem st_new (st : Nat → Nat) (u t : Int32) (p : aPs) (ps : List (List Nat)) (s : List Nat) (h : ¬ fnd (stB st u t p ps).1 (stB st u t p ps).2.1 s < (stB st u t p ps).1) : frs p.1 p.2.1 [] (ps ++ [s]) = frs p.1 p.2.1 [] ps ++ [s] ∧ stB st u t p (ps ++ [s]) = pBuy st u t (stB st u t p ps) s ∧ stI st u t p (ps ++ [s]) = stI st u t p ps ++ [(stB st u t p ps).1] := by
  have e0 : frs p.1 p.2.1 [] (ps ++ [s]) = frs p.1 p.2.1 [] ps ++ [s] := by
    rw [frs_snoc, if_neg]
    intro hh
    exact h ((kn_buys _ _ _).mpr hh)
  have e : stB st u t p (ps ++ [s]) = pBuy st u t (stB st u t p ps) s := by
    have e1 : stB st u t p (ps ++ [s]) = pBuys st u t p (frs p.1 p.2.1 [] (ps ++ [s])) := rfl
    rw [e1, e0, pBuys_snoc]
    rfl
  refine ⟨e0, e, ?_⟩
  unfold stI
  rw [e, List.map_append]
  congr 1
  · apply List.map_congr_left
    intro x hx
    refine fnd_stable1 s ?_
    refine (kn_buys _ _ _).mpr ?_
    by_cases c : fnd p.1 p.2.1 x < p.1
    · exact Or.inl c
    · exact Or.inr (frs_mem _ _ _ _ _ hx c)
  · rw [List.map_singleton, fnd_new s h]
def okP (p : aPs) : Prop := okR p.1 p.2.1 12
theorem okP_add {p : aPs} (h : okP p) {s : List Nat} (hw : wf s) (hl : s.length ≤ 12) (paid : Nat) (own t : Int32) : okP (pAdd p s paid own t) := by
  intro i hi
  simp only [pAdd] at hi ⊢
  by_cases c : i = p.1
  · rw [c, up_eq]; exact ⟨hw, hl⟩
  · rw [up_ne _ _ _ _ c]; exact h i (by omega)
theorem okP_buys {st : Nat → Nat} {u t : Int32} : ∀ (fr : List (List Nat)) (p : aPs), okP p → (∀ s ∈ fr, wf s ∧ s.length ≤ 12) → okP (pBuys st u t p fr)
  | [], p, h, _ => h
  | s :: fr, p, h, hf => okP_buys fr _ (okP_add h (hf s (by simp)).1 (hf s (by simp)).2 _ _ _) (fun x hx => hf x (by simp [hx]))
theorem okP_uses {p : aPs} (h : okP p) (idx : List Nat) : okP (pUses p idx) := by
  unfold okP
  rw [(pUses_n idx p).1, (pUses_n idx p).2]
  exact h
theorem okP_stB {st : Nat → Nat} {u t : Int32} {p : aPs} {ps : List (List Nat)} (h : okP p) (hf : ∀ s ∈ ps, wf s ∧ s.length ≤ 12) : okP (stB st u t p ps) := okP_buys _ _ h (fun s hs => by
  rcases frs_sub _ _ _ _ _ hs with h1 | h1
  · cases h1
  · exact hf s h1.1)
theorem sBuy_step {f sums sums1 : Nat → Int32} {a b c : Nat} (h : ∀ i, i < 6 → sums i = sBuy f a b i) (h1 : ∀ i, sums1 i = if i = 0 then sums 0 + Int32.ofNat c else if i = 4 then sums 4 + Int32.ofNat 1 else sums i) : ∀ i, i < 6 → sums1 i = sBuy f (a + c) (b + 1) i := by
  intro i hi
  rw [h1]
  unfold sBuy
  by_cases c0 : i = 0
  · rw [if_pos c0, if_pos c0, h 0 (by omega)]
    unfold sBuy
    rw [if_pos rfl, I_assoc]
  · rw [if_neg c0, if_neg c0]
    by_cases c4 : i = 4
    · rw [if_pos c4, if_pos c4, h 4 (by omega)]
      unfold sBuy
      rw [if_neg (by decide), if_pos rfl, I_assoc]
    · rw [if_neg c4, if_neg c4, h i hi]
      unfold sBuy
      rw [if_neg c0, if_neg c4]
section ST
variable {us : aUs} {p : aPs} {w : aWs} {st : Nat → Nat} {settings f : Nat → Int32} {time chest : Int32} {u : Nat} {C : tCut} {ps : List (List Nat)} {row : List Nat}
def jS (us : aUs) (p : aPs) (w : aWs) (st : Nat → Nat) (f : Nat → Int32) (time chest : Int32) (u : Nat) (row : List Nat) (ps : List (List Nat)) (chest' : Int32) (sums' : Nat → Int32) (U' : tUsers) (P' : tPieces) (W' : tWords) : Prop := chest' = chest + Int32.ofNat (prS st (frs p.1 p.2.1 [] ps)) ∧ (∀ i, i < 6 → sums' i = sBuy f (prS st (frs p.1 p.2.1 [] ps)) (frs p.1 p.2.1 [] ps).length i) ∧ cU (us.1, us.2.1, up us.2.2 u (us.2.2 u - prS st (frs p.1 p.2.1 [] ps))) U' ∧ cP (pUses (stB st (Int32.ofNat u) time p ps) (stI st (Int32.ofNat u) time p ps)) P' ∧ cW (w.1 + 1, up w.2.1 w.1 row, up w.2.2.1 w.1 u, up w.2.2.2 w.1 (stI st (Int32.ofNat u) time p ps)) W'
theorem c_store_L (hu : u < us.1) (hu4 : us.1 ≤ 4) (hr : okP p) (hw16 : w.1 < 16) (hwl : ∀ j, j < w.1 → (w.2.2.2 j).length ≤ 12) (hs : cS st settings) (hC : aR ps C.1 C.2.1) (hps : ps.length ≤ 12) (hwf : ∀ s ∈ ps, wf s ∧ s.length ≤ 12) (hroom : p.1 + (frs p.1 p.2.1 [] ps).length ≤ 24) (hcoin : prS st (frs p.1 p.2.1 [] ps) ≤ us.2.2 u) {k : Int32 → (Nat → Int32) → tUsers → tPieces → tWords → Option (Int32 × Int32 × Int32 × (Nat → Int32) × tUsers × tPieces × tWords)} {Q : Int32 × Int32 × Int32 × (Nat → Int32) × tUsers × tPieces × tWords → Prop} (hk : ∀ c s U P W, jS us p w st f time chest u row ps c s U P W → Ok (k c s U P W) Q) : ∀ (d j n : Nat) (c : Int32) (s : Nat → Int32) (U : tUsers) (P : tPieces) (W : tWords), j + d = ps.length → d < n → jS us p w st f time chest u row (ps.take j) c s U P W → Ok (fX1_storeCutting_L14 (Int32.ofNat u) (Int32.ofNat w.1) time settings C k n (Int32.ofNat j) c s U P W) Q
  | d, j, 0, c, s, U, P, W, _, h, _ => by omega
  | 0, j, n + 1, c, s, U, P, W, h1, _, h => by
    rw [List.take_of_length_le (by omega)] at h
    rw [fX1_storeCutting_L14, if_pos (by rw [hC.1, J_le _ _ (by omega) (by omega)]; omega)]
    exact hk c s U P W h
  | d + 1, j, n + 1, c, s, U, P, W, h1, h2, h => by
    have hj : j < ps.length := by omega
    obtain ⟨w1, w2⟩ := hwf ps[j] (List.getElem_mem _)
    obtain ⟨i1, i2, i3, i4, i5⟩ := h
    have hwt : ∀ s ∈ ps.take j, wf s ∧ s.length ≤ 12 := fun s hs => hwf s (List.mem_of_mem_take hs)
    have et : ps.take (j + 1) = ps.take j ++ [ps[j]] := by rw [List.take_succ_eq_append_getElem hj]
    have hrB := okP_stB (st := st) (u := Int32.ofNat u) (t := time) hr hwt
    have hn1 : (stB st (Int32.ofNat u) time p (ps.take j)).1 = p.1 + (frs p.1 p.2.1 [] (ps.take j)).length := pBuys_n _ _ _ _ _
    have hn2 := frs_take p.1 p.2.1 st ps j
    have hnU := pUses_n (stI st (Int32.ofNat u) time p (ps.take j)) (stB st (Int32.ofNat u) time p (ps.take j))
    have e2 := c_numP i4 (by rw [hnU.1]; omega) (okP_uses hrB _) w1 w2
    rw [hnU.1, hnU.2] at e2
    have hpl : (stI st (Int32.ofNat u) time p (ps.take j)).length = j := by
      rw [stI, List.length_map, List.length_take]; omega
    rw [fX1_storeCutting_L14, if_neg (by rw [hC.1, J_le _ _ (by omega) (by omega)]; omega), if_neg (by rw [i_0, J_lt _ _ (by omega) (by omega), J_nat _ (by omega)]; omega), J_nat _ (by omega), hC.2 j hj, e2, gb1_some, Lt_eq, M1_def, i_1, J_add]
    simp only [nr_eq (stB st (Int32.ofNat u) time p (ps.take j)).1 _ ps[j] (show (stB st (Int32.ofNat u) time p (ps.take j)).1 < 1000000 by omega)]
    have hwl2 : ∀ q, q < w.1 + 1 → ((up w.2.2.2 w.1 (stI st (Int32.ofNat u) time p (ps.take j))) q).length ≤ 12 := by
      intro q hq
      by_cases cq : q = w.1
      · rw [cq, up_eq, hpl]; omega
      · rw [up_ne _ _ _ _ cq]; exact hwl q (by omega)
    have wup : ∀ q, wPart (w.1 + 1, up w.2.1 w.1 row, up w.2.2.1 w.1 u, up w.2.2.2 w.1 (stI st (Int32.ofNat u) time p (ps.take j))) w.1 q = (w.1 + 1, up w.2.1 w.1 row, up w.2.2.1 w.1 u, up w.2.2.2 w.1 (stI st (Int32.ofNat u) time p (ps.take j) ++ [q])) := by
      intro q
      simp only [wPart, up_eq]
      congr 3
      funext x
      simp only [up]
      split <;> rfl
    by_cases ck : fnd (stB st (Int32.ofNat u) time p (ps.take j)).1 (stB st (Int32.ofNat u) time p (ps.take j)).2.1 ps[j] < (stB st (Int32.ofNat u) time p (ps.take j)).1
    · obtain ⟨k1, k2⟩ := st_known st (Int32.ofNat u) time p (ps.take j) ps[j] ck
      have kf : frs p.1 p.2.1 [] (ps.take (j + 1)) = frs p.1 p.2.1 [] (ps.take j) := by
        rw [et, frs_snoc, if_pos ((kn_buys _ _ _).mp ck)]
      rw [if_neg (by simpa using ck), nr, if_pos ck]
      apply ok_gb1
      refine ok_mono (c_addPart i5 (by simp only; omega) (by simp only; omega) hwl2 (by simp only [up_eq]; rw [hpl]; omega) _) ?_
      intro W1 hW1
      rw [wup] at hW1
      apply ok_gb1
      refine ok_mono (c_beginUse i4 (by rw [hnU.1]; omega) (q := fnd (stB st (Int32.ofNat u) time p (ps.take j)).1 (stB st (Int32.ofNat u) time p (ps.take j)).2.1 ps[j]) (by rw [hnU.1]; exact ck)) ?_
      intro P1 hP1
      refine c_store_L hu hu4 hr hw16 hwl hs hC hps hwf hroom hcoin hk d (j + 1) n _ _ _ _ _ (by omega) (by omega) ⟨?_, ?_, ?_, ?_, ?_⟩
      · rw [kf]; exact i1
      · rw [kf]; exact i2
      · rw [kf]; exact i3
      · rw [et, k1, k2, pUses_snoc]; exact hP1
      · rw [et, k2]; exact hW1
    · obtain ⟨k0, k1, k2⟩ := st_new st (Int32.ofNat u) time p (ps.take j) ps[j] ck
      have hn3 := frs_take p.1 p.2.1 st ps (j + 1)
      rw [et, k0, List.length_append, prS_app, List.length_singleton, prS, prS, Nat.add_zero] at hn3
      rw [if_pos ck, if_neg (by rw [i_0, J_lt _ _ (by omega) (by omega)]; omega)]
      apply ok_gb5
      refine ok_mono (c_buyPiece (s := ps[j]) i3 hu4 i4 (by rw [hnU.1]; omega) hs hu w1 w2 (by simp only [up_eq]; omega) time c s) ?_
      rintro ⟨r1, c1, s1, U1, P1⟩ ⟨b1, b2, b3, b4, b5⟩
      simp only at b1 b2 b3 b4 b5 ⊢
      rw [hnU.1] at b1
      subst b1
      apply ok_gb1
      refine ok_mono (c_addPart i5 (by simp only; omega) (by simp only; omega) hwl2 (by simp only [up_eq]; rw [hpl]; omega) _) ?_
      intro W1 hW1
      rw [wup] at hW1
      rw [← pUses_buy _ _ _ _ _ _ (stI_lt st (Int32.ofNat u) time p (ps.take j))] at b5
      have hnV := pUses_n (stI st (Int32.ofNat u) time p (ps.take j)) (pBuy st (Int32.ofNat u) time (stB st (Int32.ofNat u) time p (ps.take j)) ps[j])
      have hnW : (pBuy st (Int32.ofNat u) time (stB st (Int32.ofNat u) time p (ps.take j)) ps[j]).1 = (stB st (Int32.ofNat u) time p (ps.take j)).1 + 1 := rfl
      apply ok_gb1
      refine ok_mono (c_beginUse b5 (by rw [hnV.1, hnW]; omega) (q := (stB st (Int32.ofNat u) time p (ps.take j)).1) (by rw [hnV.1, hnW]; omega)) ?_
      intro P2 hP2
      refine c_store_L hu hu4 hr hw16 hwl hs hC hps hwf hroom hcoin hk d (j + 1) n _ _ _ _ _ (by omega) (by omega) ⟨?_, ?_, ?_, ?_, ?_⟩
      · rw [et, k0, prS_app, prS, prS, Nat.add_zero, b2, i1, I_assoc]
      · rw [et, k0, prS_app, prS, prS, Nat.add_zero, List.length_append, List.length_singleton]
        exact sBuy_step i2 b3
      · rw [et, k0, prS_app, prS, prS, Nat.add_zero]
        simp only [up_eq] at b4
        have eu : up (up us.2.2 u (us.2.2 u - prS st (frs p.1 p.2.1 [] (ps.take j)))) u (us.2.2 u - prS st (frs p.1 p.2.1 [] (ps.take j)) - (st 0 + st 1 * ps[j].length)) = up us.2.2 u (us.2.2 u - (prS st (frs p.1 p.2.1 [] (ps.take j)) + (st 0 + st 1 * ps[j].length))) := by
          funext x
          simp only [up]
          split
          · rw [Nat.sub_sub]
          · rfl
        rw [eu] at b4
        exact b4
      · rw [et, k1, k2, pUses_snoc]; exact hP2
      · rw [et, k2]; exact hW1
end ST
