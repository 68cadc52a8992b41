/-- from the law's entry, out of the class ids and what lies outside, for any relation that a play keeps -/
theorem p35_of {Sim : LC → Prop} (hall : ∀ S p1, Sim S → ∃ S9, pL_plays S p1 S9 ∧ Sim S9) (h00 : ∀ kb, Sim (S0 kb)) {p : Program} {e : Env} {s : State} {m : MethodId} {below : List Frame} {meth : Method} {c : Code} (l : Launch) {b L : Nat} {xs : Nat → Int32} (hL : L ≤ 260) (C0 : lw_At p s m meth c b L xs) (E : gE) (hK : va_K E.1 vwCl (gT E) s) (hZ : gZ E (fun q => s.heap.size ≤ q) s s.heap) : W p l e room_1 s m #[Value.ref b] below meth c s.heap [] 0 0 (lw_Z below #[Value.ref b] s) (entryFrame m ([Value.ref b] : List Value).toArray 4) := by
  obtain ⟨hx, hb, hr, hml, hown, hts, hX, hbl, hlocks, hgv⟩ := C0
  have F : gFx p s m ([Value.ref b] : List Value).toArray meth c RL wsL_law cL_law 4 (some .boolean) vwCl E (fun q => s.heap.size ≤ q) := ⟨hx, hb, hml, hr, hown, fun w h => lwP_ok hts w (wsL_law_in w h), hK, fun q h => h, hlocks, hZ⟩
  rw [lg_entry_eq]
  refine law_head hall h00 F hX hbl (Nat.not_le.mpr hbl) hL ?_ s.heap [] _ (fun k q h => by simp at h) (gD_iff.mpr ⟨List.Pairwise.nil, fun _ h => absurd h List.not_mem_nil⟩) va_S.rf (gL_entry [Value.ref b] (Nat.le_of_ble_eq_true rfl))
  intro a S lv cells slots hc hs H locs ls hP hD hS hl
  exact va_forget (fun q hq => hS.2.2 q hq) (W.widen hc hs (lw_ret hx hb hr hlocks dL_law_48))
