theorem iw0 : Cond.instantiable RX0 6 ∈ lw_good := (tw 304 (by decide +kernel) (by decide +kernel))
theorem iw1 : Cond.instantiable RX1 4 ∈ lw_good := (tw 241 (by decide +kernel) (by decide +kernel))
theorem iw2 : Cond.instantiable RX2 4 ∈ lw_good := (tw 127 (by decide +kernel) (by decide +kernel))
theorem iw3 : Cond.instantiable RX3 7 ∈ lw_good := (tw 99 (by decide +kernel) (by decide +kernel))
theorem iw4 : Cond.instantiable RX4 3 ∈ lw_good := (tw 185 (by decide +kernel) (by decide +kernel))
theorem iw5 : Cond.instantiable RX5 5 ∈ lw_good := (tw 205 (by decide +kernel) (by decide +kernel))
theorem iw6 : Cond.instantiable RX6 3 ∈ lw_good := (tw 105 (by decide +kernel) (by decide +kernel))
theorem iw7 : Cond.instantiable RX7 8 ∈ lw_good := (tw 263 (by decide +kernel) (by decide +kernel))
theorem iw8 : Cond.instantiable RX8 2 ∈ lw_good := (tw 82 (by decide +kernel) (by decide +kernel))
theorem iw9 : Cond.instantiable RX9 11 ∈ lw_good := (tw 74 (by decide +kernel) (by decide +kernel))
theorem iw10 : Cond.instantiable RX10 31 ∈ lw_good := (tw 688 (by decide +kernel) (by decide +kernel))
theorem kd_start {s : State} {args : Array Value} (hts : ∀ w ∈ lw_tbl, w.before args s = true) : ∃ D : va_G, KD s D := by
  have hg : ∀ w ∈ lw_good, w.before args s = true := fun w h => hts w (List.mem_filter.mp h).1
  have key : ∀ (c : Nat) (q : vw_C), vwCl[c]? = some q → ∃ (cC : ClassId) (iS : Nat → Nat), u_Kn s q.1 q.2.1 q.2.2 cC iS := by
    intro c q hq
    match c, hq with
    | 0, hq => cases hq; exact u_known hg inG0 (hg _ iw0)
    | 1, hq => cases hq; exact u_known hg inG1 (hg _ iw1)
    | 2, hq => cases hq; exact u_known hg inG2 (hg _ iw2)
    | 3, hq => cases hq; exact u_known hg inG3 (hg _ iw3)
    | 4, hq => cases hq; exact u_known hg inG4 (hg _ iw4)
    | 5, hq => cases hq; exact u_known hg inG5 (hg _ iw5)
    | 6, hq => cases hq; exact u_known hg inG6 (hg _ iw6)
    | 7, hq => cases hq; exact u_known hg inG7 (hg _ iw7)
    | 8, hq => cases hq; exact u_known hg inG8 (hg _ iw8)
    | 9, hq => cases hq; exact u_known hg inG9 (hg _ iw9)
    | 10, hq => cases hq; exact u_known hg inG10 (hg _ iw10)
    | c + 11, hq => simp [vwCl] at hq
  have key2 : ∀ c : Nat, ∃ p : ClassId × (Nat → Nat), ∀ q : vw_C, vwCl[c]? = some q → u_Kn s q.1 q.2.1 q.2.2 p.1 p.2 := by
    intro c
    cases hc : vwCl[c]? with
    | none => exact ⟨(0, fun _ => 0), fun q h => by cases h⟩
    | some q =>
      obtain ⟨cC, iS, h⟩ := key c q hc
      exact ⟨(cC, iS), fun q' h' => by cases h'; exact h⟩
  refine ⟨(fun c => (Classical.choose (key2 c)).1, fun c => (Classical.choose (key2 c)).2), fun c q hq => Classical.choose_spec (key2 c) q hq, fun w hw => ?_⟩
  obtain ⟨h1, h2⟩ := List.mem_filter.mp hw
  have h3 := hts w h1
  cases w <;> first | exact va_Nw.of rfl h3 | (simp [lw_isNw] at h2; done) | exact h3
set_option maxRecDepth 100000 in
set_option maxHeartbeats 4000000 in
/-- from the entry, for every script of at most 3072 ints, the law comes to its end with true -/
theorem whole_start {p : Program} {e : Env} {s : State} {m : MethodId} {below : List Frame} {meth : Method} {c : Code} (l : Launch) (hflags : l.flags = flags0) {b L : Nat} {xs : Nat → Int32} (hL : L ≤ 3072) (C0 : lw_At p s m meth c b L xs) : W p l e room_1 s m #[Value.ref b] below meth c s.heap [] 0 0 (lw_Z below #[Value.ref b] s) (entryFrame m ([Value.ref b] : List Value).toArray 4) := by
  obtain ⟨hx, hb, hr, hml, hown, hts, hX, hbl, hlocks, hgv⟩ := C0
  obtain ⟨D, hKD⟩ := kd_start hts
  have hg : ∀ w ∈ lw_good, w.before #[Value.ref b] s = true := fun w h => hts w (List.mem_filter.mp h).1
  have hl := lv_entry ([.ref b]) (n := 4) (Nat.le_of_ble_eq_true rfl)
  rw [lg_entry_eq]
  have w := kL_law l D s.heap.size b L xs (X := (p, l, e, room_1, s, m, #[Value.ref b], below, meth, c, D, lw_Z below #[Value.ref b] s, 0, 0)) rfl (law_true L xs hL) ⟨rfl, rfl, hx, hb, hml, hown, hg, hKD, Nat.le_refl _, ⟨rfl, rfl, rfl, rfl⟩, rfl, hlocks⟩ ⟨rfl, rfl⟩ ⟨hX, hbl⟩ ⟨rfl, rfl, rfl, hr, rfl⟩
  exact w s.heap [] _ ⟨rfl, fun r h => absurd h (Nat.not_lt_zero r)⟩ (fun q _ => rfl) (fun q hq => by cases hq) ⟨Nat.le_refl _, Nat.le_refl _, Nat.zero_le _, Nat.zero_le _⟩ hl
