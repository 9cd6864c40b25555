theorem M_undo : OpM (fun me => mX10_undo S1 me 91) spUndo := by
  intro me A hR hA
  obtain ⟨tx, st, lg, ps, im⟩ := A
  unfold mX10_undo
  obtain ⟨nx, n1, n2, n3, n4⟩ := id hR.2.2.2.1
  have hl : ps.length ≤ 10 := hA.2.2.2.1.1
  have hns : st.1 ≤ 6 := hA.2.1.1
  have n3 : me.1 91 4 = iv ps.length := n3
  simp only [bs, gI_k kS_91, n3]
  cases ps with
  | nil =>
    rw [if_pos (by decide)]
    exact ⟨me, rfl, hR, EqC.rfl'⟩
  | cons g ps =>
    have hl : ps.length + 1 ≤ 10 := by rw [List.length_cons] at hl; exact hl
    rw [if_neg (by rw [show (0 : Int32) = iv 0 from rfl, iv_eq (by omega) (by rw [List.length_cons]; omega) (by omega) (by omega), List.length_cons]; omega)]
    have hgo := hA.2.2.2.1.2 g List.mem_cons_self
    have hgo : LogOK st.1 g := hgo
    have e1 : iv ((nx : Int) + 10 - 1) - iv ((nx : Int) + 10 - 1) / iv 10 * iv 10 = iv (((nx + 9) % 10 : Nat) : Int) := by
      have := rem10 (n := nx + 9) (by omega)
      rw [show ((nx + 9 : Nat) : Int) = (nx : Int) + 10 - 1 by omega] at this
      exact this
    have hj : (nx + 9) % 10 < 10 := Nat.mod_lt _ (by omega)
    have h0 := n4 0 g rfl
    rw [show (nx + 9 - 0) % 10 = (nx + 9) % 10 by omega] at h0
    have h0 : LogM me 95 (25 * ((nx + 9) % 10)) st.1 g := h0
    have hn4 : ∀ (t : Nat) (g' : LG), ps[t]? = some g' → LogM me 95 (25 * (((nx + 9) % 10 + 9 - t) % 10)) st.1 g' := fun t g' ht => by
      have q := n4 (t + 1) g' (by simpa using ht)
      have hlt : t < ps.length := (List.getElem?_eq_some_iff.mp ht).1
      rw [show (nx + 9 - (t + 1)) % 10 = ((nx + 9) % 10 + 9 - t) % 10 by omega] at q
      exact q
    generalize (nx + 9) % 10 = nj at *
    let B : ME := (up2 (up2 me.1 91 5 (iv (nj : Int))) 91 4 (iv (ps.length : Int)), me.2)
    have hB : ∀ r, r ≠ 91 → B.1 r = me.1 r := fun r h => by
      show up2 (up2 me.1 91 5 (iv (nj : Int))) 91 4 (iv (ps.length : Int)) r = _
      rw [up2_r _ _ _ h, up2_r _ _ _ h]
    have hB5 : B.1 91 5 = iv nj := by
      show up2 (up2 me.1 91 5 (iv (nj : Int))) 91 4 (iv (ps.length : Int)) 91 5 = _
      rw [up2_k _ _ _ _ (by decide), up2_s]
    have hB4 : B.1 91 4 = iv ps.length := up2_s (up2 me.1 91 5 (iv (nj : Int))) 91 4 _
    have hBk : ∀ k, k ≠ 4 → k ≠ 5 → B.1 91 k = me.1 91 k := fun k h1 h2 => by
      show up2 (up2 me.1 91 5 (iv (nj : Int))) 91 4 (iv (ps.length : Int)) 91 k = _
      rw [up2_k _ _ _ _ h1, up2_k _ _ _ _ h2]
    let C : Nat → ME := fun i => (va_up B.1 94 (va_cpy (B.1 95) (B.1 94) (25 * nj) 0 i), B.2)
    have hC : ∀ i r, r ≠ 94 → (C i).1 r = B.1 r := fun i r h => by simp [C, va_up, h]
    have key : lpn (mX10_undo_L38 S1 91) lpF (B, 0) = some (iv ps.length, C 25) := by
      refine lpn_up (P := fun i s => s = (C i, iv i)) (e := 25) ?_ ?_ 25 0 lpF _ (by omega) (by unfold lpF; omega) ?_
      · rintro i s kk hi rfl
        refine ⟨(C (i + 1), iv ((i + 1 : Nat) : Int)), rfl, ?_⟩
        unfold mX10_undo_L38
        simp only [show (25 : Int32) = iv 25 from rfl]
        rw [if_neg (by rw [iv_le (by omega) (by omega) (by omega) (by omega)]; omega)]
        simp only [rS_91_6, rS_91_3, bs, gI_k kS_91, hC _ 91 (by decide), hB5, iv_mul, iv_add, aI_k kS_95 lS_95 (i := 25 * (nj : Int) + i) (by omega) (by omega) (by omega), show (25 * (nj : Int) + i).toNat = 25 * nj + i by omega, hC _ 95 (by decide), uI_k kS_94 lS_94 (i := (i : Int)) (by omega) (by omega) (by omega), Int.toNat_natCast, show (1 : Int32) = iv 1 from rfl]
        rw [show ((i + 1 : Nat) : Int) = (i : Int) + 1 by omega]
        have := cp_1 B.1 95 94 (25 * nj) 0 i
        rw [Nat.zero_add] at this
        rw [this]
      · rintro s kk rfl
        unfold mX10_undo_L38 mX10_undo_j70
        simp only [show (25 : Int32) = iv 25 from rfl]
        rw [if_pos (by rw [iv_le (by omega) (by omega) (by omega) (by omega)]; omega)]
        simp only [gI_k kS_91, bs, hC _ 91 (by decide), hB4]
      · show (B, (0 : Int32)) = (C 0, iv 0)
        exact Prod.ext (Prod.ext (cp_0 B.1 95 94 (25 * nj) 0).symm rfl) rfl
    have en' : iv ((((g :: ps).length : Nat) : Int) - 1) = iv (ps.length : Int) := congrArg iv (by rw [List.length_cons]; omega)
    simp only [n2, show (1 : Int32) = iv 1 from rfl, show (10 : Int32) = iv 10 from rfl, iv_add, iv_sub, e1, sI_k kS_91, bs, up2_k _ _ _ _ (show (4 : Nat) ≠ 5 by decide), n3, en']
    refine ⟨C 25, (congrArg (lpn (mX10_undo_L38 S1 91) lpF) (show _ = (B, (0 : Int32)) from rfl)).trans key, ⟨hR.1.keep ?_ ?_, hR.2.1.keep ?_ ?_ ?_, cp_log (me := B) (s := 95) (sp := 25 * nj) ?_ hgo.1 hns rfl, ⟨nj, hj, ?_, ?_, fun t g' ht => ?_⟩, hR.2.2.2.2.keep ?_ ?_⟩, fun r hr => ⟨?_, rfl⟩⟩
    · rw [hC _ 91 (by decide), hBk _ (by decide) (by decide)]
    · rw [hC _ 98 (by decide), hB _ (by decide)]
    · rw [hC _ 91 (by decide), hBk _ (by decide) (by decide)]
    · rw [hC _ 92 (by decide), hB _ (by decide)]
    · rw [hC _ 93 (by decide), hB _ (by decide)]
    · exact h0.keep' (hB 95 (by decide))
    · rw [hC _ 91 (by decide)]; exact hB5
    · rw [hC _ 91 (by decide)]; exact hB4
    · exact (hn4 t g' ht).keep' (by rw [hC _ 95 (by decide), hB _ (by decide)])
    · rw [hC _ 96 (by decide), hB _ (by decide)]
    · rw [hC _ 97 (by decide), hB _ (by decide)]
    · rw [hC _ r (by omega), hB _ (by omega)]
theorem M_keep {x : Int} (h1 : -2147483648 ≤ x) (h2 : x ≤ 2147483647) : OpM (fun me => mX10_keep S1 me 91 (iv x)) (spKeep x) := by
  intro me A hR hA
  have hn := hA.2.2.1
  have hns := hA.2.1.1
  unfold mX10_keep spKeep
  by_cases hx : 0 ≤ x ∧ x ≤ 1
  · simp only [show (1 : Int32) = iv 1 from rfl, show (0 : Int32) = iv 0 from rfl, in_t S1 me hx (by omega) (by omega), Option.bind_some]
    rw [if_neg (by decide), if_pos hx]
    generalize hk : x.toNat = k at *
    have hxk : x = (k : Int) := by omega
    subst hxk
    let B : ME := (up2 me.1 96 k (iv 1), me.2)
    have hB : ∀ r, r ≠ 96 → B.1 r = me.1 r := fun r h => up2_r me.1 _ _ h
    let C : Nat → ME := fun i => (va_up B.1 97 (va_cpy (B.1 94) (B.1 97) 0 (25 * k) i), B.2)
    have hC : ∀ i r, r ≠ 97 → (C i).1 r = B.1 r := fun i r h => by simp [C, va_up, h]
    have key : lpn (mX10_keep_L20 S1 91 (iv k)) lpF (B, iv 0) = some (iv A.2.2.1.1, C 25) := by
      refine lpn_up (P := fun i s => s = (C i, iv i)) (e := 25) ?_ ?_ 25 0 lpF _ (by omega) (by unfold lpF; omega) ?_
      · rintro i s kk hi rfl
        refine ⟨(C (i + 1), iv ((i + 1 : Nat) : Int)), rfl, ?_⟩
        unfold mX10_keep_L20
        simp only [show (25 : Int32) = iv 25 from rfl]
        rw [if_neg (by rw [iv_le (by omega) (by omega) (by omega) (by omega)]; omega)]
        simp only [rS_91_8, rS_91_3, Option.bind_some, iv_mul, iv_add, aI_k kS_94 lS_94 (i := (i : Int)) (by omega) (by omega) (by omega), hC _ 94 (by decide), uI_k kS_97 lS_97 (i := 25 * (k : Int) + i) (by omega) (by omega) (by omega), show (25 * (k : Int) + i).toNat = 25 * k + i by omega, Int.toNat_natCast, show (1 : Int32) = iv 1 from rfl]
        rw [show ((i + 1 : Nat) : Int) = (i : Int) + 1 by omega]
        have := cp_1 B.1 94 97 0 (25 * k) i
        rw [Nat.zero_add] at this
        rw [this]
      · rintro s kk rfl
        unfold mX10_keep_L20 mX10_keep_j49
        simp only [show (25 : Int32) = iv 25 from rfl]
        rw [if_pos (by rw [iv_le (by omega) (by omega) (by omega) (by omega)]; omega)]
        simp only [rS_91_3, Option.bind_some, show (0 : Int32) = iv 0 from rfl, aI_k kS_94 lS_94 (i := 0) (by omega) (by omega) (by omega), show (0 : Int).toNat = 0 from rfl, hC _ 94 (by decide), hB 94 (by decide), hR.2.2.1.1]
      · exact Prod.ext (Prod.ext (cp_0 B.1 94 97 0 (25 * k)).symm rfl) rfl
    simp only [rS_91_7, Option.bind_some, uZ_k kS_96 lS_96 (i := (k : Int)) (by omega) (by omega) (by omega), nar1, Int.toNat_natCast]
    refine ⟨C 25, key, ⟨hR.1.keep ?_ ?_, hR.2.1.keep ?_ ?_ ?_, hR.2.2.1.keep' ?_, hR.2.2.2.1.keep ?_ ?_ ?_, fun i hi => ?_⟩, fun r hr => ⟨?_, rfl⟩⟩
    · rw [hC _ 91 (by decide), hB _ (by decide)]
    · rw [hC _ 98 (by decide), hB _ (by decide)]
    · rw [hC _ 91 (by decide), hB _ (by decide)]
    · rw [hC _ 92 (by decide), hB _ (by decide)]
    · rw [hC _ 93 (by decide), hB _ (by decide)]
    · rw [hC _ 94 (by decide), hB _ (by decide)]
    · rw [hC _ 91 (by decide), hB _ (by decide)]
    · rw [hC _ 91 (by decide), hB _ (by decide)]
    · rw [hC _ 95 (by decide), hB _ (by decide)]
    · rw [hC _ 96 (by decide)]
      by_cases e : i = k
      · subst e
        refine Or.inr ⟨A.2.2.1, by simp [va_up], up2_s me.1 96 _ _, cp_log (me := B) (s := 94) (sp := 0) (hR.2.2.1.keep' (hB 94 (by decide))) hn.1 hns rfl⟩
      · have e96 : B.1 96 i = me.1 96 i := up2_k me.1 96 96 (iv 1) e
        rw [e96]
        rcases hR.2.2.2.2 i hi with ⟨q1, q2⟩ | ⟨g, q1, q2, q3⟩
        · exact Or.inl ⟨by simp only [va_up, if_neg e]; exact q1, q2⟩
        · refine Or.inr ⟨g, by simp only [va_up, if_neg e]; exact q1, q2, q3.keep (fun j j1 j2 => ?_) (hA.2.2.2.2 i g q1) hns⟩
          have := cp_out B.1 94 97 0 (25 * k) 25 (j := j) (by omega)
          exact this.trans (by rw [hB 97 (by decide)])
    · rw [hC _ r (by omega), hB _ (by omega)]
  · simp only [show (1 : Int32) = iv 1 from rfl, show (0 : Int32) = iv 0 from rfl, in_f S1 me hx h1 h2 (by omega) (by omega) (by omega) (by omega), Option.bind_some]
    rw [if_pos trivial, if_neg hx]
    exact ⟨me, rfl, hR, EqC.rfl'⟩
theorem M_back {x : Int} (h1 : -2147483648 ≤ x) (h2 : x ≤ 2147483647) : OpM (fun me => mX10_back S1 me 91 (iv x)) (spBack x) := by
  intro me A hR hA
  have hns := hA.2.1.1
  unfold mX10_back spBack
  by_cases hx : 0 ≤ x ∧ x ≤ 1
  · simp only [show (1 : Int32) = iv 1 from rfl, show (0 : Int32) = iv 0 from rfl, in_t S1 me hx (by omega) (by omega), Option.bind_some]
    rw [if_neg (by decide), if_pos hx]
    generalize hk : x.toNat = k at *
    have hxk : x = (k : Int) := by omega
    subst hxk
    have hi : k < 2 := by omega
    simp only [rS_91_7, Option.bind_some, aI_k kS_96 lS_96 (i := (k : Int)) (by omega) (by omega) (by omega), Int.toNat_natCast]
    rcases hR.2.2.2.2 k hi with ⟨q1, q2⟩ | ⟨g, q1, q2, q3⟩
    · rw [q1, q2, if_pos (by decide)]
      exact ⟨me, rfl, hR, EqC.rfl'⟩
    · rw [q1, q2, if_neg (by decide)]
      have hg := hA.2.2.2.2 _ g q1
      let C : Nat → ME := fun i => (va_up me.1 94 (va_cpy (me.1 97) (me.1 94) (25 * k) 0 i), me.2)
      have hC : ∀ i r, r ≠ 94 → (C i).1 r = me.1 r := fun i r h => by simp [C, va_up, h]
      have hL : LogM (C 25) 94 0 A.2.1.1 g := cp_log (me := me) (s := 97) (sp := 25 * k) q3 hg.1 hns rfl
      have key : lpn (mX10_back_L25 S1 91 (iv k)) lpF (me, iv 0) = some (iv g.1, (up2 (C 25).1 91 4 (iv 0), me.2)) := by
        refine lpn_up (P := fun i s => s = (C i, iv i)) (e := 25) ?_ ?_ 25 0 lpF _ (by omega) (by unfold lpF; omega) ?_
        · rintro i s kk hi rfl
          refine ⟨(C (i + 1), iv ((i + 1 : Nat) : Int)), rfl, ?_⟩
          unfold mX10_back_L25
          simp only [show (25 : Int32) = iv 25 from rfl]
          rw [if_neg (by rw [iv_le (by omega) (by omega) (by omega) (by omega)]; omega)]
          simp only [rS_91_8, rS_91_3, Option.bind_some, iv_mul, iv_add, aI_k kS_97 lS_97 (i := 25 * (k : Int) + i) (by omega) (by omega) (by omega), hC _ 97 (by decide), uI_k kS_94 lS_94 (i := (i : Int)) (by omega) (by omega) (by omega), show (25 * (k : Int) + i).toNat = 25 * k + i by omega, Int.toNat_natCast, show (1 : Int32) = iv 1 from rfl]
          rw [show ((i + 1 : Nat) : Int) = (i : Int) + 1 by omega]
          have := cp_1 me.1 97 94 (25 * k) 0 i
          rw [Nat.zero_add] at this
          rw [this]
        · rintro s kk rfl
          unfold mX10_back_L25 mX10_back_j54
          simp only [show (25 : Int32) = iv 25 from rfl]
          rw [if_pos (by rw [iv_le (by omega) (by omega) (by omega) (by omega)]; omega)]
          simp only [rS_91_3, Option.bind_some, sI_k kS_91, show (0 : Int32) = iv 0 from rfl, aI_k kS_94 lS_94 (i := 0) (by omega) (by omega) (by omega), show (0 : Int).toNat = 0 from rfl, up2_r _ _ _ (show (94 : Nat) ≠ 91 by decide), hL.1]
          rfl
        · exact Prod.ext (Prod.ext (cp_0 me.1 97 94 (25 * k) 0).symm rfl) rfl
      obtain ⟨nx, n1, n2, n3, n4⟩ := hR.2.2.2.1
      have hE : ∀ r, r ≠ 91 → r ≠ 94 → ((up2 (C 25).1 91 4 (iv 0), me.2) : ME).1 r = me.1 r := fun r h h' => by
        show up2 (C 25).1 91 4 (iv 0) r = _
        rw [up2_r _ _ _ h, hC _ r h']
      have hk : ∀ j, j ≠ 4 → ((up2 (C 25).1 91 4 (iv 0), me.2) : ME).1 91 j = me.1 91 j := fun j h => by
        show up2 (C 25).1 91 4 (iv 0) 91 j = _
        rw [up2_k _ _ _ _ h, hC _ 91 (by decide)]
      refine ⟨_, key, ⟨hR.1.keep (hk _ (by decide)) (hE _ (by decide) (by decide)), hR.2.1.keep (hk _ (by decide)) (hE _ (by decide) (by decide)) (hE _ (by decide) (by decide)), hL.keep' (up2_r (a := 94) (r := 91) (C 25).1 4 (iv 0) (by decide)), ⟨nx, n1, (hk 5 (by decide)).trans n2, up2_s (C 25).1 91 4 _, fun t g' h => by simp at h⟩, hR.2.2.2.2.keep (hE _ (by decide) (by decide)) (hE _ (by decide) (by decide))⟩, fun r hr => ⟨hE r (by omega) (by omega), rfl⟩⟩
  · simp only [show (1 : Int32) = iv 1 from rfl, show (0 : Int32) = iv 0 from rfl, in_f S1 me hx h1 h2 (by omega) (by omega) (by omega) (by omega), Option.bind_some]
    rw [if_pos trivial, if_neg hx]
    exact ⟨me, rfl, hR, EqC.rfl'⟩
