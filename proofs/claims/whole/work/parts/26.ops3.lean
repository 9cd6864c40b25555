/-! ===== the same of the model ===== -/
theorem cp_0 {α : Type} (f : Nat → Nat → α) (s d sp dp : Nat) : va_up f d (va_cpy (f s) (f d) sp dp 0) = f := by
  funext a j
  by_cases h : a = d
  · subst h; simp [va_up, va_cpy]; intro h1 h2; omega
  · simp [va_up, h]
theorem cp_s {α : Type} (f : Nat → Nat → α) {s d : Nat} (h : s ≠ d) (q : Nat → α) : va_up f d q s = f s := by simp [va_up, h]
theorem cp_1 {α : Type} (f : Nat → Nat → α) (s d sp dp i : Nat) : up2 (va_up f d (va_cpy (f s) (f d) sp dp i)) d (dp + i) (f s (sp + i)) = va_up f d (va_cpy (f s) (f d) sp dp (i + 1)) := by
  funext a j
  by_cases h : a = d
  · subst h
    by_cases e : j = dp + i
    · subst e
      rw [up2_s]
      simp only [va_up, if_true, va_cpy]
      rw [if_pos (by omega)]
      congr 1
      omega
    · rw [up2_k _ _ _ _ e]
      simp only [va_up, if_true, va_cpy]
      by_cases q : dp ≤ j ∧ j < dp + i
      · rw [if_pos q, if_pos (by omega)]
      · rw [if_neg q, if_neg (by omega)]
  · rw [up2_r _ _ _ h]; simp [va_up, h]
theorem cp_in {α : Type} (f : Nat → Nat → α) (s d sp dp n : Nat) {j : Nat} (h : j < n) : va_up f d (va_cpy (f s) (f d) sp dp n) d (dp + j) = f s (sp + j) := by
  simp only [va_up, if_true, va_cpy]
  rw [if_pos (by omega)]
  congr 1
  omega
theorem cp_out {α : Type} (f : Nat → Nat → α) (s d sp dp n : Nat) {j : Nat} (h : j < dp ∨ dp + n ≤ j) : va_up f d (va_cpy (f s) (f d) sp dp n) d j = f d j := by
  simp only [va_up, if_true, va_cpy]
  rw [if_neg (by omega)]
theorem cp_log {me : ME} {s d sp dp ns : Nat} {g : LG} (h : LogM me s sp ns g) (hg : g.1 ≤ 9) (hn : ns ≤ 6) {me1 : ME} (e : me1.1 d = va_up me.1 d (va_cpy (me.1 s) (me.1 d) sp dp 25) d) : LogM me1 d dp ns g := by
  obtain ⟨h1, h2, h3⟩ := h
  refine ⟨?_, fun k hk => ⟨?_, ?_⟩, fun j hj => ?_⟩
  · have := cp_in me.1 s d sp dp 25 (j := 0) (by omega)
    rw [e]
    simpa [h1] using this
  · rw [e, show dp + 7 + k = dp + (7 + k) by omega, cp_in me.1 s d sp dp 25 (by omega), show sp + (7 + k) = sp + 7 + k by omega]
    exact (h2 k hk).1
  · rw [e, show dp + 16 + k = dp + (16 + k) by omega, cp_in me.1 s d sp dp 25 (by omega), show sp + (16 + k) = sp + 16 + k by omega]
    exact (h2 k hk).2
  · rw [e, show dp + 1 + j = dp + (1 + j) by omega, cp_in me.1 s d sp dp 25 (by omega), show sp + (1 + j) = sp + 1 + j by omega]
    exact h3 j hj
theorem M_rem {me : ME} {ns : Nat} {ps : List LG} {g : LG} (hP : PaM me ns ps) (hl : ps.length ≤ 10) (h : LogM me 94 0 ns g) (hg : LogOK ns g) (hps : ∀ g ∈ ps, LogOK ns g) (hn : ns ≤ 6) : ∃ me1 : ME, mX10_remember S1 me 91 = some ((), me1) ∧ PaM me1 ns (push g ps) ∧ (∀ r, r ≠ 91 → r ≠ 95 → me1.1 r = me.1 r) ∧ (∀ k, k ≠ 4 → k ≠ 5 → me1.1 91 k = me.1 91 k) ∧ me1.2 = me.2 := by
  obtain ⟨nx, n1, n2, n3, n4⟩ := hP
  let C : Nat → ME := fun i => (va_up me.1 95 (va_cpy (me.1 94) (me.1 95) 0 (25 * nx) i), me.2)
  have hC91 : ∀ i, (C i).1 91 = me.1 91 := fun i => by simp [C, va_up]
  have hC94 : ∀ i, (C i).1 94 = me.1 94 := fun i => by simp [C, va_up]
  have e1 : iv ((nx : Int) + 1) - iv ((nx : Int) + 1) / iv 10 * iv 10 = iv (((nx + 1) % 10 : Nat) : Int) := by
    have := rem10 (n := nx + 1) (by omega)
    rw [show ((nx + 1 : Nat) : Int) = (nx : Int) + 1 by omega] at this
    exact this
  have key : mX10_remember S1 me 91 = some ((), (up2 (up2 (C 25).1 91 5 (iv (((nx + 1) % 10 : Nat) : Int))) 91 4 (iv ((push g ps).length : Int)), me.2)) := by
    unfold mX10_remember
    refine lpn_up (P := fun i s => s = (C i, iv i)) (e := 25) ?_ ?_ 25 0 lpF (me, 0) (by omega) (by unfold lpF; omega) ?_
    · rintro i s kk hi rfl
      refine ⟨(C (i + 1), iv ((i + 1 : Nat) : Int)), rfl, ?_⟩
      unfold mX10_remember_L2
      simp only [show (25 : Int32) = iv 25 from rfl]
      rw [if_neg (by rw [iv_le (by omega) (by omega) (by omega) (by omega)]; omega)]
      simp only [rS_91_6, rS_91_3, Option.bind_some, gI_k kS_91, hC91, n2, aI_k kS_94 lS_94 (i := (i : Int)) (by omega) (by omega) (by omega), hC94, Int.toNat_natCast, iv_mul, iv_add, uI_k kS_95 lS_95 (i := 25 * (nx : Int) + i) (by omega) (by omega) (by omega), show (1 : Int32) = iv 1 from rfl, show (25 * (nx : Int) + i).toNat = 25 * nx + i by omega]
      rw [show ((i + 1 : Nat) : Int) = (i : Int) + 1 by omega]
      have := cp_1 me.1 94 95 0 (25 * nx) i
      rw [Nat.zero_add] at this
      rw [this]
    · rintro s kk rfl
      unfold mX10_remember_L2 mX10_remember_j34 mX10_remember_j66
      simp only [show (25 : Int32) = iv 25 from rfl]
      rw [if_pos (by rw [iv_le (by omega) (by omega) (by omega) (by omega)]; omega)]
      simp only [Option.bind_some, gI_k kS_91, sI_k kS_91, hC91, n2, show (1 : Int32) = iv 1 from rfl, show (10 : Int32) = iv 10 from rfl, iv_add, e1, up2_k _ _ _ _ (show (4 : Nat) ≠ 5 by decide), n3]
      by_cases q : ps.length = 10
      · rw [if_pos (by rw [iv_le (by omega) (by omega) (by omega) (by omega)]; omega)]
        simp only [show (0 : Int32) = iv 0 from rfl, iv_add]
        rw [push_len g hl, if_pos (by omega), show (ps.length : Int) + 0 = ((10 : Nat) : Int) by omega]
      · rw [if_neg (by rw [iv_le (by omega) (by omega) (by omega) (by omega)]; omega)]
        rw [push_len g hl, if_neg (by omega), show ((ps.length + 1 : Nat) : Int) = (ps.length : Int) + 1 by omega]
    · show (me, (0 : Int32)) = (C 0, iv 0)
      refine Prod.ext (Prod.ext ?_ rfl) rfl
      exact (cp_0 me.1 94 95 0 (25 * nx)).symm
  refine ⟨_, key, ⟨(nx + 1) % 10, Nat.mod_lt _ (by omega), ?_, up2_s (up2 (C 25).1 91 5 (iv (((nx + 1) % 10 : Nat) : Int))) 91 4 _, fun t g' ht => ?_⟩, fun r h1 h2 => ?_, fun k h1 h2 => ?_, rfl⟩
  · show up2 (up2 (C 25).1 91 5 (iv (((nx + 1) % 10 : Nat) : Int))) 91 4 (iv ((push g ps).length : Int)) 91 5 = _
    rw [up2_k _ _ _ _ (by decide), up2_s]
  · have e95 : (up2 (up2 (C 25).1 91 5 (iv (((nx + 1) % 10 : Nat) : Int))) 91 4 (iv ((push g ps).length : Int))) 95 = va_up me.1 95 (va_cpy (me.1 94) (me.1 95) 0 (25 * nx) 25) 95 := by
      rw [up2_r _ _ _ (by decide), up2_r _ _ _ (by decide)]
    obtain ⟨t1, t2⟩ := push_get ht
    rcases t2 with ⟨rfl, rfl⟩ | ⟨t3, t4⟩
    · rw [show ((nx + 1) % 10 + 9 - 0) % 10 = nx by omega]
      exact cp_log h hg.1 hn e95
    · have ei : ((nx + 1) % 10 + 9 - t) % 10 = (nx + 9 - (t - 1)) % 10 := by omega
      have hne : (nx + 9 - (t - 1)) % 10 ≠ nx := by omega
      have hlt : (nx + 9 - (t - 1)) % 10 < 10 := Nat.mod_lt _ (by omega)
      rw [ei]
      have q := n4 (t - 1) g' t4
      generalize (nx + 9 - (t - 1)) % 10 = j at hne hlt q ⊢
      refine q.keep (fun i i1 i2 => ?_) (hps g' (List.mem_of_getElem? t4)) hn
      show up2 (up2 (C 25).1 91 5 (iv (((nx + 1) % 10 : Nat) : Int))) 91 4 (iv ((push g ps).length : Int)) 95 i = _
      rw [e95]
      exact cp_out me.1 94 95 0 (25 * nx) 25 (by omega)
  · show up2 (up2 (C 25).1 91 5 (iv (((nx + 1) % 10 : Nat) : Int))) 91 4 (iv ((push g ps).length : Int)) r = _
    rw [up2_r _ _ _ h1, up2_r _ _ _ h1]
    exact cp_s _ h2 _
  · show up2 (up2 (C 25).1 91 5 (iv (((nx + 1) % 10 : Nat) : Int))) 91 4 (iv ((push g ps).length : Int)) 91 k = _
    rw [up2_k _ _ _ _ h1, up2_k _ _ _ _ h2, hC91]
theorem RepM.past {me me1 : ME} {A : AS} {ps : List LG} (h : RepM me A) (F : ∀ r, r ≠ 91 → r ≠ 95 → me1.1 r = me.1 r) (G : ∀ k, k ≠ 4 → k ≠ 5 → me1.1 91 k = me.1 91 k) (ht : PaM me1 A.2.1.1 ps) : RepM me1 (A.1, A.2.1, A.2.2.1, ps, A.2.2.2.2) :=
  ⟨h.1.keep (G _ (by omega) (by omega)) (F _ (by omega) (by omega)), h.2.1.keep (G _ (by omega) (by omega)) (F _ (by omega) (by omega)) (F _ (by omega) (by omega)), h.2.2.1.keep' (F _ (by omega) (by omega)), ht, h.2.2.2.2.keep (F _ (by omega) (by omega)) (F _ (by omega) (by omega))⟩
theorem RepM.log {me me1 : ME} {A : AS} {g : LG} (h : RepM me A) (F : ∀ r, r ≠ 94 → me1.1 r = me.1 r) (ht : LogM me1 94 0 A.2.1.1 g) : RepM me1 (A.1, A.2.1, g, A.2.2.2) :=
  ⟨h.1.keep (by rw [F _ (by omega)]) (F _ (by omega)), h.2.1.keep (by rw [F _ (by omega)]) (F _ (by omega)) (F _ (by omega)), ht, h.2.2.2.1.keep (by rw [F _ (by omega)]) (by rw [F _ (by omega)]) (F _ (by omega)), h.2.2.2.2.keep (F _ (by omega)) (F _ (by omega))⟩
theorem M_hears {x y : Int} (h1 : -2147483648 ≤ x) (h2 : x ≤ 2147483647) (h3 : -2147483648 ≤ y) (h4 : y ≤ 2147483647) : OpM (fun me => mX10_hears S1 me 91 (iv x) (iv y)) (spHears x y) := by
  intro me A hR hA
  have hn := hA.2.2.1.1
  have hns := hA.2.1.1
  unfold mX10_hears mX10_hears_j18 spHears
  simp only [ck_s kS_91, Option.bind_some, isStation_v hR hA h1 h2]
  by_cases hx : 0 ≤ x ∧ x < A.2.1.1
  · simp only [if_pos hx]
    rw [if_neg (by decide)]
    by_cases hy : 0 ≤ y ∧ y ≤ 60
    · simp only [show (60 : Int32) = iv 60 from rfl, show (0 : Int32) = iv 0 from rfl, in_t S1 me hy (by omega) (by omega), Option.bind_some]
      rw [if_neg (by decide), if_pos ⟨hx, hy⟩]
      simp only [rS_91_3, Option.bind_some, aI_k kS_94 lS_94 (i := 0) (by omega) (by omega) (by omega), show (0 : Int).toNat = 0 from rfl, hR.2.2.1.1, show (9 : Int32) = iv 9 from rfl]
      by_cases hl : A.2.2.1.1 < 9
      · rw [if_pos hl, if_neg (by rw [iv_eq (by omega) (by omega) (by omega) (by omega)]; omega)]
        obtain ⟨m1, p1, p2, p3, p3', p4⟩ := M_rem hR.2.2.2.1 hA.2.2.2.1.1 hR.2.2.1 hA.2.2.1 hA.2.2.2.1.2 hns
        have hR1 := hR.past p3 p3' p2
        have hs := hR1.2.2.1.1
        have hs : m1.1 94 0 = iv A.2.2.1.1 := hs
        simp only [p1, Option.bind_some, show (7 : Int32) = iv 7 from rfl, show (16 : Int32) = iv 16 from rfl, iv_add, uI_k kS_94 lS_94 (i := 7 + (A.2.2.1.1 : Int)) (by omega) (by omega) (by omega), uI_k kS_94 lS_94 (i := 16 + (A.2.2.1.1 : Int)) (by omega) (by omega) (by omega), uI_k kS_94 lS_94 (i := 0) (by omega) (by omega) (by omega), show (7 + (A.2.2.1.1 : Int)).toNat = 7 + A.2.2.1.1 by omega, show (16 + (A.2.2.1.1 : Int)).toNat = 16 + A.2.2.1.1 by omega, show (0 : Int).toNat = 0 from rfl, aI_k kS_94 lS_94 (i := 0) (by omega) (by omega) (by omega), up2_k _ _ _ _ (show (0 : Nat) ≠ 16 + A.2.2.1.1 by omega), up2_k _ _ _ _ (show (0 : Nat) ≠ 7 + A.2.2.1.1 by omega), hs, show (1 : Int32) = iv 1 from rfl]
        refine ⟨_, rfl, hR1.log (fun r h => ?_) ⟨?_, fun k hk => ⟨?_, ?_⟩, fun s hs => ?_⟩, fun r hr => ⟨?_, ?_⟩⟩
        · show up2 (up2 (up2 m1.1 94 _ _) 94 _ _) 94 _ _ r = _
          rw [up2_r _ _ _ h, up2_r _ _ _ h, up2_r _ _ _ h]
        · show up2 (up2 (up2 m1.1 94 (7 + A.2.2.1.1) (iv x)) 94 (16 + A.2.2.1.1) (iv y)) 94 0 (iv ((A.2.2.1.1 : Int) + 1)) 94 0 = iv ((A.2.2.1.1 + 1 : Nat) : Int)
          rw [up2_s, show ((A.2.2.1.1 + 1 : Nat) : Int) = (A.2.2.1.1 : Int) + 1 by omega]
        · show up2 (up2 (up2 m1.1 94 (7 + A.2.2.1.1) (iv x)) 94 (16 + A.2.2.1.1) (iv y)) 94 0 (iv ((A.2.2.1.1 : Int) + 1)) 94 (0 + 7 + k) = iv ((va_up A.2.2.1.2.1 A.2.2.1.1 x.toNat k : Nat) : Int)
          have hk : k < A.2.2.1.1 + 1 := hk
          rw [up2_k _ _ _ _ (by omega), up2_k _ _ _ _ (by omega)]
          by_cases e : k = A.2.2.1.1
          · subst e; rw [show 0 + 7 + A.2.2.1.1 = 7 + A.2.2.1.1 by omega, up2_s]; simp [va_up]; rw [show max x 0 = x by omega]
          · rw [up2_k _ _ _ _ (by omega)]; simp only [va_up, if_neg e]; exact (hR1.2.2.1.2.1 k (by show k < A.2.2.1.1; omega)).1
        · show up2 (up2 (up2 m1.1 94 (7 + A.2.2.1.1) (iv x)) 94 (16 + A.2.2.1.1) (iv y)) 94 0 (iv ((A.2.2.1.1 : Int) + 1)) 94 (0 + 16 + k) = iv ((va_up A.2.2.1.2.2.1 A.2.2.1.1 y.toNat k : Nat) : Int)
          have hk : k < A.2.2.1.1 + 1 := hk
          rw [up2_k _ _ _ _ (by omega)]
          by_cases e : k = A.2.2.1.1
          · subst e; rw [show 0 + 16 + A.2.2.1.1 = 16 + A.2.2.1.1 by omega, up2_s]; simp [va_up]; rw [show max y 0 = y by omega]
          · rw [up2_k _ _ _ _ (by omega), up2_k _ _ _ _ (by omega)]; simp only [va_up, if_neg e]; exact (hR1.2.2.1.2.1 k (by show k < A.2.2.1.1; omega)).2
        · show up2 (up2 (up2 m1.1 94 (7 + A.2.2.1.1) (iv x)) 94 (16 + A.2.2.1.1) (iv y)) 94 0 (iv ((A.2.2.1.1 : Int) + 1)) 94 (0 + 1 + s) = _
          have hs2 : s < A.2.1.1 := hs
          rw [up2_k _ _ _ _ (by omega), up2_k _ _ _ _ (by omega), up2_k _ _ _ _ (by omega)]
          exact hR1.2.2.1.2.2 s hs2
        · show up2 (up2 (up2 m1.1 94 _ _) 94 _ _) 94 _ _ r = _
          rw [up2_r _ _ _ (by omega), up2_r _ _ _ (by omega), up2_r _ _ _ (by omega), p3 r (by omega) (by omega)]
        · show m1.2 r = _
          rw [p4]
      · rw [if_neg hl, if_pos (by rw [iv_eq (by omega) (by omega) (by omega) (by omega)]; omega)]
        exact ⟨me, rfl, hR, EqC.rfl'⟩
    · simp only [show (60 : Int32) = iv 60 from rfl, show (0 : Int32) = iv 0 from rfl, in_f S1 me hy h3 h4 (by omega) (by omega) (by omega) (by omega), Option.bind_some]
      rw [if_pos trivial, if_neg (fun q => hy q.2)]
      exact ⟨me, rfl, hR, EqC.rfl'⟩
  · simp only [if_neg hx]
    rw [if_pos trivial, if_neg (fun q => hx q.1)]
    exact ⟨me, rfl, hR, EqC.rfl'⟩
theorem M_strikes {x : Int} (h1 : -2147483648 ≤ x) (h2 : x ≤ 2147483647) : OpM (fun me => mX10_strikes S1 me 91 (iv x)) (spStrikes x) := by
  intro me A hR hA
  have hn := hA.2.2.1.1
  have hns := hA.2.1.1
  unfold mX10_strikes spStrikes
  simp only [ck_s kS_91, Option.bind_some, isReading_v hR hA h1 h2]
  by_cases hx : 0 ≤ x ∧ x < A.2.2.1.1
  · simp only [if_pos hx]
    rw [if_neg (by decide)]
    obtain ⟨m1, p1, p2, p3, p3', p4⟩ := M_rem hR.2.2.2.1 hA.2.2.2.1.1 hR.2.2.1 hA.2.2.1 hA.2.2.2.1.2 hns
    have hR1 := hR.past p3 p3' p2
    have hs := hR1.2.2.1.1
    have hs : m1.1 94 0 = iv A.2.2.1.1 := hs
    generalize hN : A.2.2.1.1 = N at *
    generalize hk : x.toNat = k at *
    have hxk : x = (k : Int) := by omega
    subst hxk
    have hkN : k < N := by omega
    let F : Nat → ME := fun i => (va_up m1.1 94 (fun j => if j = 0 then iv ((N : Int) - 1) else if (7 + k ≤ j ∧ j < 7 + i) ∨ (16 + k ≤ j ∧ j < 16 + i) then m1.1 94 (j + 1) else m1.1 94 j), m1.2)
    have hF : ∀ i j, (F i).1 94 j = if j = 0 then iv ((N : Int) - 1) else if (7 + k ≤ j ∧ j < 7 + i) ∨ (16 + k ≤ j ∧ j < 16 + i) then m1.1 94 (j + 1) else m1.1 94 j := fun i j => by simp [F, va_up]
    have hFr : ∀ i r, r ≠ 94 → (F i).1 r = m1.1 r := fun i r h => by simp [F, va_up, h]
    have key : lpn (mX10_strikes_L26 S1 91 (iv k)) lpF ((up2 m1.1 94 0 (iv ((N : Int) - 1)), m1.2), iv k) = some (iv ((N : Int) - 1), F (N - 1)) := by
      refine lpn_up (P := fun i s => k ≤ i ∧ s = (F i, iv i)) (e := N - 1) ?_ ?_ (N - 1 - k) k lpF _ (by omega) (by unfold lpF; omega) ⟨Nat.le_refl k, ?_⟩
      · rintro i s kk hi ⟨hki, rfl⟩
        refine ⟨(F (i + 1), iv ((i + 1 : Nat) : Int)), ⟨by omega, rfl⟩, ?_⟩
        unfold mX10_strikes_L26
        simp only [rS_91_3, Option.bind_some, show (0 : Int32) = iv 0 from rfl, aI_k kS_94 lS_94 (i := 0) (by omega) (by omega) (by omega), show (0 : Int).toNat = 0 from rfl, hF, if_true]
        rw [if_neg (by rw [iv_le (by omega) (by omega) (by omega) (by omega)]; omega)]
        simp only [show (7 : Int32) = iv 7 from rfl, show (16 : Int32) = iv 16 from rfl, show (1 : Int32) = iv 1 from rfl, iv_add, Option.bind_some, aI_k kS_94 lS_94 (i := 7 + (i : Int) + 1) (by omega) (by omega) (by omega), uI_k kS_94 lS_94 (i := 7 + (i : Int)) (by omega) (by omega) (by omega), aI_k kS_94 lS_94 (i := 16 + (i : Int) + 1) (by omega) (by omega) (by omega), uI_k kS_94 lS_94 (i := 16 + (i : Int)) (by omega) (by omega) (by omega), show (7 + (i : Int) + 1).toNat = 7 + i + 1 by omega, show (16 + (i : Int) + 1).toNat = 16 + i + 1 by omega, show (7 + (i : Int)).toNat = 7 + i by omega, show (16 + (i : Int)).toNat = 16 + i by omega, up2_k _ _ _ _ (show 16 + i + 1 ≠ 7 + i by omega)]
        rw [show ((i + 1 : Nat) : Int) = (i : Int) + 1 by omega]
        refine congrArg kk (Prod.ext (Prod.ext ?_ rfl) rfl)
        funext a j
        show up2 (up2 (F i).1 94 (7 + i) ((F i).1 94 (7 + i + 1))) 94 (16 + i) ((F i).1 94 (16 + i + 1)) a j = (F (i + 1)).1 a j
        by_cases ha : a = 94
        · subst ha
          rw [hF (i + 1) j]
          by_cases e1 : j = 16 + i
          · subst e1
            rw [up2_s, hF, if_neg (by omega), if_neg (by omega), if_neg (by omega), if_pos (by omega)]
          · rw [up2_k _ _ _ _ e1]
            by_cases e2 : j = 7 + i
            · subst e2
              rw [up2_s, hF, if_neg (by omega), if_neg (by omega), if_neg (by omega), if_pos (by omega)]
            · rw [up2_k _ _ _ _ e2, hF i j]
              by_cases e0 : j = 0
              · rw [if_pos e0, if_pos e0]
              · rw [if_neg e0, if_neg e0]
                by_cases q : (7 + k ≤ j ∧ j < 7 + i) ∨ (16 + k ≤ j ∧ j < 16 + i)
                · rw [if_pos q, if_pos (by omega)]
                · rw [if_neg q, if_neg (by omega)]
        · rw [hFr (i + 1) a ha, up2_r _ _ _ ha, up2_r _ _ _ ha, hFr i a ha]
      · rintro s kk ⟨hki, rfl⟩
        unfold mX10_strikes_L26 mX10_strikes_j82
        simp only [rS_91_3, Option.bind_some, show (0 : Int32) = iv 0 from rfl, aI_k kS_94 lS_94 (i := 0) (by omega) (by omega) (by omega), show (0 : Int).toNat = 0 from rfl, hF, if_true]
        rw [if_pos (by rw [iv_le (by omega) (by omega) (by omega) (by omega)]; omega)]
      · refine Prod.ext (Prod.ext ?_ rfl) rfl
        funext a j
        by_cases ha : a = 94
        · subst ha
          rw [hF]
          by_cases e0 : j = 0
          · subst e0; rw [if_pos rfl]; exact up2_s m1.1 94 0 _
          · rw [if_neg e0, if_neg (by omega)]; exact up2_k m1.1 94 94 _ e0
        · rw [hFr _ a ha]; exact congrFun (up2_r _ _ _ ha) j
    simp only [p1, Option.bind_some, rS_91_3, show (0 : Int32) = iv 0 from rfl, aI_k kS_94 lS_94 (i := 0) (by omega) (by omega) (by omega), show (0 : Int).toNat = 0 from rfl, hs, show (1 : Int32) = iv 1 from rfl, iv_sub, uI_k kS_94 lS_94 (i := 0) (by omega) (by omega) (by omega), key]
    refine ⟨F (N - 1), rfl, hR1.log (fun r h => hFr _ r h) ⟨?_, fun j hj => ⟨?_, ?_⟩, fun s hs => ?_⟩, fun r hr => ⟨?_, ?_⟩⟩
    · show (F (N - 1)).1 94 0 = iv ((A.2.2.1.1 - 1 : Nat) : Int)
      rw [hF, if_pos rfl, hN, show ((N - 1 : Nat) : Int) = (N : Int) - 1 by omega]
    · show (F (N - 1)).1 94 (0 + 7 + j) = iv ((if k ≤ j then A.2.2.1.2.1 (j + 1) else A.2.2.1.2.1 j : Nat) : Int)
      have hj : j < A.2.2.1.1 - 1 := hj
      rw [hF, if_neg (by omega)]
      by_cases q : k ≤ j
      · rw [if_pos (by omega), if_pos q]
        have := (hR1.2.2.1.2.1 (j + 1) (by show j + 1 < A.2.2.1.1; omega)).1
        rw [show 0 + 7 + j + 1 = 0 + 7 + (j + 1) by omega]; exact this
      · rw [if_neg (by omega), if_neg q]
        exact (hR1.2.2.1.2.1 j (by show j < A.2.2.1.1; omega)).1
    · show (F (N - 1)).1 94 (0 + 16 + j) = iv ((if k ≤ j then A.2.2.1.2.2.1 (j + 1) else A.2.2.1.2.2.1 j : Nat) : Int)
      have hj : j < A.2.2.1.1 - 1 := hj
      rw [hF, if_neg (by omega)]
      by_cases q : k ≤ j
      · rw [if_pos (by omega), if_pos q]
        have := (hR1.2.2.1.2.1 (j + 1) (by show j + 1 < A.2.2.1.1; omega)).2
        rw [show 0 + 16 + j + 1 = 0 + 16 + (j + 1) by omega]; exact this
      · rw [if_neg (by omega), if_neg q]
        exact (hR1.2.2.1.2.1 j (by show j < A.2.2.1.1; omega)).2
    · show (F (N - 1)).1 94 (0 + 1 + s) = _
      have hs2 : s < A.2.1.1 := hs
      rw [hF, if_neg (by omega), if_neg (by omega)]
      exact hR1.2.2.1.2.2 s hs2
    · rw [hFr _ r (by omega), p3 r (by omega) (by omega)]
    · show m1.2 r = _
      rw [p4]
  · simp only [if_neg hx]
    rw [if_pos trivial]
    exact ⟨me, rfl, hR, EqC.rfl'⟩
theorem M_sets {x y : Int} (h1 : -2147483648 ≤ x) (h2 : x ≤ 2147483647) (h3 : -2147483648 ≤ y) (h4 : y ≤ 2147483647) : OpM (fun me => mX10_sets S1 me 91 (iv x) (iv y)) (spSets x y) := by
  intro me A hR hA
  have hn := hA.2.2.1.1
  have hns := hA.2.1.1
  unfold mX10_sets mX10_sets_j17 spSets
  simp only [ck_s kS_91, Option.bind_some, isStation_v hR hA h1 h2]
  by_cases hx : 0 ≤ x ∧ x < A.2.1.1
  · simp only [if_pos hx]
    rw [if_neg (by decide)]
    by_cases hy : 0 ≤ y ∧ y ≤ 4
    · simp only [show (4 : Int32) = iv 4 from rfl, show (0 : Int32) = iv 0 from rfl, in_t S1 me hy (by omega) (by omega), Option.bind_some]
      rw [if_neg (by decide), if_pos ⟨hx, hy⟩]
      have hc := hR.2.2.1.2.2 x.toNat (by omega)
      have hc4 := hA.2.2.1.2.2 x.toNat (by omega)
      rw [Nat.zero_add] at hc
      simp only [rS_91_3, Option.bind_some, show (1 : Int32) = iv 1 from rfl, iv_add, aI_k kS_94 lS_94 (i := 1 + x) (by omega) (by omega) (by omega), show (1 + x).toNat = 1 + x.toNat by omega, hc]
      by_cases he : (A.2.2.1.2.2.2 x.toNat : Int) = y
      · rw [if_pos he, if_pos (by rw [he])]
        exact ⟨me, rfl, hR, EqC.rfl'⟩
      · rw [if_neg he, if_neg (by rw [iv_eq (by omega) (by omega) (by omega) (by omega)]; exact he)]
        obtain ⟨m1, p1, p2, p3, p3', p4⟩ := M_rem hR.2.2.2.1 hA.2.2.2.1.1 hR.2.2.1 hA.2.2.1 hA.2.2.2.1.2 hns
        have hR1 := hR.past p3 p3' p2
        simp only [p1, Option.bind_some, uI_k kS_94 lS_94 (i := 1 + x) (by omega) (by omega) (by omega), show (1 + x).toNat = 1 + x.toNat by omega]
        refine ⟨(up2 m1.1 94 (1 + x.toNat) (iv y), m1.2), rfl, hR1.log (fun r h => up2_r m1.1 _ _ h) ⟨?_, fun k hk => ⟨?_, ?_⟩, fun s hs => ?_⟩, fun r hr => ⟨?_, ?_⟩⟩
        · show up2 m1.1 94 (1 + x.toNat) (iv y) 94 0 = _
          rw [up2_k _ _ _ _ (by omega)]; exact hR1.2.2.1.1
        · show up2 m1.1 94 (1 + x.toNat) (iv y) 94 (0 + 7 + k) = _
          rw [up2_k _ _ _ _ (by omega)]; exact (hR1.2.2.1.2.1 k hk).1
        · show up2 m1.1 94 (1 + x.toNat) (iv y) 94 (0 + 16 + k) = _
          rw [up2_k _ _ _ _ (by omega)]; exact (hR1.2.2.1.2.1 k hk).2
        · show up2 m1.1 94 (1 + x.toNat) (iv y) 94 (0 + 1 + s) = iv ((va_up A.2.2.1.2.2.2 x.toNat y.toNat s : Nat) : Int)
          by_cases e : s = x.toNat
          · subst e; rw [show 0 + 1 + x.toNat = 1 + x.toNat by omega, up2_s]; simp [va_up]; rw [show max y 0 = y by omega]
          · rw [up2_k _ _ _ _ (by omega)]; simp only [va_up, if_neg e]; exact hR1.2.2.1.2.2 s hs
        · show up2 m1.1 94 (1 + x.toNat) (iv y) r = _
          rw [up2_r _ _ _ (by omega), p3 r (by omega) (by omega)]
        · show m1.2 r = _
          rw [p4]
    · simp only [show (4 : Int32) = iv 4 from rfl, show (0 : Int32) = iv 0 from rfl, in_f S1 me hy h3 h4 (by omega) (by omega) (by omega) (by omega), Option.bind_some]
      rw [if_pos trivial, if_neg (fun q => hy q.2)]
      exact ⟨me, rfl, hR, EqC.rfl'⟩
  · simp only [if_neg hx]
    rw [if_pos trivial, if_neg (fun q => hx q.1)]
    exact ⟨me, rfl, hR, EqC.rfl'⟩
