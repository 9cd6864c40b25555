/-! ===== what is heard: hears, strikes, sets, undo, keep, back ===== -/
theorem RepC.log {me me1 : ME} {A : AS} {g : LG} (h : RepC me A) (F : ∀ r, r < 91 → ¬ (14 ≤ r ∧ r ≤ 17) → me1.1 r = me.1 r) (ht : LogC me1 14 A.2.1.1 g) : RepC me1 (A.1, A.2.1, g, A.2.2.2) :=
  ⟨h.1.keep (F _ (by omega) (by omega)) (F _ (by omega) (by omega)), h.2.1.keep (F _ (by omega) (by omega)) (F _ (by omega) (by omega)) (F _ (by omega) (by omega)), ht, h.2.2.2.1.keep (fun r h1 h2 => F r (by omega) (by omega)), h.2.2.2.2.keep (F _ (by omega) (by omega)) (fun r h1 h2 => F r (by omega) (by omega))⟩
theorem RepC.past {me me1 : ME} {A : AS} {ps : List LG} (h : RepC me A) (F : ∀ r, r < 91 → ¬ (18 ≤ r ∧ r < 60) → me1.1 r = me.1 r) (ht : PaC me1 A.2.1.1 ps) : RepC me1 (A.1, A.2.1, A.2.2.1, ps, A.2.2.2.2) :=
  ⟨h.1.keep (F _ (by omega) (by omega)) (F _ (by omega) (by omega)), h.2.1.keep (F _ (by omega) (by omega)) (F _ (by omega) (by omega)) (F _ (by omega) (by omega)), h.2.2.1.keep (F _ (by omega) (by omega)) (F _ (by omega) (by omega)) (F _ (by omega) (by omega)) (F _ (by omega) (by omega)), ht, h.2.2.2.2.keep (F _ (by omega) (by omega)) (fun r h1 h2 => F r (by omega) (by omega))⟩
theorem hasStation_v {me : ME} {A : AS} (hR : RepC me A) (hA : ASok A) {x : Int} (h1 : -2147483648 ≤ x) (h2 : x ≤ 2147483647) : mX9_hasStation S1 me 0 (iv x) = some (if 0 ≤ x ∧ x < A.2.1.1 then 1 else 0, me) := by
  have hn := hA.2.1.1
  unfold mX9_hasStation
  simp only [rS_0_2, Option.bind_some, gI_k kS_11, hR.2.1.1, show (1 : Int32) = iv 1 from rfl, iv_sub]
  by_cases h : 0 ≤ x ∧ x < A.2.1.1
  · rw [within_t S1 me ⟨h.1, by omega⟩ (by omega), if_pos h]
    rfl
  · rw [within_f S1 me (by omega) h1 h2 (by omega) (by omega), if_neg h]
    rfl
theorem hasReading_v {me : ME} {A : AS} (hR : RepC me A) (hA : ASok A) {x : Int} (h1 : -2147483648 ≤ x) (h2 : x ≤ 2147483647) : mX9_hasReading S1 me 0 (iv x) = some (if 0 ≤ x ∧ x < A.2.2.1.1 then 1 else 0, me) := by
  have hn := hA.2.2.1.1
  unfold mX9_hasReading
  simp only [rS_0_3, Option.bind_some, gI_k kS_14, hR.2.2.1.1, show (1 : Int32) = iv 1 from rfl, iv_sub]
  by_cases h : 0 ≤ x ∧ x < A.2.2.1.1
  · rw [within_t S1 me ⟨h.1, by omega⟩ (by omega), if_pos h]
    rfl
  · rw [within_f S1 me (by omega) h1 h2 (by omega) (by omega), if_neg h]
    rfl
theorem isStation_v {me : ME} {A : AS} (hR : RepM me A) (hA : ASok A) {x : Int} (h1 : -2147483648 ≤ x) (h2 : x ≤ 2147483647) : mX10_isStation S1 me 91 (iv x) = some (if 0 ≤ x ∧ x < A.2.1.1 then 1 else 0, me) := by
  have hn := hA.2.1.1
  unfold mX10_isStation
  simp only [Option.bind_some, gI_k kS_91, hR.2.1.1, show (1 : Int32) = iv 1 from rfl, show (0 : Int32) = iv 0 from rfl, iv_sub]
  by_cases h : 0 ≤ x ∧ x < A.2.1.1
  · rw [in_t S1 me ⟨h.1, by omega⟩ (by omega) (by omega), if_pos h]
    rfl
  · rw [in_f S1 me (by omega) h1 h2 (by omega) (by omega) (by omega) (by omega), if_neg h]
    rfl
theorem isReading_v {me : ME} {A : AS} (hR : RepM me A) (hA : ASok A) {x : Int} (h1 : -2147483648 ≤ x) (h2 : x ≤ 2147483647) : mX10_isReading S1 me 91 (iv x) = some (if 0 ≤ x ∧ x < A.2.2.1.1 then 1 else 0, me) := by
  have hn := hA.2.2.1.1
  unfold mX10_isReading
  simp only [Option.bind_some, rS_91_3, show (1 : Int32) = iv 1 from rfl, show (0 : Int32) = iv 0 from rfl, aI_k kS_94 lS_94 (i := 0) (by omega) (by omega) (by omega), show (0 : Int).toNat = 0 from rfl, hR.2.2.1.1, iv_sub]
  by_cases h : 0 ≤ x ∧ x < A.2.2.1.1
  · rw [in_t S1 me ⟨h.1, by omega⟩ (by omega) (by omega), if_pos h]
    rfl
  · rw [in_f S1 me (by omega) h1 h2 (by omega) (by omega) (by omega) (by omega), if_neg h]
    rfl
/-- hears -/
def spHears (x y : Int) (A : AS) : Int × AS := if (0 ≤ x ∧ x < A.2.1.1) ∧ 0 ≤ y ∧ y ≤ 60 then (if A.2.2.1.1 < 9 then (A.2.2.1.1, (A.1, A.2.1, lgAdd A.2.2.1 x.toNat y.toNat, push A.2.2.1 A.2.2.2.1, A.2.2.2.2)) else (-3, A)) else (-1, A)
theorem push_ok {ns : Nat} {g : LG} {ps : List LG} (hg : LogOK ns g) (h : ps.length ≤ 10 ∧ ∀ g ∈ ps, LogOK ns g) : (push g ps).length ≤ 10 ∧ ∀ g' ∈ push g ps, LogOK ns g' := by
  refine ⟨by rw [push_len g h.1]; split <;> omega, fun g' hm => ?_⟩
  rcases List.mem_cons.mp (List.mem_of_mem_take hm) with rfl | q
  · exact hg
  · exact h.2 g' q
theorem ok_hears (x y : Int) : OpOK (spHears x y) := by
  intro A h
  unfold spHears
  by_cases h1 : (0 ≤ x ∧ x < A.2.1.1) ∧ 0 ≤ y ∧ y ≤ 60
  · by_cases h2 : A.2.2.1.1 < 9
    · rw [if_pos h1, if_pos h2]
      refine ⟨h.1, h.2.1, ⟨by show A.2.2.1.1 + 1 ≤ 9; omega, fun k hk => ?_, h.2.2.1.2.2⟩, push_ok h.2.2.1 h.2.2.2.1, h.2.2.2.2⟩
      have hk : k < A.2.2.1.1 + 1 := hk
      show va_up A.2.2.1.2.1 A.2.2.1.1 x.toNat k < A.2.1.1 ∧ va_up A.2.2.1.2.2.1 A.2.2.1.1 y.toNat k ≤ 60
      by_cases e : k = A.2.2.1.1
      · subst e; simp [va_up]; omega
      · simp [va_up, e]; exact h.2.2.1.2.1 k (by omega)
    · rw [if_pos h1, if_neg h2]; exact h
  · rw [if_neg h1]; exact h
theorem C_hears {x y : Int} (h1 : -2147483648 ≤ x) (h2 : x ≤ 2147483647) (h3 : -2147483648 ≤ y) (h4 : y ≤ 2147483647) : OpC (fun me => mX9_hears S1 me 0 (iv x) (iv y)) (spHears x y) := by
  intro me A hR hA
  have hn := hA.2.2.1.1
  have hns := hA.2.1.1
  unfold mX9_hears mX9_hears_j17 spHears
  simp only [ck_s kS_0, Option.bind_some, hasStation_v hR hA h1 h2]
  by_cases hx : 0 ≤ x ∧ x < A.2.1.1
  · simp only [if_pos hx]
    rw [if_neg (by decide)]
    by_cases hy : 0 ≤ y ∧ y ≤ 60
    · simp only [show (60 : Int32) = iv 60 from rfl, within_t S1 me hy (by omega), Option.bind_some]
      rw [if_neg (by decide), if_pos ⟨hx, hy⟩]
      simp only [rS_0_3, rS_0_4, Option.bind_some, gI_k kS_14, hR.2.2.1.1, show (9 : Int32) = iv 9 from rfl]
      by_cases hl : A.2.2.1.1 < 9
      · rw [if_pos hl, if_pos (by rw [iv_lt (by omega) (by omega) (by omega) (by omega)]; omega)]
        obtain ⟨m1, p1, p2, p3, p4⟩ := C_push hR.2.2.2.1 hA.2.2.2.1.1 hR.2.2.1 (by omega) hns
        have hR1 := hR.past (fun r _ h => p3 r h) p2
        obtain ⟨m2, q1, q2, q3, q4⟩ := L_append (o := 14) isLog_14 hR1.2.2.1 hl x.toNat y.toNat
        rw [show ((x.toNat : Nat) : Int) = x by omega, show ((y.toNat : Nat) : Int) = y by omega] at q1
        simp only [ck_s kS_18, ck_s kS_14, p1, q1, Option.bind_some, gI_k kS_14, q2.1, show (1 : Int32) = iv 1 from rfl, iv_sub]
        refine ⟨m2, ?_, hR1.log (fun r _ h => q3 r (by omega)) q2, fun r hr => ⟨?_, ?_⟩⟩
        · rw [show (((lgAdd A.2.2.1 x.toNat y.toNat).1 : Nat) : Int) - 1 = (A.2.2.1.1 : Int) by show ((A.2.2.1.1 + 1 : Nat) : Int) - 1 = _; omega]
        · rw [q3 r (by omega), p3 r (by omega)]
        · rw [q4, p4]
      · rw [if_neg hl, if_neg (by rw [iv_lt (by omega) (by omega) (by omega) (by omega)]; omega)]
        exact ⟨me, rfl, hR, EqM.rfl'⟩
    · simp only [show (60 : Int32) = iv 60 from rfl, within_f S1 me hy h3 h4 (by omega) (by omega), Option.bind_some]
      rw [if_pos trivial, if_neg (fun q => hy q.2)]
      exact ⟨me, rfl, hR, EqM.rfl'⟩
  · simp only [if_neg hx]
    rw [if_pos trivial, if_neg (fun q => hx q.1)]
    exact ⟨me, rfl, hR, EqM.rfl'⟩
/-- strikes -/
def spStrikes (x : Int) (A : AS) : Int × AS := if 0 ≤ x ∧ x < A.2.2.1.1 then ((A.2.2.1.1 : Int) - 1, (A.1, A.2.1, lgDel A.2.2.1 x.toNat, push A.2.2.1 A.2.2.2.1, A.2.2.2.2)) else (-1, A)
theorem ok_strikes (x : Int) : OpOK (spStrikes x) := by
  intro A h
  unfold spStrikes
  by_cases h1 : 0 ≤ x ∧ x < A.2.2.1.1
  · rw [if_pos h1]
    have hn := h.2.2.1.1
    refine ⟨h.1, h.2.1, ⟨by show A.2.2.1.1 - 1 ≤ 9; omega, fun k hk => ?_, h.2.2.1.2.2⟩, push_ok h.2.2.1 h.2.2.2.1, h.2.2.2.2⟩
    have hk : k < A.2.2.1.1 - 1 := hk
    show (if x.toNat ≤ k then A.2.2.1.2.1 (k + 1) else A.2.2.1.2.1 k) < A.2.1.1 ∧ (if x.toNat ≤ k then A.2.2.1.2.2.1 (k + 1) else A.2.2.1.2.2.1 k) ≤ 60
    by_cases e : x.toNat ≤ k
    · rw [if_pos e, if_pos e]; exact h.2.2.1.2.1 (k + 1) (by omega)
    · rw [if_neg e, if_neg e]; exact h.2.2.1.2.1 k (by omega)
  · rw [if_neg h1]; exact h
theorem C_strikes {x : Int} (h1 : -2147483648 ≤ x) (h2 : x ≤ 2147483647) : OpC (fun me => mX9_strikes S1 me 0 (iv x)) (spStrikes x) := by
  intro me A hR hA
  have hn := hA.2.2.1.1
  have hns := hA.2.1.1
  unfold mX9_strikes spStrikes
  simp only [ck_s kS_0, Option.bind_some, hasReading_v hR hA h1 h2]
  by_cases hx : 0 ≤ x ∧ x < A.2.2.1.1
  · simp only [if_pos hx]
    rw [if_neg (by decide)]
    obtain ⟨m1, p1, p2, p3, p4⟩ := C_push hR.2.2.2.1 hA.2.2.2.1.1 hR.2.2.1 (by omega) hns
    have hR1 := hR.past (fun r _ h => p3 r h) p2
    obtain ⟨m2, q1, q2, q3, q4⟩ := L_remove (o := 14) isLog_14 hR1.2.2.1 hn (k := x.toNat) (by show x.toNat < A.2.2.1.1; omega)
    rw [show ((x.toNat : Nat) : Int) = x by omega] at q1
    simp only [rS_0_3, rS_0_4, ck_s kS_18, ck_s kS_14, p1, q1, Option.bind_some, gI_k kS_14, q2.1]
    refine ⟨m2, ?_, hR1.log (fun r _ h => q3 r (by omega)) q2, fun r hr => ⟨?_, ?_⟩⟩
    · rw [show (((lgDel A.2.2.1 x.toNat).1 : Nat) : Int) = (A.2.2.1.1 : Int) - 1 by show ((A.2.2.1.1 - 1 : Nat) : Int) = _; omega]
    · rw [q3 r (by omega), p3 r (by omega)]
    · rw [q4, p4]
  · simp only [if_neg hx]
    rw [if_pos trivial]
    exact ⟨me, rfl, hR, EqM.rfl'⟩
/-- sets -/
def lgSet (g : LG) (s c : Nat) : LG := (g.1, g.2.1, g.2.2.1, va_up g.2.2.2 s c)
def spSets (x y : Int) (A : AS) : Int × AS := if (0 ≤ x ∧ x < A.2.1.1) ∧ 0 ≤ y ∧ y ≤ 4 then (if (A.2.2.1.2.2.2 x.toNat : Int) = y then (-2, A) else (A.2.2.1.2.2.2 x.toNat, (A.1, A.2.1, lgSet A.2.2.1 x.toNat y.toNat, push A.2.2.1 A.2.2.2.1, A.2.2.2.2))) else (-1, A)
theorem ok_sets (x y : Int) : OpOK (spSets x y) := by
  intro A h
  unfold spSets
  by_cases h1 : (0 ≤ x ∧ x < A.2.1.1) ∧ 0 ≤ y ∧ y ≤ 4
  · by_cases h2 : (A.2.2.1.2.2.2 x.toNat : Int) = y
    · rw [if_pos h1, if_pos h2]; exact h
    · rw [if_pos h1, if_neg h2]
      refine ⟨h.1, h.2.1, ⟨h.2.2.1.1, h.2.2.1.2.1, fun s hs => ?_⟩, push_ok h.2.2.1 h.2.2.2.1, h.2.2.2.2⟩
      show va_up A.2.2.1.2.2.2 x.toNat y.toNat s ≤ 4
      by_cases e : s = x.toNat
      · subst e; simp [va_up]; omega
      · simp [va_up, e]; exact h.2.2.1.2.2 s hs
  · rw [if_neg h1]; exact h
theorem C_sets {x y : Int} (h1 : -2147483648 ≤ x) (h2 : x ≤ 2147483647) (h3 : -2147483648 ≤ y) (h4 : y ≤ 2147483647) : OpC (fun me => mX9_sets S1 me 0 (iv x) (iv y)) (spSets x y) := by
  intro me A hR hA
  have hn := hA.2.2.1.1
  have hns := hA.2.1.1
  unfold mX9_sets mX9_sets_j16 spSets
  simp only [ck_s kS_0, Option.bind_some, hasStation_v hR hA h1 h2]
  by_cases hx : 0 ≤ x ∧ x < A.2.1.1
  · simp only [if_pos hx]
    rw [if_neg (by decide)]
    by_cases hy : 0 ≤ y ∧ y ≤ 4
    · simp only [show (4 : Int32) = iv 4 from rfl, within_t S1 me hy (by omega), Option.bind_some]
      rw [if_neg (by decide), if_pos ⟨hx, hy⟩]
      have hc := hR.2.2.1.2.2 x.toNat (by omega)
      have hc4 := hA.2.2.1.2.2 x.toNat (by omega)
      simp only [rS_0_3, rS_0_4, rS_14_2, Option.bind_some, aI_k kS_17 lS_17 (i := x) (by omega) (by omega) (by omega), hc]
      by_cases he : (A.2.2.1.2.2.2 x.toNat : Int) = y
      · rw [if_pos he, if_pos (by rw [he])]
        exact ⟨me, rfl, hR, EqM.rfl'⟩
      · rw [if_neg he, if_neg (by rw [iv_eq (by omega) (by omega) (by omega) (by omega)]; exact he)]
        obtain ⟨m1, p1, p2, p3, p4⟩ := C_push hR.2.2.2.1 hA.2.2.2.1.1 hR.2.2.1 (by omega) hns
        have hR1 := hR.past (fun r _ h => p3 r h) p2
        simp only [ck_s kS_18, p1, Option.bind_some, uI_k kS_17 lS_17 (i := x) (by omega) (by omega) (by omega)]
        have hU : ∀ r, r ≠ 17 → up2 m1.1 17 x.toNat (iv y) r = m1.1 r := fun r h => up2_r _ _ _ h
        refine ⟨(up2 m1.1 17 x.toNat (iv y), m1.2), rfl, hR1.log (fun r _ h => hU r (by omega)) ⟨?_, fun k hk => ⟨?_, ?_⟩, fun s hs => ?_⟩, fun r hr => ⟨?_, ?_⟩⟩
        · show up2 m1.1 17 x.toNat (iv y) 14 3 = _
          rw [hU 14 (by omega)]; exact hR1.2.2.1.1
        · show up2 m1.1 17 x.toNat (iv y) 15 k = _
          rw [hU 15 (by omega)]; exact (hR1.2.2.1.2.1 k hk).1
        · show up2 m1.1 17 x.toNat (iv y) 16 k = _
          rw [hU 16 (by omega)]; exact (hR1.2.2.1.2.1 k hk).2
        · show up2 m1.1 17 x.toNat (iv y) 17 s = iv ((va_up A.2.2.1.2.2.2 x.toNat y.toNat s : Nat) : Int)
          by_cases e : s = x.toNat
          · subst e; rw [up2_s]; simp [va_up]; rw [show max y 0 = y by omega]
          · rw [up2_k _ _ _ _ e]; simp [va_up, e]; exact hR1.2.2.1.2.2 s hs
        · show up2 m1.1 17 x.toNat (iv y) r = _
          rw [hU r (by omega), p3 r (by omega)]
        · show m1.2 r = _
          rw [p4]
    · simp only [show (4 : Int32) = iv 4 from rfl, within_f S1 me hy h3 h4 (by omega) (by omega), Option.bind_some]
      rw [if_pos trivial, if_neg (fun q => hy q.2)]
      exact ⟨me, rfl, hR, EqM.rfl'⟩
  · simp only [if_neg hx]
    rw [if_pos trivial, if_neg (fun q => hx q.1)]
    exact ⟨me, rfl, hR, EqM.rfl'⟩
/-- undo -/
def spUndo (A : AS) : Int × AS := match A.2.2.2.1 with
  | [] => (-2, A)
  | g :: ps => (ps.length, (A.1, A.2.1, g, ps, A.2.2.2.2))
theorem ok_undo : OpOK spUndo := by
  intro A h
  obtain ⟨tx, st, lg, ps, im⟩ := A
  obtain ⟨h1, h2, h3, h4, h5⟩ := h
  cases ps with
  | nil => exact ⟨h1, h2, h3, h4, h5⟩
  | cons g ps => exact ⟨h1, h2, h4.2 g List.mem_cons_self, ⟨by have := h4.1; rw [List.length_cons] at this; show ps.length ≤ 10; omega, fun g' hg' => h4.2 g' (List.mem_cons_of_mem _ hg')⟩, h5⟩
theorem C_undo : OpC (fun me => mX9_undo S1 me 0) spUndo := by
  intro me A hR hA
  obtain ⟨tx, st, lg, ps, im⟩ := A
  unfold mX9_undo
  obtain ⟨nx, n1, n2, n3, n4⟩ := id hR.2.2.2.1
  have hl := hA.2.2.2.1.1
  have hl : ps.length ≤ 10 := hl
  have n3 : me.1 18 2 = iv ps.length := n3
  simp only [rS_0_4, Option.bind_some, gI_k kS_18, n3]
  cases ps with
  | nil =>
    rw [if_neg (by decide)]
    exact ⟨me, rfl, hR, EqM.rfl'⟩
  | cons g ps =>
    have hl : ps.length + 1 ≤ 10 := by rw [List.length_cons] at hl; exact hl
    rw [if_pos (by rw [show (0 : Int32) = iv 0 from rfl, iv_lt (by omega) (by omega) (by omega) (by rw [List.length_cons]; omega), List.length_cons]; omega)]
    have hgo := hA.2.2.2.1.2 g List.mem_cons_self
    obtain ⟨m1, p1, p2, p3, p4, p5⟩ := C_pop (g := g) (ps := ps) hR.2.2.2.1 (by omega) hgo.1 hA.2.1.1
    obtain ⟨nx', z1, z2, z3, z4⟩ := id p2
    simp only [rS_0_3, Option.bind_some, ck_s kS_18, p1, gI_k kS_18, z3]
    refine ⟨m1, rfl, ⟨hR.1.keep (p4 _ (by omega)) (p4 _ (by omega)), hR.2.1.keep (p4 _ (by omega)) (p4 _ (by omega)) (p4 _ (by omega)), p3, p2, hR.2.2.2.2.keep (p4 _ (by omega)) (fun r r1 r2 => p4 r (by omega))⟩, fun r hr => ⟨p4 r (by omega), by rw [p5]⟩⟩
/-- keep -/
def spKeep (x : Int) (A : AS) : Int × AS := if 0 ≤ x ∧ x ≤ 1 then (A.2.2.1.1, (A.1, A.2.1, A.2.2.1, A.2.2.2.1, va_up A.2.2.2.2 x.toNat (some A.2.2.1))) else (-1, A)
theorem ok_keep (x : Int) : OpOK (spKeep x) := by
  intro A h
  unfold spKeep
  by_cases h1 : 0 ≤ x ∧ x ≤ 1
  · rw [if_pos h1]
    refine ⟨h.1, h.2.1, h.2.2.1, h.2.2.2.1, fun i g hg => ?_⟩
    have hg : va_up A.2.2.2.2 x.toNat (some A.2.2.1) i = some g := hg
    by_cases e : i = x.toNat
    · subst e; simp [va_up] at hg; subst hg; exact h.2.2.1
    · simp [va_up, e] at hg; exact h.2.2.2.2 i g hg
  · rw [if_neg h1]; exact h
theorem nar1 : vp_nar .boolean (iv 1) = iv 1 := by decide
theorem C_keep {x : Int} (h1 : -2147483648 ≤ x) (h2 : x ≤ 2147483647) : OpC (fun me => mX9_keep S1 me 0 (iv x)) (spKeep x) := by
  intro me A hR hA
  have hn := hA.2.2.1.1
  have hns := hA.2.1.1
  unfold mX9_keep spKeep
  by_cases hx : 0 ≤ x ∧ x ≤ 1
  · simp only [show (1 : Int32) = iv 1 from rfl, within_t S1 me hx (by omega), Option.bind_some]
    rw [if_neg (by decide), if_pos hx]
    have hi : x.toNat < 2 := by omega
    have hr := img_at x.toNat hi
    rw [iv_nI, show ((x.toNat : Nat) : Int) = x by omega] at hr
    obtain ⟨m1, p1, p2, p3, p4⟩ := L_copy (o := 83 + 4 * x.toNat) (isLog_img _ hi) isLog_14 (by omega) hR.2.2.1 hn hns
    have hU : ∀ r, r ≠ 61 → up2 m1.1 61 x.toNat (iv 1) r = m1.1 r := fun r h => up2_r _ _ _ h
    have hE : ∀ r, r ≠ 61 → ¬ (83 + 4 * x.toNat ≤ r ∧ r ≤ 83 + 4 * x.toNat + 3) → up2 m1.1 61 x.toNat (iv 1) r = me.1 r := fun r h h' => (hU r h).trans (p3 r h')
    have hE' : ∀ r, r ≠ 61 → ¬ (83 + 4 * x.toNat ≤ r ∧ r ≤ 83 + 4 * x.toNat + 3) → ((up2 m1.1 61 x.toNat (iv 1), m1.2) : ME).1 r = me.1 r := hE
    have hU' : ∀ r, r ≠ 61 → ((up2 m1.1 61 x.toNat (iv 1), m1.2) : ME).1 r = m1.1 r := hU
    simp only [rS_0_3, rS_0_5, rS_0_6, Option.bind_some, hr, ck_s (isLog_img _ hi).1, p1, uZ_k kS_61 lS_61 (i := x) (by omega) (by omega) (by omega), nar1, gI_k kS_14, hE 14 (by omega) (by omega), hR.2.2.1.1]
    refine ⟨(up2 m1.1 61 x.toNat (iv 1), m1.2), rfl, ⟨hR.1.keep (hE' _ (by omega) (by omega)) (hE' _ (by omega) (by omega)), hR.2.1.keep (hE' _ (by omega) (by omega)) (hE' _ (by omega) (by omega)) (hE' _ (by omega) (by omega)), hR.2.2.1.keep (hE' _ (by omega) (by omega)) (hE' _ (by omega) (by omega)) (hE' _ (by omega) (by omega)) (hE' _ (by omega) (by omega)), hR.2.2.2.1.keep (fun r r1 r2 => hE' r (by omega) (by omega)), fun i hi2 => ?_⟩, fun r hr2 => ⟨hE' r (by omega) (by omega), by show m1.2 r = _; rw [p4]⟩⟩
    by_cases e : i = x.toNat
    · subst e
      refine Or.inr ⟨A.2.2.1, by simp [va_up], up2_s m1.1 61 _ _, p2.keep (hU' _ (by omega)) (hU' _ (by omega)) (hU' _ (by omega)) (hU' _ (by omega))⟩
    · have e61 : up2 m1.1 61 x.toNat (iv 1) 61 i = me.1 61 i := by rw [up2_k _ _ _ _ e, p3 61 (by omega)]
      rcases hR.2.2.2.2 i hi2 with ⟨q1, q2⟩ | ⟨g, q1, q2, q3⟩
      · exact Or.inl ⟨by simp [va_up, e]; exact q1, e61.trans q2⟩
      · exact Or.inr ⟨g, by simp [va_up, e]; exact q1, e61.trans q2, q3.keep (hE' _ (by omega) (by omega)) (hE' _ (by omega) (by omega)) (hE' _ (by omega) (by omega)) (hE' _ (by omega) (by omega))⟩
  · simp only [show (1 : Int32) = iv 1 from rfl, within_f S1 me hx h1 h2 (by omega) (by omega), Option.bind_some]
    rw [if_pos trivial, if_neg hx]
    exact ⟨me, rfl, hR, EqM.rfl'⟩
/-- back -/
def spBack (x : Int) (A : AS) : Int × AS := if 0 ≤ x ∧ x ≤ 1 then (match A.2.2.2.2 x.toNat with
  | none => (-2, A)
  | some g => (g.1, (A.1, A.2.1, g, [], A.2.2.2.2))) else (-1, A)
theorem ok_back (x : Int) : OpOK (spBack x) := by
  intro A h
  unfold spBack
  by_cases h1 : 0 ≤ x ∧ x ≤ 1
  · rw [if_pos h1]
    cases hg : A.2.2.2.2 x.toNat with
    | none => exact h
    | some g => exact ⟨h.1, h.2.1, h.2.2.2.2 _ g hg, ⟨Nat.zero_le _, fun g hg => by cases hg⟩, h.2.2.2.2⟩
  · rw [if_neg h1]; exact h
theorem C_back {x : Int} (h1 : -2147483648 ≤ x) (h2 : x ≤ 2147483647) : OpC (fun me => mX9_back S1 me 0 (iv x)) (spBack x) := by
  intro me A hR hA
  have hns := hA.2.1.1
  unfold mX9_back spBack
  by_cases hx : 0 ≤ x ∧ x ≤ 1
  · simp only [show (1 : Int32) = iv 1 from rfl, within_t S1 me hx (by omega), Option.bind_some]
    rw [if_neg (by decide), if_pos hx]
    have hi : x.toNat < 2 := by omega
    simp only [rS_0_6, Option.bind_some, aI_k kS_61 lS_61 (i := x) (by omega) (by omega) (by omega)]
    rcases hR.2.2.2.2 x.toNat hi with ⟨q1, q2⟩ | ⟨g, q1, q2, q3⟩
    · rw [q1, q2, if_pos rfl]
      exact ⟨me, rfl, hR, EqM.rfl'⟩
    · rw [q1, q2, if_neg (by decide)]
      have hg := hA.2.2.2.2 _ g q1
      have hr := img_at x.toNat hi
      rw [iv_nI, show ((x.toNat : Nat) : Int) = x by omega] at hr
      obtain ⟨m1, p1, p2, p3, p4⟩ := L_copy (o := 14) isLog_14 (isLog_img _ hi) (by omega) q3 hg.1 hns
      have hU : ∀ r, r ≠ 18 → up2 m1.1 18 2 (iv 0) r = m1.1 r := fun r h => up2_r _ _ _ h
      have hE : ∀ r, r ≠ 18 → ¬ (14 ≤ r ∧ r ≤ 17) → up2 m1.1 18 2 (iv 0) r = me.1 r := fun r h h' => (hU r h).trans (p3 r h')
      have hE' : ∀ r, r ≠ 18 → ¬ (14 ≤ r ∧ r ≤ 17) → ((up2 m1.1 18 2 (iv 0), m1.2) : ME).1 r = me.1 r := hE
      have hU' : ∀ r, r ≠ 18 → ((up2 m1.1 18 2 (iv 0), m1.2) : ME).1 r = m1.1 r := hU
      obtain ⟨nx, n1, n2, n3, n4⟩ := hR.2.2.2.1
      simp only [rS_0_3, rS_0_4, rS_0_5, Option.bind_some, hr, ck_s kS_14, p1, show (0 : Int32) = iv 0 from rfl, sI_k kS_18, gI_k kS_14, hU 14 (by omega), p2.1]
      refine ⟨(up2 m1.1 18 2 (iv 0), m1.2), rfl, ⟨hR.1.keep (hE' _ (by omega) (by omega)) (hE' _ (by omega) (by omega)), hR.2.1.keep (hE' _ (by omega) (by omega)) (hE' _ (by omega) (by omega)) (hE' _ (by omega) (by omega)), p2.keep (hU' _ (by omega)) (hU' _ (by omega)) (hU' _ (by omega)) (hU' _ (by omega)), ⟨nx, n1, ?_, up2_s m1.1 18 2 _, fun t g' h => by simp at h⟩, hR.2.2.2.2.keep (hE' _ (by omega) (by omega)) (fun r r1 r2 => hE' r (by omega) (by omega))⟩, fun r hr2 => ⟨hE' r (by omega) (by omega), by show m1.2 r = _; rw [p4]⟩⟩
      show up2 m1.1 18 2 (iv 0) 18 1 = _
      rw [up2_k _ _ _ _ (by decide), p3 18 (by omega)]
      exact n2
  · simp only [show (1 : Int32) = iv 1 from rfl, within_f S1 me hx h1 h2 (by omega) (by omega), Option.bind_some]
    rw [if_pos trivial, if_neg hx]
    exact ⟨me, rfl, hR, EqM.rfl'⟩
