/-! ===== field of the class ===== -/
def spField (A : AS) : Int × AS := match prs A.1 111 0 st0 0 with
  | .inl f => (-10 - (f : Int), A)
  | .inr r => ((r.1 : Int), ((0, A.1.2), r.2.1, r.2.2, [], fun _ => none))
theorem spF_l {A : AS} {f : Nat} (e : prs A.1 111 0 st0 0 = .inl f) : spField A = (-10 - (f : Int), A) := by unfold spField; rw [e]
theorem spF_r {A : AS} {r : Nat × PS} (e : prs A.1 111 0 st0 0 = .inr r) : spField A = ((r.1 : Int), ((0, A.1.2), r.2.1, r.2.2, [], fun _ => none)) := by unfold spField; rw [e]
theorem ok_field : OpOK spField := by
  intro A h
  cases e : prs A.1 111 0 st0 0 with
  | inl f => rw [spF_l e]; exact h
  | inr r =>
    rw [spF_r e]
    have hr := prs_ok 111 0 st0 0 (Nat.zero_le _) st0_ok r e
    exact ⟨Nat.zero_le _, hr.1, hr.2, ⟨Nat.zero_le _, fun g hg => by cases hg⟩, fun i g hg => by cases hg⟩
theorem site_copy {me : ME} {s : Nat × (Nat → Nat) × (Nat → Nat)} (h : me.1 4 2 = iv s.1) (h2 : ∀ j, j < s.1 → me.1 5 j = iv (s.2.1 j) ∧ me.1 6 j = iv (s.2.2 j)) (hn : s.1 ≤ 6) : ∃ me1 : ME, mX6_copy S1 me 11 4 = some ((), me1) ∧ StC me1 s ∧ (∀ r, ¬ (11 ≤ r ∧ r ≤ 13) → me1.1 r = me.1 r) ∧ me1.2 = me.2 := by
  unfold mX6_copy
  simp only [rS_4_0, rS_4_1, rS_11_0, rS_11_1, bs, show (0 : Int32) = iv 0 from rfl, show (6 : Int32) = iv 6 from rfl, cpI_k kS_5 kS_12 lS_5 lS_12 (n := 6) (by omega) (by omega) (by omega) (by omega), cpI_k kS_6 kS_13 lS_6 lS_13 (n := 6) (by omega) (by omega) (by omega) (by omega), gI_k kS_4, sI_k kS_11]
  refine ⟨_, rfl, ⟨?_, fun j hj => ⟨?_, ?_⟩⟩, fun r hr => ?_, rfl⟩
  · simp [up2, va_up, h]
  · have e : j < 6 := by omega
    simp [up2, va_up, va_cpy, e, (h2 j hj).1]
  · have e : j < 6 := by omega
    simp [up2, va_up, va_cpy, e, (h2 j hj).2]
  · funext j
    simp [up2, va_up, show r ≠ 11 by omega, show r ≠ 12 by omega, show r ≠ 13 by omega]
theorem nar0 : vp_nar .boolean (0 : Int32) = 0 := by decide
theorem C_field : OpC (fun me => mX9_field S1 me 0) spField := by
  intro me A hR hA
  obtain ⟨b, m1, a1, a2, a3⟩ := parse_v hR.1 hA.1
  show ∃ me1 : ME, mX9_field S1 me 0 = _ ∧ _
  unfold mX9_field
  simp only [rS_0_0, rS_0_1, bs, ck_s kS_3, a1]
  rcases a3 with ⟨f, e, hf, rfl⟩ | ⟨it, st, e, rfl, h32, hP⟩
  · rw [spF_l e, if_neg (show ¬ iv (f : Int) = (-1 : Int32) by rw [show (-1 : Int32) = iv (-1) by decide, iv_eq (by omega) (by omega) (by omega) (by omega)]; omega)]
    refine ⟨m1, ?_, ?_, fun r hr => ⟨a2.1 r (by omega), by rw [a2.2]⟩⟩
    · rw [show (-10 : Int32) = iv (-10) by decide, iv_sub]
    · obtain ⟨hTx, hSt, hLg, hPa, hIm⟩ := hR
      exact ⟨hTx.keep (a2.1 _ (by omega)) (a2.1 _ (by omega)), hSt.keep (a2.1 _ (by omega)) (a2.1 _ (by omega)) (a2.1 _ (by omega)), hLg.keep (a2.1 _ (by omega)) (a2.1 _ (by omega)) (a2.1 _ (by omega)) (a2.1 _ (by omega)), hPa.keep (fun r r1 r2 => a2.1 r (by omega)), hIm.keep (a2.1 _ (by omega)) (fun r r1 r2 => a2.1 r (by omega))⟩
  · have hok := prs_ok 111 0 st0 0 (Nat.zero_le _) st0_ok _ e
    rw [spF_r e, if_pos (show (-1 : Int32) = -1 from rfl)]
    obtain ⟨m2, c1, c2, c3, c4⟩ := site_copy (s := st.1) hP.1.1 hP.1.2 hok.1.1
    have hL2 : LogC m2 7 st.1.1 st.2 := hP.2.keep (c3 _ (by omega)) (c3 _ (by omega)) (c3 _ (by omega)) (c3 _ (by omega))
    obtain ⟨m3, d1, d2, d3, d4⟩ := L_copy (o := 14) (a := 7) isLog_14 isLog_7 (by omega) hL2 hok.2.1 hok.1.1
    simp only [rS_0_2, rS_0_3, rS_0_4, rS_3_0, rS_3_1, bs, ck_s kS_11, ck_s kS_14, c1, d1, sI_k kS_18]
    obtain ⟨nx, n1, n2, n3, n4⟩ := hR.2.2.2.1
    refine lpn_Q (Q := fun X => ∃ me1 : ME, X = some (iv (((it, st) : Nat × PS).1 : Int), me1) ∧ RepC me1 ((0, A.1.2), ((it, st) : Nat × PS).2.1, ((it, st) : Nat × PS).2.2, [], fun _ => none) ∧ EqM me me1) (P := fun i s => ∃ m : ME, s = (m, iv i) ∧ (∀ k, k < i → m.1 61 k = 0) ∧ (∀ r, r ≠ 61 → m.1 r = up2 m3.1 18 2 0 r) ∧ m.2 = m3.2) (e := 2) ?_ ?_ 2 0 lpF _ (by omega) (by unfold lpF; omega) ⟨_, rfl, fun k hk => absurd hk (Nat.not_lt_zero k), fun r _ => rfl, rfl⟩
    · rintro i s kk hi ⟨m, rfl, q1, q2, q3⟩
      refine ⟨((up2 m.1 61 i 0, m.2), iv ((i + 1 : Nat) : Int)), ⟨_, rfl, fun k hk => ?_, fun r hr => (up2_r m.1 _ _ hr).trans (q2 r hr), q3⟩, ?_⟩
      · show up2 m.1 61 i 0 61 k = 0
        by_cases ek : k = i
        · subst ek; exact up2_s m.1 61 k 0
        · rw [up2_k _ _ _ _ ek]; exact q1 k (by omega)
      · unfold mX9_field_L60
        simp only []
        rw [if_neg (show ¬ (2 : Int32) ≤ iv (i : Int) by rw [show (2 : Int32) = iv 2 from rfl, iv_le (by omega) (by omega) (by omega) (by omega)]; omega)]
        simp only [rS_0_6, bs, uZ_k kS_61 lS_61 (i := (i : Int)) (by omega) (by omega) (by omega), Int.toNat_natCast, nar0, show (1 : Int32) = iv 1 from rfl, iv_add]
        rfl
    · rintro s kk ⟨m, rfl, q1, q2, q3⟩
      unfold mX9_field_L60 mX9_field_j78
      simp only []
      rw [if_pos (show (2 : Int32) ≤ iv ((2 : Nat) : Int) by decide)]
      have E : ∀ r, r ≠ 61 → r ≠ 18 → ¬ (14 ≤ r ∧ r ≤ 17) → m.1 r = m2.1 r := fun r r1 r2 r3 => ((q2 r r1).trans (up2_r m3.1 _ _ r2)).trans (d3 r (by omega))
      have E2 : ∀ r, r ≠ 61 → r ≠ 18 → ¬ (14 ≤ r ∧ r ≤ 17) → ¬ (11 ≤ r ∧ r ≤ 13) → m.1 r = m1.1 r := fun r r1 r2 r3 r4 => (E r r1 r2 r3).trans (c3 r r4)
      have E3 : ∀ r, 14 ≤ r → r ≤ 17 → m.1 r = m3.1 r := fun r r1 r2 => (q2 r (by omega)).trans (up2_r m3.1 _ _ (by omega))
      have e32 : up2 m.1 1 1 0 3 2 = iv (it : Int) := (congrFun (E2 3 (by omega) (by omega) (by omega) (by omega)) 2).trans h32
      simp only [rS_0_0, rS_0_1, bs, sI_k kS_1, gI_k kS_3, e32]
      have U : ∀ r, r ≠ 1 → ((up2 m.1 1 1 0, m.2) : ME).1 r = m.1 r := fun r h => up2_r m.1 _ _ h
      refine ⟨(up2 m.1 1 1 0, m.2), rfl, ⟨⟨rfl, fun i hi => absurd hi (Nat.not_lt_zero i)⟩, ?_, ?_, ⟨nx, n1, ?_, ?_, fun t g hg => by simp at hg⟩, fun i hi => Or.inl ⟨rfl, ?_⟩⟩, fun r hr => ⟨?_, ?_⟩⟩
      · exact c2.keep ((U 11 (by omega)).trans (E 11 (by omega) (by omega) (by omega))) ((U 12 (by omega)).trans (E 12 (by omega) (by omega) (by omega))) ((U 13 (by omega)).trans (E 13 (by omega) (by omega) (by omega)))
      · exact d2.keep ((U 14 (by omega)).trans (E3 14 (by omega) (by omega))) ((U 15 (by omega)).trans (E3 15 (by omega) (by omega))) ((U 16 (by omega)).trans (E3 16 (by omega) (by omega))) ((U 17 (by omega)).trans (E3 17 (by omega) (by omega)))
      · rw [U 18 (by omega), q2 18 (by omega), up2_k _ _ _ _ (by decide), d3 18 (by omega), c3 18 (by omega), a2.1 18 (by omega)]
        exact n2
      · rw [U 18 (by omega), q2 18 (by omega), up2_s]
        rfl
      · rw [U 61 (by omega)]
        exact q1 i hi
      · rw [U r (by omega), E2 r (by omega) (by omega) (by omega) (by omega), a2.1 r (by omega)]
      · show m.2 r = me.2 r
        rw [q3, d4, c4, a2.2]
