/-! ===== field of the model ===== -/
theorem j164_v (m : ME) (x : Int32) : ∃ me1 : ME, mX10_field_j162 S1 91 m x = some (x, me1) ∧ (∀ j, j < 25 → me1.1 94 j = m.1 101 j) ∧ me1.1 91 4 = 0 ∧ (∀ k, k ≠ 4 → me1.1 91 k = m.1 91 k) ∧ (∀ k, k < 2 → me1.1 96 k = 0) ∧ (∀ r, r ≠ 91 → r ≠ 94 → r ≠ 96 → me1.1 r = m.1 r) ∧ me1.2 = m.2 := by
  unfold mX10_field_j162
  refine lpn_Q (Q := fun X => ∃ me1 : ME, X = some (x, me1) ∧ (∀ j, j < 25 → me1.1 94 j = m.1 101 j) ∧ me1.1 91 4 = 0 ∧ (∀ k, k ≠ 4 → me1.1 91 k = m.1 91 k) ∧ (∀ k, k < 2 → me1.1 96 k = 0) ∧ (∀ r, r ≠ 91 → r ≠ 94 → r ≠ 96 → me1.1 r = m.1 r) ∧ me1.2 = m.2) (P := fun i s => ∃ m2 : ME, s = (m2, x, iv i) ∧ (∀ j, j < i → m2.1 94 j = m.1 101 j) ∧ (∀ r, r ≠ 94 → m2.1 r = m.1 r) ∧ m2.2 = m.2) (e := 25) ?_ ?_ 25 0 lpF _ (by omega) (by unfold lpF; omega) ⟨m, rfl, fun k hk => absurd hk (Nat.not_lt_zero k), fun r _ => rfl, rfl⟩
  · rintro i s kk hi ⟨m2, rfl, q1, q2, q3⟩
    refine ⟨((up2 m2.1 94 i (m2.1 101 i), m2.2), x, iv ((i + 1 : Nat) : Int)), ⟨_, rfl, fun k hk => ?_, fun r hr => (up2_r m2.1 _ _ hr).trans (q2 r hr), q3⟩, ?_⟩
    · show up2 m2.1 94 i (m2.1 101 i) 94 k = _
      by_cases ek : k = i
      · subst ek; rw [up2_s, q2 101 (by omega)]
      · rw [up2_k _ _ _ _ ek]; exact q1 k (by omega)
    · unfold mX10_field_L164
      simp only []
      rw [if_neg (show ¬ (25 : Int32) ≤ iv (i : Int) by rw [show (25 : Int32) = iv 25 from rfl, iv_le (by omega) (by omega) (by omega) (by omega)]; omega)]
      simp only [rS_91_3, rS_91_19, bs, aI_k kS_101 lS_101 (i := (i : Int)) (by omega) (by omega) (by omega), uI_k kS_94 lS_94 (i := (i : Int)) (by omega) (by omega) (by omega), Int.toNat_natCast, show (1 : Int32) = iv 1 from rfl, iv_add]
      rfl
  · rintro s kk ⟨m2, rfl, q1, q2, q3⟩
    unfold mX10_field_L164 mX10_field_j188
    simp only []
    rw [if_pos (show (25 : Int32) ≤ iv ((25 : Nat) : Int) by decide)]
    have u0 : ∀ (m : ME) (v : Int32), uZ S1 m 96 (0 : Int32) v = some (up2 m.1 96 0 (vp_nar .boolean v), m.2) := fun m v => uZ_k (me := m) kS_96 lS_96 (i := 0) (by omega) (by omega) (by omega)
    have u1 : ∀ (m : ME) (v : Int32), uZ S1 m 96 (1 : Int32) v = some (up2 m.1 96 1 (vp_nar .boolean v), m.2) := fun m v => uZ_k (me := m) kS_96 lS_96 (i := 1) (by omega) (by omega) (by omega)
    simp only [rS_91_7, bs, sI_k kS_91, u0, u1, nar0]
    refine ⟨_, rfl, fun j hj => ?_, rfl, fun k hk => ?_, fun k hk => ?_, fun r r1 r2 r3 => ?_, q3⟩
    · exact q1 j hj
    · show up2 m2.1 91 4 0 91 k = _
      rw [up2_k _ _ _ _ hk, q2 91 (by omega)]
    · rcases (show k = 0 ∨ k = 1 by omega) with rfl | rfl <;> rfl
    · show up2 (up2 (up2 m2.1 91 4 0) 96 0 0) 96 1 0 r = _
      rw [up2_r _ _ _ r3, up2_r _ _ _ r3, up2_r _ _ _ r1, q2 r r2]
theorem j111_v {m : ME} {n : Nat} (hn : m.1 91 16 = iv n) (x : Int32) : ∃ me1 : ME, mX10_field_j111 S1 91 m x = some (x, me1) ∧ (∀ j, j < 6 → me1.1 92 j = m.1 99 j ∧ me1.1 93 j = m.1 100 j) ∧ (∀ j, j < 25 → me1.1 94 j = m.1 101 j) ∧ (me1.1 91 9 = 0 ∧ me1.1 91 0 = iv n ∧ me1.1 91 4 = 0 ∧ me1.1 91 5 = m.1 91 5) ∧ (∀ k, k < 2 → me1.1 96 k = 0) ∧ (∀ r, r < 91 → me1.1 r = m.1 r) ∧ me1.2 = m.2 := by
  unfold mX10_field_j111
  have hn2 : up2 m.1 91 9 0 91 16 = iv n := hn
  simp only [bs, sI_k kS_91, gI_k kS_91, hn2]
  refine lpn_Q (Q := fun X => ∃ me1 : ME, X = some (x, me1) ∧ (∀ j, j < 6 → me1.1 92 j = m.1 99 j ∧ me1.1 93 j = m.1 100 j) ∧ (∀ j, j < 25 → me1.1 94 j = m.1 101 j) ∧ (me1.1 91 9 = 0 ∧ me1.1 91 0 = iv n ∧ me1.1 91 4 = 0 ∧ me1.1 91 5 = m.1 91 5) ∧ (∀ k, k < 2 → me1.1 96 k = 0) ∧ (∀ r, r < 91 → me1.1 r = m.1 r) ∧ me1.2 = m.2) (P := fun i s => ∃ m2 : ME, s = (m2, x, iv i) ∧ (∀ j, j < i → m2.1 92 j = m.1 99 j ∧ m2.1 93 j = m.1 100 j) ∧ (∀ r, r ≠ 92 → r ≠ 93 → m2.1 r = up2 (up2 m.1 91 9 0) 91 0 (iv n) r) ∧ m2.2 = m.2) (e := 6) ?_ ?_ 6 0 lpF _ (by omega) (by unfold lpF; omega) ⟨_, rfl, fun k hk => absurd hk (Nat.not_lt_zero k), fun r _ _ => rfl, rfl⟩
  · rintro i s kk hi ⟨m2, rfl, q1, q2, q3⟩
    refine ⟨((up2 (up2 m2.1 92 i (m2.1 99 i)) 93 i (m2.1 100 i), m2.2), x, iv ((i + 1 : Nat) : Int)), ⟨_, rfl, fun k hk => ⟨?_, ?_⟩, fun r r1 r2 => ((up2_r _ _ _ r2).trans (up2_r _ _ _ r1)).trans (q2 r r1 r2), q3⟩, ?_⟩
    · show up2 (up2 m2.1 92 i (m2.1 99 i)) 93 i (m2.1 100 i) 92 k = _
      rw [up2_r _ _ _ (by decide)]
      by_cases ek : k = i
      · subst ek; rw [up2_s, q2 99 (by omega) (by omega), up2_r _ _ _ (by decide), up2_r _ _ _ (by decide)]
      · rw [up2_k _ _ _ _ ek]; exact (q1 k (by omega)).1
    · show up2 (up2 m2.1 92 i (m2.1 99 i)) 93 i (m2.1 100 i) 93 k = _
      by_cases ek : k = i
      · subst ek; rw [up2_s, q2 100 (by omega) (by omega), up2_r _ _ _ (by decide), up2_r _ _ _ (by decide)]
      · rw [up2_k _ _ _ _ ek, up2_r _ _ _ (by decide)]; exact (q1 k (by omega)).2
    · unfold mX10_field_L126
      simp only []
      rw [if_neg (show ¬ (6 : Int32) ≤ iv (i : Int) by rw [show (6 : Int32) = iv 6 from rfl, iv_le (by omega) (by omega) (by omega) (by omega)]; omega)]
      simp only [rS_91_1, rS_91_2, rS_91_17, rS_91_18, bs, aI_k kS_99 lS_99 (i := (i : Int)) (by omega) (by omega) (by omega), aI_k kS_100 lS_100 (i := (i : Int)) (by omega) (by omega) (by omega), uI_k kS_92 lS_92 (i := (i : Int)) (by omega) (by omega) (by omega), uI_k kS_93 lS_93 (i := (i : Int)) (by omega) (by omega) (by omega), Int.toNat_natCast, show (1 : Int32) = iv 1 from rfl, iv_add, up2_r m2.1 (r := 92) (a := 100) i (m2.1 99 i) (by decide)]
      rfl
  · rintro s kk ⟨m2, rfl, q1, q2, q3⟩
    obtain ⟨me1, z1, z2, z3, z4, z5, z6, z7⟩ := j164_v m2 x
    unfold mX10_field_L126
    simp only []
    rw [if_pos (show (6 : Int32) ≤ iv ((6 : Nat) : Int) by decide)]
    have e91 := q2 91 (by omega) (by omega)
    refine ⟨me1, z1, fun j hj => ?_, fun j hj => ?_, ⟨?_, ?_, z3, ?_⟩, z5, fun r hr => ?_, z7.trans q3⟩
    · rw [z6 92 (by omega) (by omega) (by omega), z6 93 (by omega) (by omega) (by omega)]
      exact q1 j hj
    · rw [z2 j hj, q2 101 (by omega) (by omega), up2_r _ _ _ (by decide), up2_r _ _ _ (by decide)]
    · rw [z4 9 (by omega), e91]
      rfl
    · rw [z4 0 (by omega), e91]
      rfl
    · rw [z4 5 (by omega), e91]
      rfl
    · rw [z6 r (by omega) (by omega) (by omega), q2 r (by omega) (by omega), up2_r _ _ _ (by omega), up2_r _ _ _ (by omega)]
/-- what the model's reading comes to -/
def RF (t : TX) (me : ME) (X : Option (Int32 × ME)) : Prop := (∃ (f : Nat) (me1 : ME), prs t 111 0 st0 0 = .inl f ∧ X = some (iv (-10 - (f : Int)), me1) ∧ FrI me me1) ∨ ∃ (it : Nat) (st : PS) (m : ME), prs t 111 0 st0 0 = .inr (it, st) ∧ X = mX10_field_j111 S1 91 m (iv it) ∧ FrI me m ∧ PrM m st
theorem mloop_v {me : ME} {t : TX} (hT : TxM me t) (ht : t.1 ≤ 110) (h11 : me.1 91 11 = iv (sk t 0)) (hP0 : PrM me st0) : RF t me (lpn (mX10_field_L37 S1 91) lpF (me, 0)) := by
  refine lpn_mq (Q := RF t me) (P := fun j s => ∃ (m : ME) (i p : Nat) (st : PS), s = (m, iv i) ∧ i + j = 111 ∧ i ≤ p ∧ p ≤ t.1 ∧ m.1 91 11 = iv (sk t p) ∧ PrM m st ∧ PSok st ∧ FrI me m ∧ prs t j p st i = prs t 111 0 st0 0) ?_ lpF 111 _ (by unfold lpF; omega) ⟨me, 0, 0, st0, rfl, rfl, Nat.le_refl 0, Nat.zero_le _, h11, hP0, st0_ok, FrI.rfl', rfl⟩
  rintro j s kk ⟨m, i, p, st, rfl, hij, hip, hp, g11, hP, hst, hF, hR⟩
  obtain ⟨j, rfl⟩ : ∃ j', j = j' + 1 := ⟨j - 1, by omega⟩
  have hTm := hF.tx hT
  have hs := sk_b hp
  have hb := tok_b hp
  unfold mX10_field_L37
  simp only [gI_k kS_91, bs, g11, hTm.1]
  by_cases c : sk t p < t.1
  · rw [if_neg (show ¬ iv (t.1 : Int) ≤ iv (sk t p : Int) by rw [iv_le (by omega) (by omega) (by omega) (by omega)]; omega)]
    have c0 : ¬ (tok t p).1 = 0 := fun q => hb.2.2.2.2.2.mp q c
    obtain ⟨m1, a1, a2, a3⟩ := next_v hTm ht hs.2.1 g11
    unfold AdvM at a2
    rw [tok_sk hp] at a2
    have hF1 : FrI me m1 := hF.trans a3.i
    have hT1 := hF1.tx hT
    have hP1 := a3.pr hP
    have b1 := tE_le hp
    have hgo := spIt_go hp c0 hst
    simp only [ck_s kS_91, bs, a1, a2.2.2.1]
    have fin0 : ∀ (f : Nat) (m2 : ME), spIt t p st = .inl f → FrI me m2 → m2.1 91 15 = iv f → RF t me (mX10_field_j88 S1 91 kk m2 (iv i) 0) := by
      intro f m2 e h2 h4
      unfold mX10_field_j88 mX10_field_j93
      rw [if_pos i00]
      simp only [gI_k kS_91, bs, h4]
      rw [show (-10 : Int32) = iv (-10) by decide, iv_sub]
      exact Or.inl ⟨f, m2, by rw [← hR, prs_inl c0 e], rfl, h2⟩
    have fin1 : ∀ (p' : Nat) (st' : PS) (m2 : ME), spIt t p st = .inr (p', st') → FrI me m2 → m2.1 91 11 = iv p' → PrM m2 st' → ∃ j' s', j' < j + 1 ∧ (∃ (m : ME) (i p : Nat) (st : PS), s' = (m, iv i) ∧ i + j' = 111 ∧ i ≤ p ∧ p ≤ t.1 ∧ m.1 91 11 = iv (sk t p) ∧ PrM m st ∧ PSok st ∧ FrI me m ∧ prs t j' p st i = prs t 111 0 st0 0) ∧ mX10_field_j88 S1 91 kk m2 (iv i) 1 = kk s' := by
      intro p' st' m2 e h2 h3 h5
      have hh : p + 1 ≤ p' ∧ p' ≤ t.1 ∧ PSok st' := by
        rw [e] at hgo
        rcases hgo with ⟨f', q1, q2⟩ | ⟨p1, s1, q1, q2⟩
        · cases q1
        · cases q1; exact q2
      obtain ⟨m3, z1, z2, z3⟩ := blanks_v (h2.tx hT) ht hh.2.1 h3
      refine ⟨j, (m3, iv ((i + 1 : Nat) : Int)), by omega, ⟨m3, i + 1, p', st', rfl, by omega, by omega, hh.2.1, z2, z3.pr h5, hh.2.2, h2.trans z3.i, ?_⟩, ?_⟩
      · rw [← hR, prs_inr c0 e]
      · unfold mX10_field_j88
        rw [if_neg i10]
        simp only [ck_s kS_91, bs, z1, show (1 : Int32) = iv 1 from rfl, iv_add]
        rfl
    by_cases cS : (tok t p).1 = 1 ∧ (tok t p).2.1 = 115
    · have ez : tkc (tok t p) = 115 := by rcases tkc_c hp with ⟨f, e⟩ | ⟨f, e, e1, e2⟩ | ⟨f, e⟩ | ⟨f, e⟩ | ⟨f, e⟩ <;> omega
      rw [if_pos (show iv (tkc (tok t p)) = 115 by rw [ez]; rfl)]
      have eI : spIt t p st = spSt t (tS t p) (tE t p) st := if_pos cS
      obtain ⟨b, m2, k1, k2, k3⟩ := rst_v hT1 ht b1.2.1 a2.1 a2.2.1 hP1 hst
      simp only [bs, k1]
      rw [← eI] at k3
      rcases k3 with ⟨f, q1, rfl, q3⟩ | ⟨p', st', q1, rfl, q3, q4⟩
      · right
        exact fin0 f m2 q1 (hF1.trans k2) q3
      · left
        exact fin1 p' st' m2 q1 (hF1.trans k2) q3 q4
    · have ez : ¬ tkc (tok t p) = 115 := fun q => by rcases tkc_c hp with ⟨f, e⟩ | ⟨f, e, e1, e2⟩ | ⟨f, e⟩ | ⟨f, e⟩ | ⟨f, e⟩ <;> omega
      rw [if_neg (show ¬ iv (tkc (tok t p)) = 115 by rw [show (115 : Int32) = iv 115 from rfl, tkc_e hp (by omega) (by omega)]; exact ez)]
      by_cases cH : (tok t p).1 = 1 ∧ (tok t p).2.1 = 104
      · have ez : tkc (tok t p) = 104 := by rcases tkc_c hp with ⟨f, e⟩ | ⟨f, e, e1, e2⟩ | ⟨f, e⟩ | ⟨f, e⟩ | ⟨f, e⟩ <;> omega
        rw [if_pos (show iv (tkc (tok t p)) = 104 by rw [ez]; rfl)]
        have eI : spIt t p st = spRd t (tS t p) (tE t p) st := (if_neg cS).trans (if_pos cH)
        obtain ⟨b, m2, k1, k2, k3⟩ := rrd_v hT1 ht b1.2.1 a2.1 a2.2.1 hP1 hst
        simp only [bs, k1]
        rw [← eI] at k3
        rcases k3 with ⟨f, q1, rfl, q3⟩ | ⟨p', st', q1, rfl, q3, q4⟩
        · right
          exact fin0 f m2 q1 (hF1.trans k2) q3
        · left
          exact fin1 p' st' m2 q1 (hF1.trans k2) q3 q4
      · have ez : ¬ tkc (tok t p) = 104 := fun q => by rcases tkc_c hp with ⟨f, e⟩ | ⟨f, e, e1, e2⟩ | ⟨f, e⟩ | ⟨f, e⟩ | ⟨f, e⟩ <;> omega
        rw [if_neg (show ¬ iv (tkc (tok t p)) = 104 by rw [show (104 : Int32) = iv 104 from rfl, tkc_e hp (by omega) (by omega)]; exact ez)]
        simp only [bs, fails_v a2.2.1]
        right
        exact fin0 _ _ ((if_neg cS).trans (if_neg cH)) (hF1.trans (FrT.rfl'.up (k := 15) (by omega) _).i) rfl
  · right
    have c0 : (tok t p).1 = 0 := hb.2.2.2.2.2.mpr c
    rw [if_pos (show iv (t.1 : Int) ≤ iv (sk t p : Int) by rw [iv_le (by omega) (by omega) (by omega) (by omega)]; omega)]
    exact Or.inr ⟨i, st, m, by rw [← hR, prs_end c0], rfl, hF, hP⟩
theorem M_field : OpM (fun me => mX10_field S1 me 91) spField := by
  intro me A hR hA
  have ht : A.1.1 ≤ 110 := hA.1
  show ∃ me1 : ME, mX10_field S1 me 91 = _ ∧ _
  unfold mX10_field
  simp only [bs, sI_k kS_91]
  have key : ∃ m : ME, FrI me m ∧ RF A.1 m (lpn (mX10_field_L12 S1 91) lpF ((up2 (up2 me.1 91 11 0) 91 16 0, me.2), 0)) := by
    refine lpn_Q (Q := fun X => ∃ m : ME, FrI me m ∧ RF A.1 m X) (P := fun i s => ∃ m2 : ME, s = (m2, iv i) ∧ (∀ j, j < i → m2.1 101 j = 0) ∧ (∀ r, r ≠ 101 → m2.1 r = up2 (up2 me.1 91 11 0) 91 16 0 r) ∧ m2.2 = me.2) (e := 25) ?_ ?_ 25 0 lpF _ (by omega) (by unfold lpF; omega) ⟨_, rfl, fun k hk => absurd hk (Nat.not_lt_zero k), fun r _ => rfl, rfl⟩
    · rintro i s kk hi ⟨m2, rfl, q1, q2, q3⟩
      refine ⟨((up2 m2.1 101 i 0, m2.2), iv ((i + 1 : Nat) : Int)), ⟨_, rfl, fun k hk => ?_, fun r hr => (up2_r m2.1 _ _ hr).trans (q2 r hr), q3⟩, ?_⟩
      · show up2 m2.1 101 i 0 101 k = _
        by_cases ek : k = i
        · subst ek; rw [up2_s]
        · rw [up2_k _ _ _ _ ek]; exact q1 k (by omega)
      · unfold mX10_field_L12
        simp only []
        rw [if_neg (show ¬ (25 : Int32) ≤ iv (i : Int) by rw [show (25 : Int32) = iv 25 from rfl, iv_le (by omega) (by omega) (by omega) (by omega)]; omega)]
        simp only [rS_91_19, bs, uI_k kS_101 lS_101 (i := (i : Int)) (by omega) (by omega) (by omega), Int.toNat_natCast, show (1 : Int32) = iv 1 from rfl, iv_add]
        rfl
    · rintro s kk ⟨m2, rfl, q1, q2, q3⟩
      have e91 := q2 91 (by omega)
      have hF2 : FrI me m2 := ⟨fun k hk => by rw [e91, up2_k _ _ _ _ (by omega), up2_k _ _ _ _ (by omega)], fun r r1 r2 => by rw [q2 r (by omega), up2_r _ _ _ r1, up2_r _ _ _ r1], q3⟩
      have hP2 : PrM m2 st0 := ⟨⟨by rw [e91]; rfl, fun s hs => absurd hs (Nat.not_lt_zero s)⟩, q1 0 (by omega), fun s hs => absurd hs (Nat.not_lt_zero s), fun s hs => absurd hs (Nat.not_lt_zero s)⟩
      obtain ⟨m3, z1, z2, z3⟩ := blanks_v (hF2.tx hR.1) ht (Nat.zero_le _) (p := 0) (by rw [e91]; rfl)
      unfold mX10_field_L12 mX10_field_j31
      simp only []
      rw [if_pos (show (25 : Int32) ≤ iv ((25 : Nat) : Int) by decide)]
      simp only [ck_s kS_91, bs, z1]
      have hF3 := hF2.trans z3.i
      exact ⟨m3, hF3, mloop_v (hF3.tx hR.1) ht z2 (z3.pr hP2)⟩
  obtain ⟨m, hF, hX⟩ := key
  rcases hX with ⟨f, me1, e, q1, q2⟩ | ⟨it, st, m2, e, q1, q2, q3⟩
  · rw [spF_l e, q1]
    have f3 := hF.trans q2
    obtain ⟨hTx, hSt, hLg, hPa, hIm⟩ := hR
    exact ⟨me1, rfl, ⟨hTx.keep (f3.1 9 (by omega)) (f3.2.1 98 (by omega) (by omega)), hSt.keep (f3.1 0 (by omega)) (f3.2.1 92 (by omega) (by omega)) (f3.2.1 93 (by omega) (by omega)), hLg.keep' (f3.2.1 94 (by omega) (by omega)), hPa.keep (f3.1 4 (by omega)) (f3.1 5 (by omega)) (f3.2.1 95 (by omega) (by omega)), hIm.keep (f3.2.1 96 (by omega) (by omega)) (f3.2.1 97 (by omega) (by omega))⟩, fun r hr => ⟨f3.2.1 r (by omega) (by omega), by rw [f3.2.2]⟩⟩
  · have f3 := hF.trans q2
    have hok := prs_ok 111 0 st0 0 (Nat.zero_le _) st0_ok _ e
    obtain ⟨me1, z1, z2, z3, ⟨z4, z5, z6, z7⟩, z8, z9, z10⟩ := j111_v q3.1.1 (iv it)
    rw [spF_r e, q1, z1]
    have n6 : st.1.1 ≤ 6 := hok.1.1
    have n9 : st.2.1 ≤ 9 := hok.2.1
    obtain ⟨nx, n1, n2, n3, n4⟩ := hR.2.2.2.1
    refine ⟨me1, rfl, ⟨⟨z4, fun i hi => absurd hi (Nat.not_lt_zero i)⟩, ⟨z5, fun j hj => ?_⟩, ⟨?_, fun k hk => ⟨?_, ?_⟩, fun s hs => ?_⟩, ⟨nx, n1, ?_, z6, fun t g hg => by simp at hg⟩, fun i hi => Or.inl ⟨rfl, z8 i hi⟩⟩, fun r hr => ⟨?_, ?_⟩⟩
    · have hj : j < st.1.1 := hj
      rw [(z2 j (by omega)).1, (z2 j (by omega)).2]
      exact q3.1.2 j hj
    · rw [z3 0 (by omega)]
      exact q3.2.1
    · have hk : k < st.2.1 := hk
      rw [z3 _ (by omega)]
      exact (q3.2.2.1 k hk).1
    · have hk : k < st.2.1 := hk
      rw [z3 _ (by omega)]
      exact (q3.2.2.1 k hk).2
    · have hs : s < st.1.1 := hs
      rw [z3 _ (by omega)]
      exact q3.2.2.2 s hs
    · rw [z7, f3.1 5 (by omega)]
      exact n2
    · rw [z9 r hr]
      exact f3.2.1 r (by omega) (by omega)
    · rw [z10, f3.2.2]
