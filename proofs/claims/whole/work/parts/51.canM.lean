/-! ===== the model: which places can be ===== -/
theorem sq_v (S : SH) (me : ME) (x : Int) : mX10_square S me (iv x) = some (iv (x * x), me) := by
  unfold mX10_square
  rw [iv_mul]
theorem many0 {me : ME} {A : AS} (hR : RepM me A) : aI S1 me 11 94 (0 : Int32) = some (iv (PN A)) := by
  rw [show (0 : Int32) = iv 0 from rfl, aI_k kS_94 lS_94 (i := 0) (by omega) (by omega) (by omega)]
  exact congrArg some (many_v hR)
theorem canZ_v {me : ME} {A : AS} (hR : RepM me A) (g : Int32) (k19 : ME × Int32 × Int32 → Option (Unit × ME)) (x2 x3 x4 x5 x7 : Int32) : lpn (mX10_layCan_L104 S1 91 g k19) lpF (me, x2, x3, x4, x5, x7, 0, 0) = mX10_layCan_j193 S1 91 g k19 me x2 x3 x4 x5 x7 0 := by
  show mX10_layCan_L104 S1 91 g k19 (lpn (mX10_layCan_L104 S1 91 g k19) 4999) (me, x2, x3, x4, x5, x7, 0, 0) = _
  unfold mX10_layCan_L104
  simp only [rS_91_3, bs, many0 hR]
  by_cases hle : iv (PN A : Int) ≤ (0 : Int32)
  · rw [if_pos hle]
  · rw [if_neg hle, if_pos trivial]
theorem canL_v {me : ME} {A : AS} (hR : RepM me A) (hA : ASok A) {g : Nat} (hg : g < 512) {x y t : Int} (hx : 0 ≤ x ∧ x ≤ 29) (hy : 0 ≤ y ∧ y ≤ 29) (ht : 0 ≤ t ∧ t ≤ 60) (k19 : ME × Int32 × Int32 → Option (Unit × ME)) (x2 x3 : Int32) : lpn (mX10_layCan_L104 S1 91 (iv g) k19) lpF (me, x2, x3, iv x, iv y, iv t, 1, 0) = mX10_layCan_j193 S1 91 (iv g) k19 me x2 x3 (iv x) (iv y) (iv t) (@ite _ (CanP A g x y t) (Classical.propDecidable _) 1 0) := by
  have hn : PN A ≤ 9 := hA.2.2.1.1
  refine lpn_ix (P := fun i s => (s = (me, x2, x3, iv x, iv y, iv t, 1, iv i) ∧ ∀ j, j < i → g.testBit j = true → t ≤ tmA A j ∧ dsA A j x y = (tmA A j - t) * (tmA A j - t)) ∨ (s = (me, x2, x3, iv x, iv y, iv t, 0, iv i) ∧ ¬ CanP A g x y t)) (e := PN A) ?_ (PN A) 0 lpF _ (by omega) (by unfold lpF; omega) (Or.inl ⟨rfl, fun j q => by omega⟩)
  rintro i s kk hi hI
  rcases hI with ⟨rfl, hz⟩ | ⟨rfl, hz⟩
  · unfold mX10_layCan_L104
    simp only [rS_91_3, bs, many0 hR]
    by_cases e : i = PN A
    · right
      subst e
      rw [if_pos (Int32.le_refl _), if_pos (show CanP A g x y t from ⟨ht, hz⟩)]
    · have hi2 : i < PN A := by omega
      have bk := P_b hA hi2
      have bd := dsA_b hA hi2 hx hy
      left
      refine ⟨hi2, ?_⟩
      rw [if_neg (show ¬ iv (PN A) ≤ iv i by rw [iv_le (by omega) (by omega) (by omega) (by omega)]; omega), if_neg (by decide)]
      have yes : (g.testBit i = true → t ≤ tmA A i ∧ dsA A i x y = (tmA A i - t) * (tmA A i - t)) → ∃ s', ((s' = (me, x2, x3, iv x, iv y, iv t, (1 : Int32), iv ((i + 1 : Nat) : Int)) ∧ ∀ j, j < i + 1 → g.testBit j = true → t ≤ tmA A j ∧ dsA A j x y = (tmA A j - t) * (tmA A j - t)) ∨ (s' = (me, x2, x3, iv x, iv y, iv t, (0 : Int32), iv ((i + 1 : Nat) : Int)) ∧ ¬ CanP A g x y t)) ∧ mX10_layCan_j180 S1 91 (iv g) k19 kk me x2 x3 (iv x) (iv y) (iv t) (iv i) = kk s' := fun q => by
        refine ⟨_, Or.inl ⟨rfl, fun j j1 j2 => ?_⟩, ?_⟩
        · by_cases e2 : j = i
          · subst e2; exact q j2
          · exact hz j (by omega) j2
        · unfold mX10_layCan_j180 mX10_layCan_j185
          rw [show iv (i : Int) + 1 = iv ((i + 1 : Nat) : Int) from by rw [show (1 : Int32) = iv 1 from rfl, iv_add]; rfl]
      have no : (g.testBit i = true ∧ ¬ (t ≤ tmA A i ∧ dsA A i x y = (tmA A i - t) * (tmA A i - t))) → ∃ s', ((s' = (me, x2, x3, iv x, iv y, iv t, (1 : Int32), iv ((i + 1 : Nat) : Int)) ∧ ∀ j, j < i + 1 → g.testBit j = true → t ≤ tmA A j ∧ dsA A j x y = (tmA A j - t) * (tmA A j - t)) ∨ (s' = (me, x2, x3, iv x, iv y, iv t, (0 : Int32), iv ((i + 1 : Nat) : Int)) ∧ ¬ CanP A g x y t)) ∧ mX10_layCan_j184 S1 91 (iv g) k19 kk me x2 x3 (iv x) (iv y) (iv t) (iv i) = kk s' := fun q => by
        refine ⟨_, Or.inr ⟨rfl, fun w => q.2 (w.2 i hi2 q.1)⟩, ?_⟩
        unfold mX10_layCan_j184 mX10_layCan_j185
        rw [show iv (i : Int) + 1 = iv ((i + 1 : Nat) : Int) from by rw [show (1 : Int32) = iv 1 from rfl, iv_add]; rfl]
      simp only [has_v S1 me (show g < 2147483648 by omega) (show i < 31 by omega), bs]
      by_cases c : g.testBit i = true
      · rw [if_pos c, if_neg (by decide)]
        have xa : mX10_xOf S1 me 91 (iv i) = some (iv (PX A i), me) := xM_v hR hA hi2
        have ya : mX10_yOf S1 me 91 (iv i) = some (iv (PY A i), me) := yM_v hR hA hi2
        have ta : mX10_timeOf S1 me 91 (iv i) = some (iv (tmA A i), me) := timeM_v hR hA hi2
        simp only [ck_s kS_91, bs, ta, xa, ya, iv_sub, sq_v, iv_add]
        by_cases c1 : tmA A i < t
        · rw [if_pos (show iv (tmA A i) < iv t by rw [iv_lt (by omega) (by omega) (by omega) (by omega)]; exact c1)]
          exact no ⟨c, fun q => by omega⟩
        · rw [if_neg (show ¬ iv (tmA A i) < iv t by rw [iv_lt (by omega) (by omega) (by omega) (by omega)]; exact c1)]
          have h63 := sqN (z := tmA A i - t) (n := 63) (by omega)
          have hds : (x - PX A i) * (x - PX A i) + (y - PY A i) * (y - PY A i) = dsA A i x y := rfl
          rw [hds]
          by_cases c2 : dsA A i x y = (tmA A i - t) * (tmA A i - t)
          · rw [if_pos (show iv (dsA A i x y) = iv ((tmA A i - t) * (tmA A i - t)) by rw [c2])]
            exact yes fun _ => ⟨by omega, c2⟩
          · rw [if_neg (show ¬ iv (dsA A i x y) = iv ((tmA A i - t) * (tmA A i - t)) from iv_ne (by omega) (by omega) (by omega) (by omega) c2)]
            exact no ⟨c, fun q => c2 q.2⟩
      · rw [if_neg c, if_pos rfl]
        exact yes fun q => absurd q c
  · right
    unfold mX10_layCan_L104
    simp only [rS_91_3, bs, many0 hR]
    rw [if_neg hz]
    by_cases hle : iv (PN A : Int) ≤ iv (i : Int)
    · rw [if_pos hle]
    · rw [if_neg hle, if_pos trivial]
theorem lay0_v {m : ME} {p1 p2 : Int} (h29 : m.1 91 29 = iv p1) (h30 : m.1 91 30 = iv p2) (g : Int32) (k19 : ME × Int32 × Int32 → Option (Unit × ME)) (x2 x3 x4 x5 x7 : Int32) : ∃ m1 : ME, mX10_layCan_j193 S1 91 g k19 m x2 x3 x4 x5 x7 0 = k19 (m1, x2, x3 + 1) ∧ FrM m m1 ∧ m1.1 91 29 = iv p1 ∧ m1.1 91 30 = iv p2 := by
  unfold mX10_layCan_j193 mX10_layCan_j224 mX10_layCan_j228 mX10_layCan_j246
  rw [if_pos rfl]
  simp only [gI_k kS_91, sI_k kS_91, bs]
  rw [if_pos trivial]
  refine ⟨_, rfl, (FrM.up20 (k := 30) (by decide)).trans (FrM.up20 (by decide)), ?_, ?_⟩
  · simp only [up2_s]
    rw [up2_k _ _ _ _ (by decide), h29, show (0 : Int32) = iv 0 from rfl, iv_add, Int.add_zero]
  · simp only []
    rw [up2_k _ _ _ _ (by decide), up2_s]
    exact h30
theorem lay1_v {m : ME} {p1 p2 x y t : Int} (h29 : m.1 91 29 = iv p1) (h30 : m.1 91 30 = iv p2) (hp : 0 ≤ p1 ∧ p1 ≤ 900) (g : Int32) (k19 : ME × Int32 × Int32 → Option (Unit × ME)) (x2 x3 : Int32) : ∃ m1 : ME, mX10_layCan_j193 S1 91 g k19 m x2 x3 (iv x) (iv y) (iv t) 1 = k19 (m1, x2, x3 + 1) ∧ FrM m m1 ∧ m1.1 91 29 = iv (p1 + 1) ∧ m1.1 91 30 = iv (if p1 = 0 then 10000 * x + 100 * y + t else p2) := by
  unfold mX10_layCan_j193 mX10_layCan_j224 mX10_layCan_j228 mX10_layCan_j246
  rw [if_neg (by decide)]
  simp only [gI_k kS_91, sI_k kS_91, bs, h29]
  rw [show (10000 : Int32) = iv 10000 from rfl, show (100 : Int32) = iv 100 from rfl, iv_mul, iv_mul, iv_add, iv_add]
  by_cases c : p1 = 0
  · rw [if_pos (show iv p1 = 0 by rw [c]; rfl), if_pos c, if_neg (by decide)]
    refine ⟨_, rfl, (FrM.up20 (k := 30) (by decide)).trans (FrM.up20 (by decide)), ?_, ?_⟩
    · simp only [up2_s]
      rw [up2_k _ _ _ _ (by decide), h29, show (1 : Int32) = iv 1 from rfl, iv_add]
    · simp only []
      rw [up2_k _ _ _ _ (by decide), up2_s]
  · rw [if_neg (show ¬ iv p1 = 0 from iv_ne (y := 0) (by omega) (by omega) (by omega) (by omega) c), if_neg c, if_neg (by decide)]
    refine ⟨_, rfl, (FrM.up20 (k := 30) (by decide)).trans (FrM.up20 (by decide)), ?_, ?_⟩
    · simp only [up2_s]
      rw [up2_k _ _ _ _ (by decide), h29, show (1 : Int32) = iv 1 from rfl, iv_add]
    · simp only []
      rw [up2_k _ _ _ _ (by decide), up2_s]
      exact h30
theorem M_can {me : ME} {A : AS} (hR : RepM me A) (hA : ASok A) {g : Nat} (hg : g < 512) (hf : fo A g < PN A) : ∃ me1 : ME, mX10_layCan S1 me 91 (iv g) = some ((), me1) ∧ FrM me me1 ∧ me1.1 91 29 = iv (cnB A g 900).1 ∧ me1.1 91 30 = iv (cnB A g 900).2 := by
  have hn : PN A ≤ 9 := hA.2.2.1.1
  unfold mX10_layCan
  simp only [sI_k kS_91, bs, ck_s kS_91, firstM_v hA hg hf]
  refine lpn_Q (Q := fun X => ∃ me1 : ME, X = some ((), me1) ∧ FrM me me1 ∧ me1.1 91 29 = iv (cnB A g 900).1 ∧ me1.1 91 30 = iv (cnB A g 900).2) (P := fun c s => ∃ m2 : ME, s = (m2, iv (fo A g), iv c) ∧ FrM me m2 ∧ m2.1 91 29 = iv (cnB A g c).1 ∧ m2.1 91 30 = iv (cnB A g c).2) (e := 900) ?_ ?_ 900 0 lpF _ (by omega) (by unfold lpF; omega) ⟨_, rfl, (FrM.up20 (k := 29) (v := 0) (by decide)).trans (FrM.up20 (by decide)), ?_, ?_⟩
  · rintro c s kk hc ⟨m2, rfl, f1, f2, f3⟩
    have hR2 := f1.rep hR
    have bk := P_b hA hf
    have hx : 0 ≤ ((c / 30 : Nat) : Int) ∧ ((c / 30 : Nat) : Int) ≤ 29 := by omega
    have hy : 0 ≤ ((c % 30 : Nat) : Int) ∧ ((c % 30 : Nat) : Int) ≤ 29 := by omega
    have bd := dsA_b hA hf hx hy
    have br := rtS_b bd.1 bd.2
    have hcb := cnB_b A g c
    have d30 : iv (c : Int) / (30 : Int32) = iv ((c / 30 : Nat) : Int) := by
      rw [show (30 : Int32) = iv 30 from rfl, iv_div (by omega) (by omega) (by omega) (by omega)]
      exact congrArg iv (by rw [Int.tdiv_eq_ediv_of_nonneg (by omega)]; omega)
    have m30 : iv (c : Int) - iv ((c / 30 : Nat) : Int) * (30 : Int32) = iv ((c % 30 : Nat) : Int) := by
      rw [show (30 : Int32) = iv 30 from rfl, iv_mul, iv_sub]
      exact congrArg iv (by omega)
    have xa : mX10_xOf S1 m2 91 (iv (fo A g)) = some (iv (PX A (fo A g)), m2) := xM_v hR2 hA hf
    have ya : mX10_yOf S1 m2 91 (iv (fo A g)) = some (iv (PY A (fo A g)), m2) := yM_v hR2 hA hf
    have ta : mX10_timeOf S1 m2 91 (iv (fo A g)) = some (iv (tmA A (fo A g)), m2) := timeM_v hR2 hA hf
    have ra : mX10_root S1 m2 (iv ((((c / 30 : Nat) : Int) - PX A (fo A g)) * (((c / 30 : Nat) : Int) - PX A (fo A g)) + (((c % 30 : Nat) : Int) - PY A (fo A g)) * (((c % 30 : Nat) : Int) - PY A (fo A g)))) = some (if rtS (dsA A (fo A g) ((c / 30 : Nat) : Int) ((c % 30 : Nat) : Int)) < 0 then iv (-9) else iv (rtS (dsA A (fo A g) ((c / 30 : Nat) : Int) ((c % 30 : Nat) : Int))), m2) := root_v S1 m2 bd.1 bd.2
    have nx : iv (c : Int) + 1 = iv ((c + 1 : Nat) : Int) := by rw [show (1 : Int32) = iv 1 from rfl, iv_add]; rfl
    unfold mX10_layCan_L19 mX10_layCan_j98 mX10_layCan_j99
    simp only [ck_s kS_91, bs, xa, ya, ta, d30, m30, iv_sub, sq_v, iv_add, ra]
    rw [if_neg (show ¬ (900 : Int32) ≤ iv c by rw [show (900 : Int32) = iv 900 from rfl, iv_le (by omega) (by omega) (by omega) (by omega)]; omega)]
    rw [cnB_succ]
    have none_ : canT A g ((c / 30 : Nat) : Int) ((c % 30 : Nat) : Int) = -1 → ∀ x7 : Int32, ∃ s', (∃ m3 : ME, s' = (m3, iv (fo A g), iv ((c + 1 : Nat) : Int)) ∧ FrM me m3 ∧ m3.1 91 29 = iv (if 0 ≤ canT A g ((c / 30 : Nat) : Int) ((c % 30 : Nat) : Int) then ((cnB A g c).1 + 1, if (cnB A g c).1 = 0 then 10000 * ((c / 30 : Nat) : Int) + 100 * ((c % 30 : Nat) : Int) + canT A g ((c / 30 : Nat) : Int) ((c % 30 : Nat) : Int) else (cnB A g c).2) else cnB A g c).1 ∧ m3.1 91 30 = iv (if 0 ≤ canT A g ((c / 30 : Nat) : Int) ((c % 30 : Nat) : Int) then ((cnB A g c).1 + 1, if (cnB A g c).1 = 0 then 10000 * ((c / 30 : Nat) : Int) + 100 * ((c % 30 : Nat) : Int) + canT A g ((c / 30 : Nat) : Int) ((c % 30 : Nat) : Int) else (cnB A g c).2) else cnB A g c).2) ∧ mX10_layCan_j193 S1 91 (iv g) kk m2 (iv (fo A g)) (iv c) (iv ((c / 30 : Nat) : Int)) (iv ((c % 30 : Nat) : Int)) x7 0 = kk s' := fun q x7 => by
      obtain ⟨m3, a1, a2, a3, a4⟩ := lay0_v f2 f3 (iv g) kk (iv (fo A g)) (iv c) (iv ((c / 30 : Nat) : Int)) (iv ((c % 30 : Nat) : Int)) x7
      rw [if_neg (show ¬ 0 ≤ canT A g ((c / 30 : Nat) : Int) ((c % 30 : Nat) : Int) by omega), a1, nx]
      exact ⟨_, ⟨m3, rfl, f1.trans a2, a3, a4⟩, rfl⟩
    by_cases r0 : rtS (dsA A (fo A g) ((c / 30 : Nat) : Int) ((c % 30 : Nat) : Int)) < 0
    · rw [if_pos r0, if_pos (show iv (-9) = (-9 : Int32) from rfl), canZ_v hR2]
      exact none_ (can_no fun t ht => by
        have := (can_k.mp (ht.2 _ hf (fo_bit hf).1)).1
        omega) _
    · rw [if_neg r0, if_neg (show ¬ iv (rtS (dsA A (fo A g) ((c / 30 : Nat) : Int) ((c % 30 : Nat) : Int))) = (-9 : Int32) from iv_ne (y := -9) (by omega) (by omega) (by omega) (by omega) (by omega)), iv_sub]
      have hT : tmA A (fo A g) - rtS (dsA A (fo A g) ((c / 30 : Nat) : Int) ((c % 30 : Nat) : Int)) = tAt A (fo A g) ((c / 30 : Nat) : Int) ((c % 30 : Nat) : Int) := rfl
      have hTb : -50 ≤ tAt A (fo A g) ((c / 30 : Nat) : Int) ((c % 30 : Nat) : Int) ∧ tAt A (fo A g) ((c / 30 : Nat) : Int) ((c % 30 : Nat) : Int) ≤ 64 := by rw [← hT]; omega
      rw [hT]
      by_cases r1 : 0 ≤ tAt A (fo A g) ((c / 30 : Nat) : Int) ((c % 30 : Nat) : Int) ∧ tAt A (fo A g) ((c / 30 : Nat) : Int) ((c % 30 : Nat) : Int) ≤ 60
      · have hin : mX10_in S1 m2 (iv (tAt A (fo A g) ((c / 30 : Nat) : Int) ((c % 30 : Nat) : Int))) (0 : Int32) (60 : Int32) = some (1, m2) := in_t S1 m2 (y := 0) (z := 60) r1 (by omega) (by omega)
        simp only [hin, bs]
        rw [if_neg (show ¬ (1 : Int32) = 0 by decide), canL_v hR2 hA hg hx hy r1]
        by_cases cp : CanP A g ((c / 30 : Nat) : Int) ((c % 30 : Nat) : Int) (tAt A (fo A g) ((c / 30 : Nat) : Int) ((c % 30 : Nat) : Int))
        · rw [if_pos cp]
          obtain ⟨u1, u2⟩ := can_un hf cp
          obtain ⟨m3, a1, a2, a3, a4⟩ := lay1_v (x := ((c / 30 : Nat) : Int)) (y := ((c % 30 : Nat) : Int)) (t := tAt A (fo A g) ((c / 30 : Nat) : Int) ((c % 30 : Nat) : Int)) f2 f3 (by omega) (iv g) kk (iv (fo A g)) (iv c)
          rw [u1, if_pos u2.1, a1, nx]
          exact ⟨_, ⟨m3, rfl, f1.trans a2, a3, a4⟩, rfl⟩
        · rw [if_neg cp]
          exact none_ (can_no fun t ht => cp (by
            have e := (can_k.mp (ht.2 _ hf (fo_bit hf).1)).2
            rw [e]; exact ht)) _
      · have hin : mX10_in S1 m2 (iv (tAt A (fo A g) ((c / 30 : Nat) : Int) ((c % 30 : Nat) : Int))) (0 : Int32) (60 : Int32) = some (0, m2) := in_f S1 m2 (y := 0) (z := 60) r1 (by omega) (by omega) (by omega) (by omega) (by omega) (by omega)
        simp only [hin, bs]
        rw [if_pos trivial, canZ_v hR2]
        exact none_ (can_no fun t ht => by
          have e := (can_k.mp (ht.2 _ hf (fo_bit hf).1)).2
          have := ht.1
          omega) _
  · rintro s kk ⟨m2, rfl, f1, f2, f3⟩
    exact ⟨m2, rfl, f1, f2, f3⟩
  · show up2 (up2 me.1 91 29 0) 91 30 (-9) 91 29 = _
    rw [up2_k _ _ _ _ (by decide), up2_s]
    rfl
  · exact up2_s (up2 me.1 91 29 0) 91 30 _
