/-! ===== which places in whole numbers can be ===== -/
def dsA (A : AS) (k : Nat) (x y : Int) : Int := (x - PX A k) * (x - PX A k) + (y - PY A k) * (y - PY A k)
theorem sqN {z n : Int} (h : -n ≤ z ∧ z ≤ n) : 0 ≤ z * z ∧ z * z ≤ n * n := by
  refine ⟨sq_nn z, ?_⟩
  by_cases c : 0 ≤ z
  · exact sq_b c h.2
  · have := sq_b (i := -z) (n := n) (by omega) (by omega)
    rw [Int.neg_mul_neg] at this
    exact this
theorem dsA_b {A : AS} (hA : ASok A) {k : Nat} (hk : k < PN A) {x y : Int} (hx : 0 ≤ x ∧ x ≤ 29) (hy : 0 ≤ y ∧ y ≤ 29) : 0 ≤ dsA A k x y ∧ dsA A k x y ≤ 1682 := by
  have bk := P_b hA hk
  have h1 := sqN (z := x - PX A k) (n := 29) (by omega)
  have h2 := sqN (z := y - PY A k) (n := 29) (by omega)
  unfold dsA
  omega
noncomputable def tAt (A : AS) (k : Nat) (x y : Int) : Int := tmA A k - rtS (dsA A k x y)
def CanP (A : AS) (g : Nat) (x y t : Int) : Prop := (0 ≤ t ∧ t ≤ 60) ∧ ∀ k, k < PN A → g.testBit k = true → t ≤ tmA A k ∧ dsA A k x y = (tmA A k - t) * (tmA A k - t)
theorem can_k {A : AS} {k : Nat} {x y t : Int} : (t ≤ tmA A k ∧ dsA A k x y = (tmA A k - t) * (tmA A k - t)) ↔ (0 ≤ rtS (dsA A k x y) ∧ tAt A k x y = t) := by
  constructor
  · rintro ⟨h1, h2⟩
    have := Rt_un (Or.inl ⟨by omega, h2.symm⟩ : Rt (dsA A k x y) (tmA A k - t))
    refine ⟨by omega, ?_⟩
    unfold tAt
    omega
  · rintro ⟨h1, h2⟩
    unfold tAt at h2
    rcases rtS_ok (dsA A k x y) with ⟨a, b⟩ | ⟨a, b⟩
    · refine ⟨by omega, ?_⟩
      rw [show tmA A k - t = rtS (dsA A k x y) by omega]
      exact b.symm
    · omega
noncomputable def canT (A : AS) (g : Nat) (x y : Int) : Int := @dite _ (∃ t, CanP A g x y t) (Classical.propDecidable _) (fun h => Classical.choose h) (fun _ => -1)
theorem can_un {A : AS} {g : Nat} (hf : fo A g < PN A) {x y t : Int} (h : CanP A g x y t) : canT A g x y = t ∧ 0 ≤ t ∧ t ≤ 60 := by
  have hE : ∃ t, CanP A g x y t := ⟨t, h⟩
  refine ⟨?_, h.1⟩
  unfold canT
  rw [dif_pos hE]
  have h2 := Classical.choose_spec hE
  have b := (fo_bit hf).1
  have e1 := (can_k.mp (h.2 _ hf b)).2
  have e2 := (can_k.mp (h2.2 _ hf b)).2
  exact e2.symm.trans e1
theorem can_no {A : AS} {g : Nat} {x y : Int} (h : ∀ t, ¬ CanP A g x y t) : canT A g x y = -1 := dif_neg (fun ⟨t, q⟩ => h t q)
theorem stroke_v {me : ME} {A : AS} (h : PtC me A) (hA : ASok A) {g : Nat} (hg : g < 512) (hf : fo A g < PN A) {x y : Int} (hx : 0 ≤ x ∧ x ≤ 29) (hy : 0 ≤ y ∧ y ≤ 29) : ∃ st : Int, mX0_strokeTime S1 me 82 (iv g) (iv x) (iv y) = some (iv st, me) ∧ (-1 ≤ st ∧ st ≤ 64) ∧ ((0 ≤ st ∧ st ≤ 60) ∧ canT A g x y = st ∨ ¬ (0 ≤ st ∧ st ≤ 60) ∧ canT A g x y = -1) := by
  have hn : PN A ≤ 9 := hA.2.2.1.1
  have bad : (∀ t, ¬ CanP A g x y t) → ∃ st : Int, (some ((-1 : Int32), me) : Option (Int32 × ME)) = some (iv st, me) ∧ (-1 ≤ st ∧ st ≤ 64) ∧ ((0 ≤ st ∧ st ≤ 60) ∧ canT A g x y = st ∨ ¬ (0 ≤ st ∧ st ≤ 60) ∧ canT A g x y = -1) := fun q => ⟨-1, rfl, by omega, Or.inr ⟨by omega, can_no q⟩⟩
  unfold mX0_strokeTime
  refine lpn_X (Q := fun X => ∃ st : Int, X = some (iv st, me) ∧ (-1 ≤ st ∧ st ≤ 64) ∧ ((0 ≤ st ∧ st ≤ 60) ∧ canT A g x y = st ∨ ¬ (0 ≤ st ∧ st ≤ 60) ∧ canT A g x y = -1)) (P := fun k s => ∃ v : Int, s = (me, iv v, iv k) ∧ ((v = -1 ∧ ∀ j, j < k → ¬ g.testBit j = true) ∨ ((0 ≤ v ∧ v ≤ 64) ∧ (∃ j, j < k ∧ g.testBit j = true) ∧ ∀ j, j < k → g.testBit j = true → 0 ≤ rtS (dsA A j x y) ∧ tAt A j x y = v))) (e := PN A) ?_ (PN A) 0 lpF _ (by omega) (by unfold lpF; omega) ⟨-1, rfl, Or.inl ⟨rfl, fun j q => by omega⟩⟩
  rintro k s kk hk ⟨v, rfl, hI⟩
  have hv : -1 ≤ v ∧ v ≤ 64 := by
    rcases hI with q | q <;> omega
  unfold mX0_strokeTime_L6 mX0_strokeTime_j95 mX0_strokeTime_j99 mX0_strokeTime_j93 mX0_strokeTime_j105
  simp only [rS_82_0, bs, gI_k kS_62, h.1, show (1 : Int32) = iv 1 from rfl, iv_add]
  by_cases e : k = PN A
  · right
    subst e
    rw [if_pos (Int32.le_refl _)]
    refine ⟨v, rfl, hv, ?_⟩
    rcases hI with ⟨q1, q2⟩ | ⟨q1, q2, q3⟩
    · exact absurd (fo_bit hf).1 (q2 _ hf)
    · by_cases c : v ≤ 60
      · left
        exact ⟨by omega, (can_un hf ⟨⟨q1.1, c⟩, fun j j1 j2 => can_k.mpr (q3 j j1 j2)⟩).1⟩
      · right
        refine ⟨by omega, can_no fun t ht => ?_⟩
        have e1 := (can_k.mp (ht.2 _ hf (fo_bit hf).1)).2
        have e2 := (q3 _ hf (fo_bit hf).1).2
        have := ht.1
        omega
  · have hk2 : k < PN A := by omega
    obtain ⟨p1, p2, p3, p4⟩ := h.2 k hk2
    have bk := P_b hA hk2
    have bd := dsA_b hA hk2 hx hy
    have br := rtS_b bd.1 bd.2
    rw [if_neg (show ¬ iv (PN A) ≤ iv k by rw [iv_le (by omega) (by omega) (by omega) (by omega)]; omega)]
    simp only [holds_v S1 me (show g < 2147483648 by omega) (show k < 31 by omega), bs]
    by_cases c : g.testBit k = true
    · rw [if_pos c, if_neg (by decide)]
      have hw : mX9_wholeWay S1 me (iv (x - PX A k)) (iv (y - PY A k)) = some (iv (rtS (dsA A k x y)), me) := wholeWay_v S1 me (by omega) (by omega)
      simp only [rS_62_1, rS_62_2, rS_62_3, bs, aI_k kS_64 lS_64 (i := (k : Int)) (by omega) (by omega) (by omega), aI_k kS_65 lS_65 (i := (k : Int)) (by omega) (by omega) (by omega), aI_k kS_66 lS_66 (i := (k : Int)) (by omega) (by omega) (by omega), Int.toNat_natCast, p2, p3, p4, iv_sub, hw, show (0 : Int32) = iv 0 from rfl]
      have hT : tmA A k - rtS (dsA A k x y) = tAt A k x y := rfl
      have hTb : -50 ≤ tAt A k x y ∧ tAt A k x y ≤ 64 := by rw [← hT]; omega
      simp only [hT]
      by_cases c1 : rtS (dsA A k x y) < 0
      · right
        rw [if_pos (show iv (rtS (dsA A k x y)) < iv 0 by rw [iv_lt (by omega) (by omega) (by omega) (by omega)]; exact c1)]
        exact bad fun t ht => by
          have := (can_k.mp (ht.2 _ hk2 c)).1
          omega
      · rw [if_neg (show ¬ iv (rtS (dsA A k x y)) < iv 0 by rw [iv_lt (by omega) (by omega) (by omega) (by omega)]; exact c1)]
        by_cases c2 : tAt A k x y < 0
        · right
          rw [if_pos (show iv (tAt A k x y) < iv 0 by rw [iv_lt (by omega) (by omega) (by omega) (by omega)]; exact c2)]
          exact bad fun t ht => by
            have := (can_k.mp (ht.2 _ hk2 c)).2
            have := ht.1
            omega
        · rw [if_neg (show ¬ iv (tAt A k x y) < iv 0 by rw [iv_lt (by omega) (by omega) (by omega) (by omega)]; exact c2)]
          have go : (∀ j, j < k → g.testBit j = true → 0 ≤ rtS (dsA A j x y) ∧ tAt A j x y = tAt A k x y) → ∃ s', (∃ v : Int, s' = (me, iv v, iv ((k + 1 : Nat) : Int)) ∧ ((v = -1 ∧ ∀ j, j < k + 1 → ¬ g.testBit j = true) ∨ ((0 ≤ v ∧ v ≤ 64) ∧ (∃ j, j < k + 1 ∧ g.testBit j = true) ∧ ∀ j, j < k + 1 → g.testBit j = true → 0 ≤ rtS (dsA A j x y) ∧ tAt A j x y = v))) ∧ kk (me, iv (tAt A k x y), iv ((k : Int) + 1)) = kk s' := fun q =>
            ⟨_, ⟨tAt A k x y, rfl, Or.inr ⟨by omega, ⟨k, by omega, c⟩, fun j j1 j2 => by
              by_cases e2 : j = k
              · subst e2; exact ⟨by omega, rfl⟩
              · exact q j (by omega) j2⟩⟩, rfl⟩
          rcases hI with ⟨q1, q2⟩ | ⟨q1, q2, q3⟩
          · left
            rw [if_pos (show iv v < iv 0 by rw [iv_lt (by omega) (by omega) (by omega) (by omega)]; omega)]
            exact ⟨hk2, go fun j j1 j2 => absurd j2 (q2 j j1)⟩
          · rw [if_neg (show ¬ iv v < iv 0 by rw [iv_lt (by omega) (by omega) (by omega) (by omega)]; omega)]
            by_cases c3 : tAt A k x y = v
            · left
              rw [if_pos (show iv (tAt A k x y) = iv v by rw [c3])]
              exact ⟨hk2, go fun j j1 j2 => by rw [c3]; exact q3 j j1 j2⟩
            · right
              rw [if_neg (show ¬ iv (tAt A k x y) = iv v from iv_ne (by omega) (by omega) (by omega) (by omega) c3)]
              obtain ⟨j, j1, j2⟩ := q2
              exact bad fun t ht => by
                have e1 := (can_k.mp (ht.2 _ hk2 c)).2
                have e2 := (can_k.mp (ht.2 j (by omega) j2)).2
                have e3 := (q3 j j1 j2).2
                omega
    · left
      rw [if_neg c, if_pos rfl]
      refine ⟨hk2, _, ⟨v, rfl, ?_⟩, rfl⟩
      rcases hI with ⟨q1, q2⟩ | ⟨q1, ⟨j, j1, j2⟩, q3⟩
      · refine Or.inl ⟨q1, fun j j1 => ?_⟩
        by_cases e2 : j = k
        · subst e2; exact c
        · exact q2 j (by omega)
      · refine Or.inr ⟨q1, ⟨j, by omega, j2⟩, fun j j1 j2 => ?_⟩
        by_cases e2 : j = k
        · subst e2; exact absurd j2 c
        · exact q3 j (by omega) j2
noncomputable def cnB (A : AS) (g : Nat) : Nat → Int × Int
  | 0 => (0, -9)
  | c + 1 => if 0 ≤ canT A g ((c / 30 : Nat) : Int) ((c % 30 : Nat) : Int) then ((cnB A g c).1 + 1, if (cnB A g c).1 = 0 then 10000 * ((c / 30 : Nat) : Int) + 100 * ((c % 30 : Nat) : Int) + canT A g ((c / 30 : Nat) : Int) ((c % 30 : Nat) : Int) else (cnB A g c).2) else cnB A g c
theorem cnB_succ (A : AS) (g c : Nat) : cnB A g (c + 1) = if 0 ≤ canT A g ((c / 30 : Nat) : Int) ((c % 30 : Nat) : Int) then ((cnB A g c).1 + 1, if (cnB A g c).1 = 0 then 10000 * ((c / 30 : Nat) : Int) + 100 * ((c % 30 : Nat) : Int) + canT A g ((c / 30 : Nat) : Int) ((c % 30 : Nat) : Int) else (cnB A g c).2) else cnB A g c := rfl
theorem cnB_b (A : AS) (g c : Nat) : 0 ≤ (cnB A g c).1 ∧ (cnB A g c).1 ≤ c := by
  induction c with
  | zero => exact ⟨Int.le_refl 0, Int.le_refl 0⟩
  | succ c ih =>
    rw [cnB_succ]
    split
    · constructor
      · show 0 ≤ (cnB A g c).1 + 1; omega
      · show (cnB A g c).1 + 1 ≤ ((c + 1 : Nat) : Int); omega
    · omega
theorem C_can {me : ME} {A : AS} (h : PtC me A) (hA : ASok A) {g : Nat} (hg : g < 512) (hf : fo A g < PN A) : ∃ me1 : ME, mX0_seekPlaces S1 me 82 (iv g) = some ((), me1) ∧ FrF me me1 ∧ me1.1 82 4 = iv (cnB A g 900).1 ∧ me1.1 82 5 = iv (cnB A g 900).2 := by
  unfold mX0_seekPlaces
  simp only [sI_k kS_82, bs]
  have inner : ∀ (x : Nat) (m1 : ME) (kk : ME × Int32 → Option (Unit × ME)), x < 30 → FrF me m1 → m1.1 82 4 = iv (cnB A g (30 * x)).1 → m1.1 82 5 = iv (cnB A g (30 * x)).2 → ∃ m3 : ME, lpn (mX0_seekPlaces_L21 S1 82 (iv g) kk) lpF (m1, iv x, 0) = kk (m3, iv ((x + 1 : Nat) : Int)) ∧ FrF me m3 ∧ m3.1 82 4 = iv (cnB A g (30 * (x + 1))).1 ∧ m3.1 82 5 = iv (cnB A g (30 * (x + 1))).2 := by
    intro x m1 kk hx f1 f2 f3
    refine lpn_Q (Q := fun X => ∃ m3 : ME, X = kk (m3, iv ((x + 1 : Nat) : Int)) ∧ FrF me m3 ∧ m3.1 82 4 = iv (cnB A g (30 * (x + 1))).1 ∧ m3.1 82 5 = iv (cnB A g (30 * (x + 1))).2) (P := fun y s => ∃ m2 : ME, s = (m2, iv x, iv y) ∧ FrF me m2 ∧ m2.1 82 4 = iv (cnB A g (30 * x + y)).1 ∧ m2.1 82 5 = iv (cnB A g (30 * x + y)).2) (e := 30) ?_ ?_ 30 0 lpF _ (by omega) (by unfold lpF; omega) ⟨m1, rfl, f1, f2, f3⟩
    · rintro y s k2 hy ⟨m2, rfl, g1, g2, g3⟩
      obtain ⟨st, s1, s2, s3⟩ := stroke_v (g1.pt h) hA hg hf (x := (x : Int)) (y := (y : Int)) (by omega) (by omega)
      have hcb := cnB_b A g (30 * x + y)
      have ex : (30 * x + y) / 30 = x := by omega
      have ey : (30 * x + y) % 30 = y := by omega
      unfold mX0_seekPlaces_L21 mX0_seekPlaces_j80 mX0_seekPlaces_j70 mX0_seekPlaces_j80
      simp only [ck_s kS_82, bs, s1, show (29 : Int32) = iv 29 from rfl, show (60 : Int32) = iv 60 from rfl, show (1 : Int32) = iv 1 from rfl, iv_add]
      rw [if_neg (show ¬ iv 29 < iv y by rw [iv_lt (by omega) (by omega) (by omega) (by omega)]; omega)]
      rw [show 30 * x + (y + 1) = 30 * x + y + 1 by omega, cnB_succ, ex, ey]
      rcases s3 with ⟨t1, t2⟩ | ⟨t1, t2⟩
      · simp only [within_t S1 m2 t1 (by omega), bs]
        rw [if_neg (show ¬ (1 : Int32) = 0 by decide), if_pos (show 0 ≤ canT A g (x : Int) (y : Int) by omega)]
        simp only [gI_k kS_82, bs, g2]
        by_cases c : (cnB A g (30 * x + y)).1 = 0
        · rw [if_pos (show iv (cnB A g (30 * x + y)).1 = 0 by rw [c]; rfl), if_pos c]
          simp only [sI_k kS_82, gI_k kS_82, bs]
          refine ⟨_, ⟨_, rfl, (g1.trans FrF.up).trans FrF.up, ?_, ?_⟩, rfl⟩
          · simp only [up2_s]
            rw [up2_k _ _ _ _ (by decide), g2, iv_add]
          · simp only []
            rw [up2_k _ _ _ _ (by decide), up2_s, show (10000 : Int32) = iv 10000 from rfl, show (100 : Int32) = iv 100 from rfl, iv_mul, iv_mul, iv_add, iv_add, t2]
        · rw [if_neg (show ¬ iv (cnB A g (30 * x + y)).1 = 0 from iv_ne (y := 0) (by omega) (by omega) (by omega) (by omega) c), if_neg c]
          simp only [sI_k kS_82, gI_k kS_82, bs]
          refine ⟨_, ⟨_, rfl, g1.trans FrF.up, ?_, ?_⟩, rfl⟩
          · simp only [up2_s, iv_add]
          · simp only []
            rw [up2_k _ _ _ _ (by decide)]
            exact g3
      · simp only [within_f S1 m2 t1 (by omega) (by omega) (by omega) (by omega), bs]
        rw [if_pos trivial, if_neg (show ¬ 0 ≤ canT A g (x : Int) (y : Int) by omega)]
        exact ⟨_, ⟨m2, rfl, g1, g2, g3⟩, rfl⟩
    · rintro s k2 ⟨m2, rfl, g1, g2, g3⟩
      refine ⟨m2, ?_, g1, g2, g3⟩
      unfold mX0_seekPlaces_L21 mX0_seekPlaces_j86
      simp only [show (1 : Int32) = iv 1 from rfl, iv_add]
      rw [if_pos (show (29 : Int32) < iv ((30 : Nat) : Int) by decide)]
      rfl
  refine lpn_Q (Q := fun X => ∃ me1 : ME, X = some ((), me1) ∧ FrF me me1 ∧ me1.1 82 4 = iv (cnB A g 900).1 ∧ me1.1 82 5 = iv (cnB A g 900).2) (P := fun x s => ∃ m2 : ME, s = (m2, iv x) ∧ FrF me m2 ∧ m2.1 82 4 = iv (cnB A g (30 * x)).1 ∧ m2.1 82 5 = iv (cnB A g (30 * x)).2) (e := 30) ?_ ?_ 30 0 lpF _ (by omega) (by unfold lpF; omega) ⟨_, rfl, (FrF.up (k := 4) (v := 0)).trans FrF.up, ?_, ?_⟩
  · rintro x s kk hx ⟨m2, rfl, f1, f2, f3⟩
    obtain ⟨m3, a1, a2, a3, a4⟩ := inner x m2 kk hx f1 f2 f3
    refine ⟨_, ⟨m3, rfl, a2, a3, a4⟩, ?_⟩
    unfold mX0_seekPlaces_L13
    simp only []
    rw [if_neg (show ¬ (29 : Int32) < iv x by rw [show (29 : Int32) = iv 29 from rfl, iv_lt (by omega) (by omega) (by omega) (by omega)]; omega)]
    exact a1
  · rintro s kk ⟨m2, rfl, f1, f2, f3⟩
    exact ⟨m2, rfl, f1, f2, f3⟩
  · show up2 (up2 me.1 82 4 0) 82 5 (-9) 82 4 = _
    rw [up2_k _ _ _ _ (by decide), up2_s]
    rfl
  · exact up2_s (up2 me.1 82 4 0) 82 5 _
