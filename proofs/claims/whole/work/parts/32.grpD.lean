/-! ===== the class: which go together; groups ===== -/
theorem sq_le {x n : Int} (h1 : -n ≤ x) (h2 : x ≤ n) : 0 ≤ x * x ∧ x * x ≤ n * n := by
  refine ⟨sq_nn x, ?_⟩
  rcases Int.le_total 0 x with h | h
  · exact Int.mul_self_le_mul_self h h2
  · have := Int.mul_self_le_mul_self (show 0 ≤ -x by omega) (show -x ≤ n by omega)
    rwa [Int.neg_mul_neg] at this
theorem goTogether_v {me : ME} {A : AS} (h : PtC me A) (hA : ASok A) {a b : Nat} (ha : a < PN A) (hb : b < PN A) : mX1_goTogether S1 me 62 (iv a) (iv b) = some (@ite _ (Tog A a b) (Classical.propDecidable _) 1 0, me) := by
  have hn : PN A ≤ 9 := hA.2.2.1.1
  obtain ⟨p1, p2, p3, p4⟩ := h.2 a ha
  obtain ⟨q1, q2, q3, q4⟩ := h.2 b hb
  have ba := P_b hA ha
  have bb := P_b hA hb
  unfold mX1_goTogether mX1_goTogether_j83
  simp only [rS_62_0, rS_62_1, rS_62_2, rS_62_3, bs, aI_k kS_66 lS_66 (i := (a : Int)) (by omega) (by omega) (by omega), aI_k kS_66 lS_66 (i := (b : Int)) (by omega) (by omega) (by omega), aI_k kS_63 lS_63 (i := (a : Int)) (by omega) (by omega) (by omega), aI_k kS_63 lS_63 (i := (b : Int)) (by omega) (by omega) (by omega), aI_k kS_64 lS_64 (i := (a : Int)) (by omega) (by omega) (by omega), aI_k kS_64 lS_64 (i := (b : Int)) (by omega) (by omega) (by omega), aI_k kS_65 lS_65 (i := (a : Int)) (by omega) (by omega) (by omega), aI_k kS_65 lS_65 (i := (b : Int)) (by omega) (by omega) (by omega), Int.toNat_natCast, p1, p2, p3, p4, q1, q2, q3, q4, iv_sub, iv_mul, iv_add]
  have s1 := sq_le (x := tmA A a - tmA A b) (n := 66) (by omega) (by omega)
  have s2 := sq_le (x := PX A a - PX A b) (n := 29) (by omega) (by omega)
  have s3 := sq_le (x := PY A a - PY A b) (n := 29) (by omega) (by omega)
  by_cases h1 : PB A a = PB A b
  · rw [if_pos (by rw [h1]), if_neg (show ¬ Tog A a b from fun t => t.1 h1)]
  · rw [if_neg (show ¬ iv (PB A a) = iv (PB A b) by rw [iv_eq (by omega) (by omega) (by omega) (by omega)]; exact h1)]
    by_cases h2 : (tmA A a - tmA A b) * (tmA A a - tmA A b) ≤ (PX A a - PX A b) * (PX A a - PX A b) + (PY A a - PY A b) * (PY A a - PY A b)
    · rw [if_neg (by rw [iv_lt (by omega) (by omega) (by omega) (by omega)]; omega), if_pos (Or.inr trivial), if_pos (show Tog A a b from ⟨h1, h2⟩)]
    · rw [if_pos (by rw [iv_lt (by omega) (by omega) (by omega) (by omega)]; omega), if_pos (Or.inl trivial), if_neg (show ¬ Tog A a b from fun t => h2 t.2)]
theorem fits_v {me : ME} {A : AS} (h : PtC me A) (hA : ASok A) {g k b : Nat} (hg : g < 9) (hb : me.1 68 g = iv b) (hb2 : b < 512) (hk : k < PN A) : mX1_fits S1 me 67 62 (iv g) (iv k) = some (@ite _ (Fit A b k) (Classical.propDecidable _) 1 0, me) := by
  have hn : PN A ≤ 9 := hA.2.2.1.1
  unfold mX1_fits
  refine lpn_ix (P := fun i s => s = (me, iv i) ∧ ∀ j, j < i → b.testBit j = true → Tog A j k) (e := PN A) ?_ (PN A) 0 lpF _ (by omega) (by unfold lpF; omega) ⟨rfl, fun j h => by omega⟩
  rintro i s kk hi ⟨rfl, hj⟩
  unfold mX1_fits_L3 mX1_fits_j44 mX1_fits_j38 mX1_fits_j36
  simp only [gI_k kS_62, bs, h.1]
  by_cases e : i = PN A
  · right
    rw [if_pos (by rw [iv_le (by omega) (by omega) (by omega) (by omega)]; omega), if_pos (show Fit A b k from fun j h1 h2 => hj j (by omega) h2)]
  · rw [if_neg (show ¬ iv (PN A) ≤ iv i by rw [iv_le (by omega) (by omega) (by omega) (by omega)]; omega)]
    simp only [rS_67_0, bs, aI_k kS_68 lS_68 (i := (g : Int)) (by omega) (by omega) (by omega), Int.toNat_natCast, hb, holds_v S1 me (show b < 2147483648 by omega) (show i < 31 by omega), goTogether_v h hA (show i < PN A by omega) hk, show (1 : Int32) = iv 1 from rfl, iv_add]
    by_cases c : b.testBit i = true
    · rw [if_pos c, if_neg (show ¬ iv 1 = 0 by decide)]
      by_cases t : Tog A i k
      · left
        refine ⟨by omega, (me, iv ((i + 1 : Nat) : Int)), ⟨rfl, fun j h1 h2 => ?_⟩, ?_⟩
        · by_cases e2 : j = i
          · subst e2; exact t
          · exact hj j (by omega) h2
        · rw [if_pos t, if_neg (show ¬ iv 1 = 0 by decide)]
          exact congrArg kk (Prod.ext rfl (congrArg iv (by omega)))
      · right
        rw [if_neg t, if_pos rfl, if_neg (show ¬ Fit A b k from fun F => t (F i (by omega) c))]
    · left
      refine ⟨by omega, (me, iv ((i + 1 : Nat) : Int)), ⟨rfl, fun j h1 h2 => ?_⟩, ?_⟩
      · by_cases e2 : j = i
        · subst e2; exact absurd h2 c
        · exact hj j (by omega) h2
      · rw [if_neg c, if_pos rfl]
        exact congrArg kk (Prod.ext rfl (congrArg iv (by omega)))
theorem firstFitting_v {me : ME} {A : AS} (h : PtC me A) (hA : ASok A) {k m : Nat} {st : Nat → Nat} (hm : m ≤ 9) (hs : me.1 67 2 = iv m) (hb : ∀ g, g < m → me.1 68 g = iv (st g)) (hb2 : ∀ g, st g < 512) (hk : k < PN A) : mX1_firstFitting S1 me 67 62 (iv k) = some (iv (fstN (fun g => Fit A (st g) k) m), me) := by
  unfold mX1_firstFitting
  refine lpn_ix (P := fun i s => s = (me, iv i) ∧ ∀ j, j < i → ¬ Fit A (st j) k) (e := m) ?_ m 0 lpF _ (by omega) (by unfold lpF; omega) ⟨rfl, fun j h => by omega⟩
  rintro i s kk hi ⟨rfl, hj⟩
  unfold mX1_firstFitting_L2 mX1_firstFitting_j20 mX1_firstFitting_j28
  simp only [gI_k kS_67, bs, hs]
  by_cases e : i = m
  · right
    rw [if_pos (by rw [iv_le (by omega) (by omega) (by omega) (by omega)]; omega), fstN_eq (r := m) (Or.inr ⟨rfl, fun g hg => hj g (by omega)⟩)]
  · rw [if_neg (show ¬ iv m ≤ iv i by rw [iv_le (by omega) (by omega) (by omega) (by omega)]; omega)]
    simp only [ck_s kS_67, bs, fits_v h hA (show i < 9 by omega) (hb i (by omega)) (hb2 i) hk]
    by_cases t : Fit A (st i) k
    · right
      rw [if_pos t, if_neg (by decide), fstN_eq (r := i) (Or.inl ⟨by omega, t, fun g hg => hj g (by omega)⟩)]
    · left
      refine ⟨by omega, (me, iv ((i + 1 : Nat) : Int)), ⟨rfl, fun j h1 => ?_⟩, ?_⟩
      · by_cases e2 : j = i
        · subst e2; exact t
        · exact hj j (by omega)
      · rw [if_neg t, if_pos rfl, show (1 : Int32) = iv 1 from rfl, iv_add]
        exact congrArg kk (Prod.ext rfl (congrArg iv (by omega)))
/-- the class's groups, i readings in -/
def GrC (me : ME) (A : AS) (i : Nat) : Prop := me.1 67 2 = iv (grp A i).1 ∧ (∀ g, g < (grp A i).1 → me.1 68 g = iv ((grp A i).2.1 g)) ∧ ∀ t, t < i → me.1 69 (nth A t) = iv ((grp A i).2.2 (nth A t))
theorem gto_fit (A : AS) (i : Nat) (h : gto A i ≠ (grp A i).1) : gto A i < (grp A i).1 := by have := gto_le A i; omega
theorem C_make {me : ME} {A : AS} (h : PtC me A) (hA : ASok A) : ∃ me1 : ME, mX1_make S1 me 67 62 = some ((), me1) ∧ GrC me1 A (PN A) ∧ (∀ i, i < PN A → nth A i < PN A) ∧ (∀ k, k < PN A → ∃ i, i < PN A ∧ nth A i = k) ∧ (∀ r, ¬ (67 ≤ r ∧ r ≤ 70) → me1.1 r = me.1 r) ∧ me1.2 = me.2 := by
  have hn : PN A ≤ 9 := hA.2.2.1.1
  obtain ⟨me2, s1, ⟨o, sO, so⟩, s2, s3⟩ := C_sort h hA
  have hnth := nth_of sO.1 sO.2.1 sO.2.2
  have hlt : ∀ i, i < PN A → nth A i < PN A := fun i hi => by rw [hnth i hi]; exact sO.2.1 i hi
  have hsur : ∀ k, k < PN A → ∃ i, i < PN A ∧ nth A i = k := fun k hk => by
    obtain ⟨i, i1, i2⟩ := sO.2.2 k hk
    exact ⟨i, i1, by rw [hnth i i1]; exact i2⟩
  unfold mX1_make
  simp only [ck_s kS_67, bs, s1, sI_k kS_67]
  have key : ∀ (d i n : Nat) (m2 : ME), i + d = PN A → d < n → GrC m2 A i → PtC m2 A → (∀ j, j < PN A → m2.1 70 j = iv (nth A j)) → (∀ r, ¬ (67 ≤ r ∧ r ≤ 70) → m2.1 r = me.1 r) → m2.2 = me.2 → ∃ me1 : ME, lpn (mX1_make_L12 S1 67 62) n (m2, iv i) = some ((), me1) ∧ GrC me1 A (PN A) ∧ (∀ r, ¬ (67 ≤ r ∧ r ≤ 70) → me1.1 r = me.1 r) ∧ me1.2 = me.2 := by
    intro d
    induction d with
    | zero =>
      intro i n m2 e1 e2 g1 g2 g3 g4 g5
      obtain ⟨n, rfl⟩ : ∃ z, n = z + 1 := ⟨n - 1, by omega⟩
      have : i = PN A := by omega
      subst this
      refine ⟨m2, ?_, g1, g4, g5⟩
      show mX1_make_L12 S1 67 62 _ _ = _
      unfold mX1_make_L12 mX1_make_j89
      simp only [gI_k kS_62, bs, g2.1]
      rw [if_pos (by rw [iv_le (by omega) (by omega) (by omega) (by omega)]; omega)]
    | succ d ih =>
      intro i n m2 e1 e2 g1 g2 g3 g4 g5
      obtain ⟨n, rfl⟩ : ∃ z, n = z + 1 := ⟨n - 1, by omega⟩
      have hi : i < PN A := by omega
      have hni := hlt i hi
      have hle := grp_le A i
      have hto := gto_le A i
      have hst := grp_lt (A := A) (i := i) (fun t ht => by have := hlt t (by omega); omega)
      have hff := firstFitting_v g2 hA (k := nth A i) (m := (grp A i).1) (st := (grp A i).2.1) (by omega) g1.1 g1.2.1 hst hni
      have hff2 : fstN (fun g => Fit A ((grp A i).2.1 g) (nth A i)) (grp A i).1 = gto A i := rfl
      rw [hff2] at hff
      -- what the step makes of the memory
      let m3 : ME := if gto A i = (grp A i).1 then (up2 (up2 m2.1 68 (gto A i) 0) 67 2 (iv ((grp A i).1 + 1 : Nat)), m2.2) else m2
      let m4 : ME := (up2 (up2 m3.1 68 (gto A i) (iv ((grp A (i + 1)).2.1 (gto A i)))) 69 (nth A i) (iv (gto A i)), m3.2)
      have h3 : ∀ r, r ≠ 67 → r ≠ 68 → m3.1 r = m2.1 r := fun r r1 r2 => by
        show (if gto A i = (grp A i).1 then (up2 (up2 m2.1 68 (gto A i) 0) 67 2 (iv ((grp A i).1 + 1 : Nat)), m2.2) else m2).1 r = _
        split
        · show up2 (up2 m2.1 68 (gto A i) 0) 67 2 (iv ((grp A i).1 + 1 : Nat)) r = _
          rw [up2_r _ _ _ r1, up2_r _ _ _ r2]
        · rfl
      have h32 : m3.2 = m2.2 := by
        show (if gto A i = (grp A i).1 then (up2 (up2 m2.1 68 (gto A i) 0) 67 2 (iv ((grp A i).1 + 1 : Nat)), m2.2) else m2).2 = _
        split <;> rfl
      have h367 : m3.1 67 2 = iv (grp A (i + 1)).1 := by
        show (if gto A i = (grp A i).1 then (up2 (up2 m2.1 68 (gto A i) 0) 67 2 (iv ((grp A i).1 + 1 : Nat)), m2.2) else m2).1 67 2 = _
        rw [grp_succ]
        by_cases c : gto A i = (grp A i).1
        · rw [if_pos c]
          show up2 (up2 m2.1 68 (gto A i) 0) 67 2 (iv ((grp A i).1 + 1 : Nat)) 67 2 = iv ((if gto A i = (grp A i).1 then (grp A i).1 + 1 else (grp A i).1 : Nat) : Int)
          rw [up2_s, if_pos c]
        · rw [if_neg c]
          show _ = iv ((if gto A i = (grp A i).1 then (grp A i).1 + 1 else (grp A i).1 : Nat) : Int)
          rw [if_neg c]; exact g1.1
      have h368 : m3.1 68 (gto A i) = iv ((if gto A i = (grp A i).1 then 0 else (grp A i).2.1 (gto A i) : Nat) : Int) := by
        show (if gto A i = (grp A i).1 then (up2 (up2 m2.1 68 (gto A i) 0) 67 2 (iv ((grp A i).1 + 1 : Nat)), m2.2) else m2).1 68 (gto A i) = _
        by_cases c : gto A i = (grp A i).1
        · rw [if_pos c, if_pos c]
          show up2 (up2 m2.1 68 (gto A i) 0) 67 2 (iv ((grp A i).1 + 1 : Nat)) 68 (gto A i) = _
          rw [up2_r _ _ _ (by decide), up2_s]; rfl
        · rw [if_neg c, if_neg c]; exact g1.2.1 _ (gto_fit A i c)
      have h368k : ∀ g, g ≠ gto A i → m3.1 68 g = m2.1 68 g := fun g hg => by
        show (if gto A i = (grp A i).1 then (up2 (up2 m2.1 68 (gto A i) 0) 67 2 (iv ((grp A i).1 + 1 : Nat)), m2.2) else m2).1 68 g = _
        split
        · show up2 (up2 m2.1 68 (gto A i) 0) 67 2 (iv ((grp A i).1 + 1 : Nat)) 68 g = _
          rw [up2_r _ _ _ (by decide), up2_k _ _ _ _ hg]
        · rfl
      have hstep : ∀ kk, mX1_make_L12 S1 67 62 kk (m2, iv i) = kk (m4, iv ((i + 1 : Nat) : Int)) := by
        intro kk
        unfold mX1_make_L12
        simp only [gI_k kS_62, bs, g2.1]
        rw [if_neg (show ¬ iv (PN A) ≤ iv i by rw [iv_le (by omega) (by omega) (by omega) (by omega)]; omega)]
        simp only [rS_67_3, bs, aI_k kS_70 lS_70 (i := (i : Int)) (by omega) (by omega) (by omega), Int.toNat_natCast, g3 i hi, ck_s kS_67, hff, gI_k kS_67, g1.1]
        have fin : mX1_make_j62 S1 67 62 kk m3 (iv i) (iv (nth A i)) (iv (gto A i)) = kk (m4, iv ((i + 1 : Nat) : Int)) := by
          unfold mX1_make_j62
          simp only [rS_67_0, rS_67_1, bs, aI_k kS_68 lS_68 (i := (gto A i : Int)) (by omega) (by omega) (by omega), uI_k kS_68 lS_68 (i := (gto A i : Int)) (by omega) (by omega) (by omega), uI_k kS_69 lS_69 (i := (nth A i : Int)) (by omega) (by omega) (by omega), Int.toNat_natCast, h368, shl_v (show nth A i < 31 by omega), or_v]
          rw [show (1 : Int32) = iv 1 from rfl, iv_add]
          refine congrArg kk (Prod.ext (Prod.ext ?_ rfl) (congrArg iv (by omega)))
          show up2 (up2 m3.1 68 (gto A i) _) 69 (nth A i) _ = up2 (up2 m3.1 68 (gto A i) (iv ((grp A (i + 1)).2.1 (gto A i)))) 69 (nth A i) _
          rw [grp_succ]
          simp [va_up]
        rw [← fin]
        by_cases c : gto A i = (grp A i).1
        · rw [if_pos (by rw [c])]
          simp only [rS_67_0, bs, uI_k kS_68 lS_68 (i := (gto A i : Int)) (by omega) (by omega) (by omega), Int.toNat_natCast, gI_k kS_67, sI_k kS_67, up2_r m2.1 _ _ (show (67 : Nat) ≠ 68 by decide), g1.1, show (1 : Int32) = iv 1 from rfl, iv_add]
          have : m3 = (up2 (up2 m2.1 68 (gto A i) 0) 67 2 (iv ((grp A i).1 + 1 : Nat)), m2.2) := if_pos c
          rw [this]
          rfl
        · rw [if_neg (show ¬ iv (gto A i) = iv (grp A i).1 by rw [iv_eq (by omega) (by omega) (by omega) (by omega)]; omega)]
          have : m3 = m2 := if_neg c
          rw [this]
      have w := ih (i + 1) n m4 (by omega) (by omega)
      rw [show lpn (mX1_make_L12 S1 67 62) (n + 1) (m2, iv i) = lpn (mX1_make_L12 S1 67 62) n (m4, iv ((i + 1 : Nat) : Int)) from hstep _]
      refine w ?_ ?_ ?_ ?_ ?_
      · refine ⟨?_, fun g hg => ?_, fun t ht => ?_⟩
        · show up2 (up2 m3.1 68 (gto A i) (iv ((grp A (i + 1)).2.1 (gto A i)))) 69 (nth A i) (iv (gto A i)) 67 2 = _
          rw [up2_r _ _ _ (by decide), up2_r _ _ _ (by decide)]; exact h367
        · show up2 (up2 m3.1 68 (gto A i) (iv ((grp A (i + 1)).2.1 (gto A i)))) 69 (nth A i) (iv (gto A i)) 68 g = _
          rw [up2_r _ _ _ (by decide)]
          by_cases c : g = gto A i
          · rw [c, up2_s]
          · rw [up2_k _ _ _ _ c, h368k g c, grp_succ]
            show _ = iv ((va_up (grp A i).2.1 (gto A i) _ g : Nat) : Int)
            rw [show ∀ v, va_up (grp A i).2.1 (gto A i) v g = (grp A i).2.1 g from fun v => by simp [va_up, c]]
            refine g1.2.1 g ?_
            rw [grp_succ] at hg
            have hg : g < (if gto A i = (grp A i).1 then (grp A i).1 + 1 else (grp A i).1) := hg
            split at hg <;> omega
        · show up2 (up2 m3.1 68 (gto A i) (iv ((grp A (i + 1)).2.1 (gto A i)))) 69 (nth A i) (iv (gto A i)) 69 (nth A t) = iv ((grp A (i + 1)).2.2 (nth A t))
          rw [grp_succ]
          show _ = iv ((va_up (grp A i).2.2 (nth A i) (gto A i) (nth A t) : Nat) : Int)
          by_cases c : nth A t = nth A i
          · rw [c, up2_s]; simp [va_up]
          · rw [up2_k _ _ _ _ c, up2_r _ _ _ (by decide), h3 69 (by decide) (by decide), show ∀ v, va_up (grp A i).2.2 (nth A i) v (nth A t) = (grp A i).2.2 (nth A t) from fun v => by simp [va_up, c]]
            refine g1.2.2 t ?_
            have : t ≠ i := fun e => c (by rw [e])
            omega
      · refine g2.keep (fun r r1 r2 => ?_)
        show up2 (up2 m3.1 68 (gto A i) (iv ((grp A (i + 1)).2.1 (gto A i)))) 69 (nth A i) (iv (gto A i)) r = _
        rw [up2_r _ _ _ (by omega), up2_r _ _ _ (by omega), h3 r (by omega) (by omega)]
      · intro j hj
        show up2 (up2 m3.1 68 (gto A i) (iv ((grp A (i + 1)).2.1 (gto A i)))) 69 (nth A i) (iv (gto A i)) 70 j = _
        rw [up2_r _ _ _ (by omega), up2_r _ _ _ (by omega), h3 70 (by omega) (by omega)]
        exact g3 j hj
      · intro r hr
        show up2 (up2 m3.1 68 (gto A i) (iv ((grp A (i + 1)).2.1 (gto A i)))) 69 (nth A i) (iv (gto A i)) r = _
        rw [up2_r _ _ _ (by omega), up2_r _ _ _ (by omega), h3 r (by omega) (by omega)]
        exact g4 r hr
      · show m3.2 = _
        rw [h32, g5]
  obtain ⟨me1, f1, f2, f3, f4⟩ := key (PN A) 0 lpF (up2 me2.1 67 2 0, me2.2) (by omega) (by unfold lpF; omega) ⟨up2_s me2.1 67 2 0, fun g hg => absurd hg (Nat.not_lt_zero g), fun t ht => by omega⟩ (h.keep (fun r r1 r2 => by show up2 me2.1 67 2 0 r = _; rw [up2_r _ _ _ (by omega)]; exact s2 r (by omega))) (fun j hj => by
      show up2 me2.1 67 2 0 70 j = _
      rw [up2_r _ _ _ (by decide), so j hj, hnth j hj]) (fun r hr => by
      show up2 me2.1 67 2 0 r = _
      rw [up2_r _ _ _ (by omega)]; exact s2 r (by omega)) s3
  exact ⟨me1, f1, f2, hlt, hsur, f3, f4⟩
/-- behind regroup -/
def GC (me : ME) (A : AS) : Prop := PtC me A ∧ me.1 67 2 = iv (grp A (PN A)).1 ∧ (∀ g, g < (grp A (PN A)).1 → me.1 68 g = iv ((grp A (PN A)).2.1 g)) ∧ ∀ k, k < PN A → me.1 69 k = iv ((grp A (PN A)).2.2 k)
theorem C_regroup {me : ME} {A : AS} (hR : RepC me A) (hA : ASok A) : ∃ me1 : ME, mX9_regroup S1 me 0 = some ((), me1) ∧ GC me1 A ∧ (∀ i, i < PN A → nth A i < PN A) ∧ (∀ k, k < PN A → ∃ i, i < PN A ∧ nth A i = k) ∧ (∀ r, ¬ (62 ≤ r ∧ r ≤ 70) → me1.1 r = me.1 r) ∧ me1.2 = me.2 := by
  obtain ⟨m2, a1, a2, a3, a4⟩ := C_take hR hA
  obtain ⟨m3, b1, b2, b3, b4, b5, b6⟩ := C_make a2 hA
  refine ⟨m3, ?_, ⟨a2.keep (fun r r1 r2 => b5 r (by omega)), b2.1, b2.2.1, fun k hk => ?_⟩, b3, b4, fun r hr => by rw [b5 r (by omega), a3 r (by omega)], by rw [b6, a4]⟩
  · unfold mX9_regroup
    simp only [rS_0_7, rS_0_2, rS_0_3, rS_0_8, bs, ck_s kS_62, ck_s kS_67, a1, b1]
  · obtain ⟨i, i1, i2⟩ := b4 k hk
    rw [← i2]
    exact b2.2.2 i i1
