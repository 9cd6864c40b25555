/-! ===== reading ===== -/
def FrC (me me1 : ME) : Prop := ∀ r, ¬ (62 ≤ r ∧ r ≤ 82) → me1.1 r = me.1 r ∧ me1.2 r = me.2 r
theorem FrC.rfl' {me : ME} : FrC me me := fun _ _ => ⟨rfl, rfl⟩
theorem FrC.trans {a b c : ME} (h : FrC a b) (h2 : FrC b c) : FrC a c := fun r hr => ⟨(h2 r hr).1.trans (h r hr).1, (h2 r hr).2.trans (h r hr).2⟩
theorem FrC.rep {me me1 : ME} {A : AS} (h : FrC me me1) (hR : RepC me A) : RepC me1 A := by
  have E : ∀ r, ¬ (62 ≤ r ∧ r ≤ 82) → me1.1 r = me.1 r := fun r hr => (h r hr).1
  exact ⟨hR.1.keep (E _ (by omega)) (E _ (by omega)), hR.2.1.keep (E _ (by omega)) (E _ (by omega)) (E _ (by omega)), hR.2.2.1.keep (E _ (by omega)) (E _ (by omega)) (E _ (by omega)) (E _ (by omega)), hR.2.2.2.1.keep (fun r _ h2 => E r (by omega)), hR.2.2.2.2.keep (E _ (by omega)) (fun r _ h2 => E r (by omega))⟩
theorem FrC.eqM {me me1 : ME} (h : FrC me me1) : EqM me me1 := fun r hr => h r (by omega)
theorem C_reg {me : ME} {A : AS} (hR : RepC me A) (hA : ASok A) : ∃ me1 : ME, mX9_regroup S1 me 0 = some ((), me1) ∧ GC me1 A ∧ FrC me me1 := by
  obtain ⟨me1, a, b, -, -, c, d⟩ := C_regroup hR hA
  exact ⟨me1, a, b, fun r hr => ⟨c r (by omega), by rw [d]⟩⟩
theorem groupOf_v {me : ME} {A : AS} (hR : RepM me A) (hA : ASok A) {k : Nat} (hk : k < PN A) : ∃ me1 : ME, mX10_groupOf S1 me 91 (iv k) = some (iv ((grp A (PN A)).2.2 k), me1) ∧ FrM me me1 := by
  have hn : PN A ≤ 9 := hA.2.2.1.1
  obtain ⟨me1, a, b, c⟩ := M_lay hR hA
  refine ⟨me1, ?_, c⟩
  unfold mX10_groupOf
  simp only [ck_s kS_91, bs, a]
  obtain ⟨G1, G2, -⟩ := grp_bit hA (PN A) (Nat.le_refl _)
  have hp : k ∈ picks A (PN A) := (picks_mem A _ k).mpr (nth_sur hA hk)
  have hlt := G2 k hp
  have hle := grp_le A (PN A)
  have hst := grp_lt (A := A) (i := PN A) (fun t ht => by have := nth_lt hA ht; omega)
  refine lpn_ix (P := fun i s => s = (me1, iv i)) (e := (grp A (PN A)).2.2 k) ?_ ((grp A (PN A)).2.2 k) 0 lpF _ (by omega) (by unfold lpF; omega) rfl
  rintro i s kk hi rfl
  unfold mX10_groupOf_L6 mX10_groupOf_j25
  simp only [rS_91_21, bs, aI_k kS_102 lS_102 (i := (i : Int)) (by omega) (by omega) (by omega), Int.toNat_natCast, b.2 i (by omega), has_v S1 me1 (show (grp A (PN A)).2.1 i < 2147483648 by have := hst i; omega) (show k < 31 by omega)]
  have hb := G1 i (by omega) k
  by_cases e : i = (grp A (PN A)).2.2 k
  · right
    rw [if_pos (hb.mpr ⟨hp, e.symm⟩), if_neg (by decide), e]
  · left
    refine ⟨by omega, (me1, iv ((i + 1 : Nat) : Int)), rfl, ?_⟩
    rw [if_neg (fun q => e (hb.mp q).2.symm), if_pos rfl, show (1 : Int32) = iv 1 from rfl, iv_add]
    rfl
noncomputable def spReading (x y : Int) (A : AS) : Int × AS := (if (0 ≤ x ∧ x < A.2.2.1.1) ∧ 0 ≤ y ∧ y ≤ 3 then (if y = 0 then (A.2.2.1.2.1 x.toNat : Int) else if y = 1 then A.2.2.1.2.2.1 x.toNat else if y = 2 then tmA A x.toNat else (grp A (PN A)).2.2 x.toNat) else -1000000000, A)
theorem ok_reading (x y : Int) : OpOK (spReading x y) := fun A h => h
theorem C_reading {x y : Int} (h1 : -2147483648 ≤ x) (h2 : x ≤ 2147483647) (h3 : -2147483648 ≤ y) (h4 : y ≤ 2147483647) : OpC (fun me => mX9_reading S1 me 0 (iv x) (iv y)) (spReading x y) := by
  intro me A hR hA
  have hns := hA.2.1.1
  have hn := hA.2.2.1.1
  show ∃ me1, mX9_reading S1 me 0 (iv x) (iv y) = some (iv (spReading x y A).1, me1) ∧ RepC me1 A ∧ EqM me me1
  unfold mX9_reading mX9_reading_j16 spReading
  simp only [ck_s kS_0, bs, hasReading_v hR hA h1 h2]
  by_cases hx : 0 ≤ x ∧ x < A.2.2.1.1
  · simp only [if_pos hx]
    rw [if_neg (by decide)]
    by_cases hy : 0 ≤ y ∧ y ≤ 3
    · simp only [show (3 : Int32) = iv 3 from rfl, within_t S1 me hy (by omega), bs]
      rw [if_neg (by decide), if_pos (show (0 ≤ x ∧ x < (A.2.2.1.1 : Int)) ∧ 0 ≤ y ∧ y ≤ 3 from ⟨hx, hy⟩)]
      obtain ⟨s1, s2⟩ := hR.2.2.1.2.1 x.toNat (by omega)
      obtain ⟨o1, o2⟩ := hA.2.2.1.2.1 x.toNat (by omega)
      have o3 := hA.2.2.1.2.2 _ o1
      have s3 := hR.2.2.1.2.2 _ o1
      by_cases e3 : y = 3
      · subst e3
        obtain ⟨me1, a, b, c⟩ := C_reg hR hA
        refine ⟨me1, ?_, c.rep hR, c.eqM⟩
        rw [if_neg (by decide), if_neg (by decide), if_neg (by decide), if_neg (by decide), if_neg (by decide), if_neg (by decide)]
        simp only [a, bs, rS_0_8, rS_67_1, aI_k kS_69 lS_69 (i := x) (by omega) (by omega) (by omega), b.2.2.2 x.toNat (show x.toNat < A.2.2.1.1 by omega)]
      · refine ⟨me, ?_, hR, EqM.rfl'⟩
        simp only [rS_0_3, rS_14_0, rS_14_1, rS_14_2, bs, aI_k kS_15 lS_15 (i := x) (by omega) (by omega) (by omega), aI_k kS_16 lS_16 (i := x) (by omega) (by omega) (by omega), s1, s2, aI_k kS_17 lS_17 (i := (A.2.2.1.2.1 x.toNat : Int)) (by omega) (by omega) (by omega), Int.toNat_natCast, s3, timeOf_v S1 me o3 o2]
        rcases (show y = 0 ∨ y = 1 ∨ y = 2 by omega) with rfl | rfl | rfl
        · rw [if_pos (by decide), if_pos (by decide)]
        · rw [if_neg (by decide), if_pos (by decide), if_neg (by decide), if_pos (by decide)]
        · rw [if_neg (by decide), if_neg (by decide), if_pos (by decide), if_neg (by decide), if_neg (by decide), if_pos (by decide)]
          rfl
    · refine ⟨me, ?_, hR, EqM.rfl'⟩
      simp only [show (3 : Int32) = iv 3 from rfl, within_f S1 me hy h3 h4 (by omega) (by omega), bs]
      rw [if_pos trivial, if_neg (fun q => hy q.2)]
      rfl
  · refine ⟨me, ?_, hR, EqM.rfl'⟩
    simp only [if_neg hx]
    rw [if_pos trivial, if_neg (fun q => hx q.1)]
    rfl
theorem M_reading {x y : Int} (h1 : -2147483648 ≤ x) (h2 : x ≤ 2147483647) (h3 : -2147483648 ≤ y) (h4 : y ≤ 2147483647) : OpM (fun me => mX10_reading S1 me 91 (iv x) (iv y)) (spReading x y) := by
  intro me A hR hA
  have hns := hA.2.1.1
  have hn := hA.2.2.1.1
  show ∃ me1, mX10_reading S1 me 91 (iv x) (iv y) = some (iv (spReading x y A).1, me1) ∧ RepM me1 A ∧ EqC me me1
  unfold mX10_reading mX10_reading_j17 mX10_reading_j71 spReading
  simp only [ck_s kS_91, bs, isReading_v hR hA h1 h2]
  by_cases hx : 0 ≤ x ∧ x < A.2.2.1.1
  · simp only [if_pos hx]
    rw [if_neg (by decide)]
    by_cases hy : 0 ≤ y ∧ y ≤ 3
    · simp only [show (3 : Int32) = iv 3 from rfl, show (0 : Int32) = iv 0 from rfl, in_t S1 me hy (by omega) (by omega), bs]
      rw [if_neg (by decide), if_pos (show (0 ≤ x ∧ x < (A.2.2.1.1 : Int)) ∧ 0 ≤ y ∧ y ≤ 3 from ⟨hx, hy⟩)]
      obtain ⟨s1, s2⟩ := hR.2.2.1.2.1 x.toNat (by omega)
      rw [Nat.zero_add] at s1 s2
      have ex : iv x = iv (x.toNat : Int) := congrArg iv (by omega)
      have tm := timeM_v hR hA (k := x.toNat) (by omega)
      rw [← ex] at tm
      by_cases e3 : y = 3
      · subst e3
        obtain ⟨me1, a, c⟩ := groupOf_v hR hA (k := x.toNat) (show x.toNat < A.2.2.1.1 by omega)
        rw [← ex] at a
        refine ⟨me1, ?_, c.rep hR, c.eqC⟩
        rw [if_neg (by decide), if_neg (by decide), if_neg (by decide), if_neg (by decide), if_neg (by decide), if_neg (by decide)]
        simp only [a, bs]
      · refine ⟨me, ?_, hR, EqC.rfl'⟩
        simp only [rS_91_3, bs, show (7 : Int32) = iv 7 from rfl, show (16 : Int32) = iv 16 from rfl, iv_add, aI_k kS_94 lS_94 (i := 7 + x) (by omega) (by omega) (by omega), aI_k kS_94 lS_94 (i := 16 + x) (by omega) (by omega) (by omega), show (7 + x).toNat = 7 + x.toNat by omega, show (16 + x).toNat = 16 + x.toNat by omega, s1, s2, tm]
        rcases (show y = 0 ∨ y = 1 ∨ y = 2 by omega) with rfl | rfl | rfl
        · rw [if_pos (by decide), if_pos (by decide)]
        · rw [if_neg (by decide), if_pos (by decide), if_neg (by decide), if_pos (by decide)]
        · rw [if_neg (by decide), if_neg (by decide), if_pos (by decide), if_neg (by decide), if_neg (by decide), if_pos (by decide)]
    · refine ⟨me, ?_, hR, EqC.rfl'⟩
      simp only [show (3 : Int32) = iv 3 from rfl, show (0 : Int32) = iv 0 from rfl, in_f S1 me hy h3 h4 (by omega) (by omega) (by omega) (by omega), bs]
      rw [if_pos trivial, if_neg (fun q => hy q.2)]
      rfl
  · refine ⟨me, ?_, hR, EqC.rfl'⟩
    simp only [if_neg hx]
    rw [if_pos trivial, if_neg (fun q => hx q.1)]
    rfl
