/-! ===== verdict, count ===== -/
theorem fo_lt {A : AS} {b : Nat} (h0 : b ≠ 0) (h : b < 2 ^ PN A) : fo A b < PN A := by
  rcases fstN_ok (fun k => b.testBit k = true) (PN A) with ⟨a, -⟩ | ⟨a, c⟩
  · exact a
  · exfalso
    apply h0
    apply Nat.eq_of_testBit_eq
    intro i
    rw [Nat.zero_testBit]
    rcases Nat.lt_or_ge i (PN A) with q | q
    · have := c i q
      simpa using this
    · exact Nat.testBit_lt_two_pow (Nat.lt_of_lt_of_le h (Nat.pow_le_pow_right (by decide) q))
theorem pw_le {A : AS} (hA : ASok A) : 2 ^ PN A ≤ 512 := by
  have hn : PN A ≤ 9 := hA.2.2.1.1
  exact Nat.pow_le_pow_right (n := 2) (by decide) hn
noncomputable def gN (A : AS) : Nat := (grp A (PN A)).1
noncomputable def gT (A : AS) (g : Nat) : Nat := (grp A (PN A)).2.1 g
theorem gN_le {A : AS} (hA : ASok A) : gN A ≤ 9 := Nat.le_trans (grp_le A _) hA.2.2.1.1
theorem gT_lt {A : AS} (hA : ASok A) {g : Nat} (hg : g < gN A) : gT A g < 2 ^ PN A := by
  apply Nat.lt_pow_two_of_testBit
  intro i hi
  by_cases q : (gT A g).testBit i = true
  · have := picks_lt hA (Nat.le_refl _) (((grp_bit hA (PN A) (Nat.le_refl _)).1 g hg i).mp q).1
    omega
  · simpa using q
theorem gT_ne {A : AS} (hA : ASok A) {g : Nat} (hg : g < gN A) : gT A g ≠ 0 := (grp_bit hA (PN A) (Nat.le_refl _)).2.2 g hg
theorem gT_512 {A : AS} (hA : ASok A) {g : Nat} (hg : g < gN A) : gT A g < 512 := Nat.lt_of_lt_of_le (gT_lt hA hg) (pw_le hA)
theorem gT_fo {A : AS} (hA : ASok A) {g : Nat} (hg : g < gN A) : fo A (gT A g) < PN A := fo_lt (gT_ne hA hg) (gT_lt hA hg)
theorem FrS.gc {me me1 : ME} {A : AS} (h : FrS me me1) (hG : GC me A) : GC me1 A :=
  ⟨h.pt hG.1, by rw [h.1 67 (by decide)]; exact hG.2.1, fun g hg => by rw [h.1 68 (by decide)]; exact hG.2.2.1 g hg, fun k hk => by rw [h.1 69 (by decide)]; exact hG.2.2.2 k hk⟩
theorem VD_01 (A : AS) (b : Nat) : VD A b = 0 ∨ VD A b = 1 ∨ VD A b = 2 := by
  unfold VD
  split
  · exact Or.inl rfl
  · split
    · exact Or.inr (Or.inl rfl)
    · exact Or.inr (Or.inr rfl)
theorem VD_0 (A : AS) (b : Nat) : (iv (VD A b) = 0) = Sure A b := by
  apply propext
  unfold VD
  constructor
  · intro h
    refine Classical.byContradiction fun q => ?_
    rw [if_neg q] at h
    split at h
    · exact absurd h (by decide)
    · exact absurd h (by decide)
  · intro h
    rw [if_pos h]
    rfl
theorem gc_many {me : ME} {A : AS} (h : GC me A) : me.1 67 2 = iv (gN A) := h.2.1
theorem gc_set {me : ME} {A : AS} (h : GC me A) {g : Nat} (hg : g < gN A) : me.1 68 g = iv (gT A g) := h.2.2.1 g hg
theorem gm_many {me : ME} {A : AS} (h : GrM me A (PN A)) : me.1 91 20 = iv (gN A) := h.1
theorem gm_set {me : ME} {A : AS} (h : GrM me A (PN A)) {g : Nat} (hg : g < gN A) : me.1 102 g = iv (gT A g) := h.2 g hg
noncomputable def spVerdict (x : Int) (A : AS) : Int × AS := (if 1 ≤ x ∧ x < ((2 ^ PN A : Nat) : Int) then VD A x.toNat else -1, A)
theorem ok_verdict (x : Int) : OpOK (spVerdict x) := fun A h => h
theorem C_verdict {x : Int} (h1 : -2147483648 ≤ x) (h2 : x ≤ 2147483647) : OpC (fun me => mX9_verdict S1 me 0 (iv x)) (spVerdict x) := by
  intro me A hR hA
  have hn : PN A ≤ 9 := hA.2.2.1.1
  have hp := pw_le hA
  have hp1 : (0 : Int) < ((2 ^ PN A : Nat) : Int) := Int.natCast_pos.mpr (Nat.two_pow_pos _)
  have h14 : me.1 14 3 = iv (PN A) := hR.2.2.1.1
  show ∃ me1, mX9_verdict S1 me 0 (iv x) = some (iv (spVerdict x A).1, me1) ∧ RepC me1 A ∧ EqM me me1
  unfold mX9_verdict mX9_verdict_j18 spVerdict
  by_cases c1 : x < 1
  · rw [if_pos (show iv x < 1 by rw [show (1 : Int32) = iv 1 from rfl, iv_lt (by omega) (by omega) (by omega) (by omega)]; exact c1), if_neg (by omega)]
    exact ⟨me, rfl, hR, EqM.rfl'⟩
  · rw [if_neg (show ¬ iv x < 1 by rw [show (1 : Int32) = iv 1 from rfl, iv_lt (by omega) (by omega) (by omega) (by omega)]; exact c1)]
    simp only [rS_0_3, bs, gI_k kS_14, h14, shl_v (show PN A < 31 by omega)]
    by_cases c2 : x < ((2 ^ PN A : Nat) : Int)
    · rw [if_pos (show iv x < iv ((2 ^ PN A : Nat) : Int) by rw [iv_lt (by omega) (by omega) (by omega) (by omega)]; exact c2), if_pos ⟨by omega, c2⟩]
      obtain ⟨m1, a1, a2, a3, a4⟩ := C_take hR hA
      have fr1 : FrC me m1 := fun r hr => ⟨a3 r (by omega), by rw [a4]⟩
      obtain ⟨m2, b1, b2, -⟩ := C_judge a2 hA (b := x.toNat) (by omega)
      rw [show ((x.toNat : Nat) : Int) = x by omega] at b1
      refine ⟨m2, ?_, (fr1.trans b2.frC).rep hR, (fr1.trans b2.frC).eqM⟩
      simp only [rS_0_7, rS_0_2, rS_0_9, bs, ck_s kS_62, a1, ck_s kS_71, b1]
    · rw [if_neg (show ¬ iv x < iv ((2 ^ PN A : Nat) : Int) by rw [iv_lt (by omega) (by omega) (by omega) (by omega)]; exact c2), if_neg (by omega)]
      exact ⟨me, rfl, hR, EqM.rfl'⟩
theorem M_verd {x : Int} (h1 : -2147483648 ≤ x) (h2 : x ≤ 2147483647) : OpM (fun me => mX10_verdict S1 me 91 (iv x)) (spVerdict x) := by
  intro me A hR hA
  have hn : PN A ≤ 9 := hA.2.2.1.1
  have hp := pw_le hA
  have hp1 : (0 : Int) < ((2 ^ PN A : Nat) : Int) := Int.natCast_pos.mpr (Nat.two_pow_pos _)
  show ∃ me1, mX10_verdict S1 me 91 (iv x) = some (iv (spVerdict x A).1, me1) ∧ RepM me1 A ∧ EqC me me1
  unfold mX10_verdict mX10_verdict_j27 spVerdict
  simp only [rS_91_3, bs, show (0 : Int32) = iv 0 from rfl, aI_k kS_94 lS_94 (i := 0) (by omega) (by omega) (by omega), Int.toNat_zero, many_v hR, shl_v (show PN A < 31 by omega)]
  rw [show (1 : Int32) = iv 1 from rfl, iv_sub]
  by_cases c : 1 ≤ x ∧ x < ((2 ^ PN A : Nat) : Int)
  · simp only [in_t S1 me (x := x) (y := 1) (z := ((2 ^ PN A : Nat) : Int) - 1) ⟨c.1, by omega⟩ (by omega) (by omega), bs]
    rw [if_neg (by decide), if_pos c]
    obtain ⟨m2, b1, b2, -⟩ := M_verdict hR hA (b := x.toNat) (by omega) (fo_lt (by omega) (by omega))
    rw [show ((x.toNat : Nat) : Int) = x by omega] at b1
    refine ⟨m2, ?_, b2.1.rep hR, b2.1.eqC⟩
    simp only [ck_s kS_91, bs, b1]
  · simp only [in_f S1 me (x := x) (y := 1) (z := ((2 ^ PN A : Nat) : Int) - 1) (by omega) (by omega) (by omega) (by omega) (by omega) (by omega) (by omega), bs]
    rw [if_pos (by decide), if_neg c]
    exact ⟨me, rfl, hR, EqC.rfl'⟩
noncomputable def sureN (A : AS) : Nat → Nat
  | 0 => 0
  | g + 1 => sureN A g + @ite _ (Sure A (gT A g)) (Classical.propDecidable _) 1 0
theorem sureN_succ (A : AS) (g : Nat) : sureN A (g + 1) = sureN A g + @ite _ (Sure A (gT A g)) (Classical.propDecidable _) 1 0 := rfl
theorem sureN_le (A : AS) (g : Nat) : sureN A g ≤ g := by
  induction g with
  | zero => exact Nat.le_refl 0
  | succ g ih =>
    unfold sureN
    split <;> omega
theorem C_sure {me : ME} {A : AS} (hR : RepC me A) (hA : ASok A) : ∃ me1 : ME, mX9_sureGroups S1 me 0 = some (iv (sureN A (gN A)), me1) ∧ FrC me me1 := by
  obtain ⟨m1, a1, a2, a3⟩ := C_reg hR hA
  have hg9 := gN_le hA
  unfold mX9_sureGroups
  simp only [ck_s kS_0, bs, a1]
  refine lpn_Q (Q := fun X => ∃ me1 : ME, X = some (iv (sureN A (gN A)), me1) ∧ FrC me me1) (P := fun g x => ∃ m2 : ME, x = (m2, iv (sureN A g), iv g) ∧ GC m2 A ∧ FrC me m2) (e := gN A) ?_ ?_ (gN A) 0 lpF _ (by omega) (by unfold lpF; omega) ⟨m1, rfl, a2, a3⟩
  · rintro g x kk hg ⟨m2, rfl, g1, g2⟩
    obtain ⟨m3, b1, b2, -⟩ := C_judge g1.1 hA (gT_512 hA hg)
    have hs := sureN_le A g
    refine ⟨(m3, iv (sureN A (g + 1)), iv ((g + 1 : Nat) : Int)), ⟨m3, rfl, b2.gc g1, g2.trans b2.frC⟩, ?_⟩
    unfold mX9_sureGroups_L8 mX9_sureGroups_j41
    simp only [rS_0_8, bs, gI_k kS_67, gc_many g1]
    rw [if_neg (show ¬ iv (gN A) ≤ iv g by rw [iv_le (by omega) (by omega) (by omega) (by omega)]; omega)]
    simp only [rS_0_9, rS_67_0, bs, aI_k kS_68 lS_68 (i := (g : Int)) (by omega) (by omega) (by omega), Int.toNat_natCast, gc_set g1 hg, ck_s kS_71, b1]
    rw [sureN_succ]
    by_cases c : Sure A (gT A g)
    · rw [if_pos (show iv (VD A (gT A g)) = 0 by rw [VD_0]; exact c), if_pos c, show (1 : Int32) = iv 1 from rfl, iv_add, iv_add]
      rfl
    · rw [if_neg (show ¬ iv (VD A (gT A g)) = 0 by rw [VD_0]; exact c), if_neg c, show (1 : Int32) = iv 1 from rfl, iv_add]
      rfl
  · rintro x kk ⟨m2, rfl, g1, g2⟩
    refine ⟨m2, ?_, g2⟩
    unfold mX9_sureGroups_L8 mX9_sureGroups_j47
    simp only [rS_0_8, bs, gI_k kS_67, gc_many g1]
    rw [if_pos (show iv (gN A) ≤ iv (gN A) by rw [iv_le (by omega) (by omega) (by omega) (by omega)]; omega)]
theorem M_sure {me : ME} {A : AS} (hR : RepM me A) (hA : ASok A) (hG : GrM me A (PN A)) : ∃ me1 : ME, mX10_sureMany S1 me 91 = some (iv (sureN A (gN A)), me1) ∧ FrM me me1 := by
  have hg9 := gN_le hA
  unfold mX10_sureMany
  refine lpn_Q (Q := fun X => ∃ me1 : ME, X = some (iv (sureN A (gN A)), me1) ∧ FrM me me1) (P := fun g x => ∃ m2 : ME, x = (m2, iv (sureN A g), iv g) ∧ FrV me m2) (e := gN A) ?_ ?_ (gN A) 0 lpF _ (by omega) (by unfold lpF; omega) ⟨me, rfl, FrV.rfl'⟩
  · rintro g x kk hg ⟨m2, rfl, g2⟩
    have g1 := g2.gr hG
    obtain ⟨m3, b1, b2, -⟩ := M_verdict (g2.1.rep hR) hA (gT_512 hA hg) (gT_fo hA hg)
    have hs := sureN_le A g
    refine ⟨(m3, iv (sureN A (g + 1)), iv ((g + 1 : Nat) : Int)), ⟨m3, rfl, g2.trans b2⟩, ?_⟩
    unfold mX10_sureMany_L4 mX10_sureMany_j31
    simp only [bs, gI_k kS_91, gm_many g1]
    rw [if_neg (show ¬ iv (gN A) ≤ iv g by rw [iv_le (by omega) (by omega) (by omega) (by omega)]; omega)]
    simp only [rS_91_21, bs, aI_k kS_102 lS_102 (i := (g : Int)) (by omega) (by omega) (by omega), Int.toNat_natCast, gm_set g1 hg, ck_s kS_91, b1]
    rw [sureN_succ]
    by_cases c : Sure A (gT A g)
    · rw [if_pos (show iv (VD A (gT A g)) = 0 by rw [VD_0]; exact c), if_pos c, show (1 : Int32) = iv 1 from rfl, iv_add, iv_add]
      rfl
    · rw [if_neg (show ¬ iv (VD A (gT A g)) = 0 by rw [VD_0]; exact c), if_neg c, show (1 : Int32) = iv 1 from rfl, iv_add, show (0 : Int32) = iv 0 from rfl, iv_add]
      rfl
  · rintro x kk ⟨m2, rfl, g2⟩
    refine ⟨m2, ?_, g2.1⟩
    unfold mX10_sureMany_L4 mX10_sureMany_j39
    simp only [bs, gI_k kS_91, gm_many (g2.gr hG)]
    rw [if_pos (show iv (gN A) ≤ iv (gN A) by rw [iv_le (by omega) (by omega) (by omega) (by omega)]; omega)]
noncomputable def spCount (x : Int) (A : AS) : Int × AS := (if x = 0 then (A.2.1.1 : Int) else if x = 1 then (PN A : Int) else if x = 2 then (gN A : Int) else if x = 3 then (sureN A (gN A) : Int) else if x = 4 then (A.1.1 : Int) else if x = 5 then (A.2.2.2.1.length : Int) else -1, A)
theorem ok_count (x : Int) : OpOK (spCount x) := fun A h => h
theorem iv_ne {x y : Int} (h1 : -2147483648 ≤ x) (h2 : x ≤ 2147483647) (h3 : -2147483648 ≤ y) (h4 : y ≤ 2147483647) (h : x ≠ y) : ¬ iv x = iv y := by rw [iv_eq h1 h2 h3 h4]; exact h
theorem C_count {x : Int} (h1 : -2147483648 ≤ x) (h2 : x ≤ 2147483647) : OpC (fun me => mX9_count S1 me 0 (iv x)) (spCount x) := by
  intro me A hR hA
  show ∃ me1, mX9_count S1 me 0 (iv x) = some (iv (spCount x A).1, me1) ∧ RepC me1 A ∧ EqM me me1
  unfold mX9_count spCount
  simp only [show (0 : Int32) = iv 0 from rfl, show (1 : Int32) = iv 1 from rfl, show (2 : Int32) = iv 2 from rfl, show (3 : Int32) = iv 3 from rfl, show (4 : Int32) = iv 4 from rfl, show (5 : Int32) = iv 5 from rfl]
  by_cases c0 : x = 0
  · subst c0
    rw [if_pos rfl, if_pos rfl]
    refine ⟨me, ?_, hR, EqM.rfl'⟩
    simp only [rS_0_2, bs, gI_k kS_11, hR.2.1.1]
  rw [if_neg (iv_ne h1 h2 (by omega) (by omega) c0), if_neg c0]
  by_cases c1 : x = 1
  · subst c1
    rw [if_pos rfl, if_pos rfl]
    refine ⟨me, ?_, hR, EqM.rfl'⟩
    simp only [rS_0_3, bs, gI_k kS_14, hR.2.2.1.1]
    rfl
  rw [if_neg (iv_ne h1 h2 (by omega) (by omega) c1), if_neg c1]
  by_cases c2 : x = 2
  · subst c2
    rw [if_pos rfl, if_pos rfl]
    obtain ⟨m1, a1, a2, a3⟩ := C_reg hR hA
    refine ⟨m1, ?_, a3.rep hR, a3.eqM⟩
    simp only [ck_s kS_0, a1, rS_0_8, bs, gI_k kS_67, gc_many a2]
  rw [if_neg (iv_ne h1 h2 (by omega) (by omega) c2), if_neg c2]
  by_cases c3 : x = 3
  · subst c3
    rw [if_pos rfl, if_pos rfl]
    obtain ⟨m1, a1, a2⟩ := C_sure hR hA
    refine ⟨m1, ?_, a2.rep hR, a2.eqM⟩
    simp only [ck_s kS_0, a1, bs]
  rw [if_neg (iv_ne h1 h2 (by omega) (by omega) c3), if_neg c3]
  by_cases c4 : x = 4
  · subst c4
    rw [if_pos rfl, if_pos rfl]
    refine ⟨me, ?_, hR, EqM.rfl'⟩
    simp only [rS_0_0, bs, gI_k kS_1, hR.1.1]
  rw [if_neg (iv_ne h1 h2 (by omega) (by omega) c4), if_neg c4]
  by_cases c5 : x = 5
  · subst c5
    rw [if_pos rfl, if_pos rfl]
    refine ⟨me, ?_, hR, EqM.rfl'⟩
    obtain ⟨nx, n1, n2, n3, n4⟩ := hR.2.2.2.1
    simp only [rS_0_4, bs, gI_k kS_18, n3]
  rw [if_neg (iv_ne h1 h2 (by omega) (by omega) c5), if_neg c5]
  exact ⟨me, rfl, hR, EqM.rfl'⟩
theorem M_count {x : Int} (h1 : -2147483648 ≤ x) (h2 : x ≤ 2147483647) : OpM (fun me => mX10_count S1 me 91 (iv x)) (spCount x) := by
  intro me A hR hA
  obtain ⟨m1, a1, a2, a3⟩ := M_lay hR hA
  have hR1 := a3.rep hR
  show ∃ me1, mX10_count S1 me 91 (iv x) = some (iv (spCount x A).1, me1) ∧ RepM me1 A ∧ EqC me me1
  unfold mX10_count spCount
  simp only [ck_s kS_91, bs, a1, show (0 : Int32) = iv 0 from rfl, show (1 : Int32) = iv 1 from rfl, show (2 : Int32) = iv 2 from rfl, show (3 : Int32) = iv 3 from rfl, show (4 : Int32) = iv 4 from rfl, show (5 : Int32) = iv 5 from rfl]
  by_cases c0 : x = 0
  · subst c0
    rw [if_pos rfl, if_pos rfl]
    refine ⟨m1, ?_, hR1, a3.eqC⟩
    simp only [bs, gI_k kS_91, hR1.2.1.1]
  rw [if_neg (iv_ne h1 h2 (by omega) (by omega) c0), if_neg c0]
  by_cases c1 : x = 1
  · subst c1
    rw [if_pos rfl, if_pos rfl]
    refine ⟨m1, ?_, hR1, a3.eqC⟩
    simp only [rS_91_3, bs, aI_k kS_94 lS_94 (i := 0) (by omega) (by omega) (by omega), Int.toNat_zero, many_v hR1]
  rw [if_neg (iv_ne h1 h2 (by omega) (by omega) c1), if_neg c1]
  by_cases c2 : x = 2
  · subst c2
    rw [if_pos rfl, if_pos rfl]
    refine ⟨m1, ?_, hR1, a3.eqC⟩
    simp only [bs, gI_k kS_91, gm_many a2]
  rw [if_neg (iv_ne h1 h2 (by omega) (by omega) c2), if_neg c2]
  by_cases c3 : x = 3
  · subst c3
    rw [if_pos rfl, if_pos rfl]
    obtain ⟨m2, b1, b2⟩ := M_sure hR1 hA a2
    refine ⟨m2, ?_, b2.rep hR1, (a3.trans b2).eqC⟩
    simp only [b1, bs]
  rw [if_neg (iv_ne h1 h2 (by omega) (by omega) c3), if_neg c3]
  by_cases c4 : x = 4
  · subst c4
    rw [if_pos rfl, if_pos rfl]
    refine ⟨m1, ?_, hR1, a3.eqC⟩
    simp only [bs, gI_k kS_91, hR1.1.1]
  rw [if_neg (iv_ne h1 h2 (by omega) (by omega) c4), if_neg c4]
  by_cases c5 : x = 5
  · subst c5
    rw [if_pos rfl, if_pos rfl]
    refine ⟨m1, ?_, hR1, a3.eqC⟩
    obtain ⟨nx, n1, n2, n3, n4⟩ := hR1.2.2.2.1
    simp only [bs, gI_k kS_91, n3]
  rw [if_neg (iv_ne h1 h2 (by omega) (by omega) c5), if_neg c5]
  exact ⟨m1, rfl, hR1, a3.eqC⟩
