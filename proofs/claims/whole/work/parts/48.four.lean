/-! ===== the four by which the worst is least ===== -/
def cntB (b : Nat) : Nat → Nat
  | 0 => 0
  | k + 1 => cntB b k + (if b.testBit k = true then 1 else 0)
theorem cnt_pc : ∀ b, b < 512 → cntB b 9 = pc b := by decide +kernel
theorem cnt_stop {b n : Nat} (h : b < 2 ^ n) : ∀ k, n ≤ k → cntB b k = cntB b n := by
  intro k
  induction k with
  | zero => intro hk; rw [show n = 0 by omega]
  | succ k ih =>
    intro hk
    by_cases e : n = k + 1
    · rw [e]
    · show cntB b k + (if b.testBit k = true then 1 else 0) = _
      rw [ih (by omega), Nat.testBit_lt_two_pow (Nat.lt_of_lt_of_le h (Nat.pow_le_pow_right (by decide) (show n ≤ k by omega)))]
      rfl
theorem rws_succ (A : AS) (b k : Nat) : rws A b (k + 1) = if fo A b < k ∧ b.testBit k = true then ((rws A b k).1 + 1, va_up (rws A b k).2 (rws A b k).1 k) else rws A b k := rfl
theorem rws_cnt {A : AS} {b : Nat} (hf : fo A b < PN A) : ∀ k, k ≤ PN A → (rws A b k).1 + (if fo A b < k then 1 else 0) = cntB b k := by
  obtain ⟨f1, f2⟩ := fo_bit hf
  intro k
  induction k with
  | zero => intro _; rw [if_neg (by omega)]; rfl
  | succ k ih =>
    intro hk
    have h := ih (by omega)
    show (rws A b (k + 1)).1 + _ = cntB b k + (if b.testBit k = true then 1 else 0)
    rw [← h, rws_succ]
    rcases Nat.lt_trichotomy k (fo A b) with c | c | c
    · rw [if_neg (show ¬ (fo A b < k ∧ _) from fun q => by omega), if_neg (f2 k c), if_neg (by omega), if_neg (by omega)]
    · rw [if_neg (show ¬ (fo A b < k ∧ _) from fun q => by omega), if_pos (show b.testBit k = true by rw [c]; exact f1), if_pos (by omega), if_neg (by omega)]
    · by_cases t : b.testBit k = true
      · rw [if_pos ⟨c, t⟩, if_pos t, if_pos (by omega), if_pos c]
      · rw [if_neg (fun q => t q.2), if_neg t, if_pos (by omega), if_pos c]
theorem mR_pc {A : AS} (hA : ASok A) {b : Nat} (hb : b < 2 ^ PN A) (h0 : b ≠ 0) : mR A b + 1 = pc b := by
  have hn : PN A ≤ 9 := hA.2.2.1.1
  have hf := fo_lt h0 hb
  have := rws_cnt hf (PN A) (Nat.le_refl _)
  rw [if_pos hf] at this
  rw [← cnt_pc b (Nat.lt_of_lt_of_le hb (pw_le hA)), cnt_stop hb 9 hn, ← this]
  rfl
/-- the answer of three rows -/
noncomputable def slD (A : AS) (b : Nat) : Int := sgn (d3 (eR A b 2) (eR A b 1) (eR A b 0) 0 1 2) * d3 (eR A b 2) (eR A b 1) (eR A b 0) 0 1 2
noncomputable def slX (A : AS) (b : Nat) : Int := sgn (d3 (eR A b 2) (eR A b 1) (eR A b 0) 0 1 2) * d3 (eR A b 2) (eR A b 1) (eR A b 0) 3 1 2
noncomputable def slY (A : AS) (b : Nat) : Int := sgn (d3 (eR A b 2) (eR A b 1) (eR A b 0) 0 1 2) * d3 (eR A b 2) (eR A b 1) (eR A b 0) 0 3 2
noncomputable def slT (A : AS) (b : Nat) : Int := sgn (d3 (eR A b 2) (eR A b 1) (eR A b 0) 0 1 2) * d3 (eR A b 2) (eR A b 1) (eR A b 0) 0 1 3
theorem sgn_abs (d : Int) : sgn d * d = d.natAbs := by
  unfold sgn
  split <;> omega
theorem perm3 {E P : Nat → Nat → Int} (h : PermE 3 E P) (hd : d3 (E 2) (E 1) (E 0) 0 1 2 ≠ 0) : (d3 (E 2) (E 1) (E 0) 0 1 2).natAbs = (d3 (P 0) (P 1) (P 2) 0 1 2).natAbs := by
  obtain ⟨a, a1, a2⟩ := h.2 0 (by omega)
  obtain ⟨b, b1, b2⟩ := h.2 1 (by omega)
  obtain ⟨c, c1, c2⟩ := h.2 2 (by omega)
  rw [a2, b2, c2] at hd ⊢
  have n1 : c ≠ b := fun e => hd (by rw [e]; unfold d3; grind)
  have n2 : c ≠ a := fun e => hd (by rw [e]; unfold d3; grind)
  have n3 : b ≠ a := fun e => hd (by rw [e]; unfold d3; grind)
  have key : d3 (P c) (P b) (P a) 0 1 2 = d3 (P 0) (P 1) (P 2) 0 1 2 ∨ d3 (P c) (P b) (P a) 0 1 2 = -d3 (P 0) (P 1) (P 2) 0 1 2 := by
    rcases (show (c = 0 ∧ b = 1 ∧ a = 2) ∨ (c = 0 ∧ b = 2 ∧ a = 1) ∨ (c = 1 ∧ b = 0 ∧ a = 2) ∨ (c = 1 ∧ b = 2 ∧ a = 0) ∨ (c = 2 ∧ b = 0 ∧ a = 1) ∨ (c = 2 ∧ b = 1 ∧ a = 0) by omega) with ⟨e1, e2, e3⟩ | ⟨e1, e2, e3⟩ | ⟨e1, e2, e3⟩ | ⟨e1, e2, e3⟩ | ⟨e1, e2, e3⟩ | ⟨e1, e2, e3⟩
    · subst e1 e2 e3; exact Or.inl rfl
    · subst e1 e2 e3; right; unfold d3; grind
    · subst e1 e2 e3; right; unfold d3; grind
    · subst e1 e2 e3; left; unfold d3; grind
    · subst e1 e2 e3; left; unfold d3; grind
    · subst e1 e2 e3; right; unfold d3; grind
  rcases key with q | q <;> rw [q]
  omega
theorem N3_3 {E : Nat → Nat → Int} (h : N3 3 E) : d3 (E 2) (E 1) (E 0) 0 1 2 ≠ 0 := by
  obtain ⟨r, s, t, q1, q2, q3, q4⟩ := N3_sort h
  have e1 : r = 2 := by omega
  have e2 : s = 1 := by omega
  have e3 : t = 0 := by omega
  subst e1 e2 e3
  exact q4
theorem sl_SvB {A : AS} (hA : ASok A) {b : Nat} (hm : mR A b = 3) (h3 : RK (mR A b) (eR A b) = 3) : SvB (slX A b) (slY A b) (slT A b) (slD A b) := by
  have hB := eR_b hA b
  rw [hm] at hB h3
  exact d3_SvB hB (by omega) (by omega) (by omega) (N3_3 (N3_of h3))
theorem C_sol3 {me : ME} {A : AS} (h : PtC me A) (hA : ASok A) {b : Nat} (hb : b < 512) (hm : mR A b = 3) : ∃ me1 : ME, mX7_solve S1 me 71 (iv b) = some ((), me1) ∧ me1.1 71 3 = iv (RK (mR A b) (eR A b)) ∧ FrS me me1 ∧ (RK (mR A b) (eR A b) = 3 → SvC me1 (slX A b) (slY A b) (slT A b) (slD A b)) := by
  obtain ⟨m1, P, R, last, a1, a2, a3, a4, a5, a6⟩ := C_solve h hA hb
  refine ⟨m1, a1, a4, a6, fun c3 => ?_⟩
  have hS := a5 c3
  rw [c3] at a2
  obtain ⟨hD, hsol, -⟩ := Inv_sol a2
  have s1 := Sol_sg (hsol (fun r r1 r2 => by omega)) (sgn (R 2 2))
  have hN := N3_of c3
  rw [hm] at hN
  have hd := N3_3 hN
  have s2 : Sol (mR A b) (eR A b) (slX A b) (slY A b) (slT A b) (slD A b) := Sol_sg (Sol_three (hsol (fun r r1 r2 => by omega)) hD (show 2 < mR A b by omega) (show 1 < mR A b by omega) (show 0 < mR A b by omega)) _
  obtain ⟨u1, u2, u3⟩ := Sol_un s1 s2 (N3_of c3)
  have eD : sgn (R 2 2) * R 2 2 = slD A b := by
    have hperm := a2.2.2.2.2
    rw [hm] at hperm
    rcases a2.1 with ⟨q, -⟩ | ⟨q, -⟩ | ⟨q, -⟩ | ⟨-, -, -, q4⟩
    · omega
    · omega
    · omega
    · have e2 : R 2 2 = d3 (P 0) (P 1) (P 2) 0 1 2 := by rw [q4 2 2 (by omega) (by omega)]; unfold st3; rw [if_neg (by decide), if_neg (by decide), if_pos rfl]
      unfold slD
      rw [sgn_abs, sgn_abs, e2, perm3 hperm hd]
  have hpos : slD A b ≠ 0 := by
    have := sgn_pos hd
    unfold slD
    omega
  rw [eD] at u1 u2 u3 hS
  have e : ∀ x y : Int, x * slD A b = y * slD A b → x = y := fun x y q => Int.eq_of_mul_eq_mul_right hpos q
  rw [e _ _ u1, e _ _ u2, e _ _ u3] at hS
  exact hS
/-- the largest that the squares differ by, at the readings of g below k -/
noncomputable def mxD (A : AS) (g : Nat) (X Y T D : Int) : Nat → Int
  | 0 => 0
  | k + 1 => if g.testBit k = true then max (mxD A g X Y T D k) ((df A k X Y T D).natAbs : Int) else mxD A g X Y T D k
theorem mxD_b {A : AS} (hA : ASok A) {g : Nat} {X Y T D : Int} (hV : SvB X Y T D) : ∀ k, k ≤ PN A → 0 ≤ mxD A g X Y T D k ∧ mxD A g X Y T D k ≤ 5000000000000000000 := by
  intro k
  induction k with
  | zero => intro _; exact ⟨Int.le_refl 0, by show (0 : Int) ≤ _; omega⟩
  | succ k ih =>
    intro hk
    have h := ih (by omega)
    have := df_b hA (show k < PN A by omega) hV
    unfold mxD
    split <;> omega
noncomputable def wsD (A : AS) (g : Nat) (X Y T D : Int) : Int := min (mxD A g X Y T D (PN A) / (D * D)) 999999999
theorem D2_b {X Y T D : Int} (hV : SvB X Y T D) : 0 < D * D ∧ D * D ≤ 190434700836864 := by
  obtain ⟨-, -, -, h1, h2⟩ := hV
  refine ⟨Int.mul_pos h1 h1, ?_⟩
  have := Int.mul_self_le_mul_self (Int.le_of_lt h1) h2
  omega
theorem div_b {x y : Int} (h0 : 0 ≤ x) (hy : 0 < y) : 0 ≤ x / y ∧ x / y ≤ x := ⟨Int.ediv_nonneg h0 (Int.le_of_lt hy), Int.ediv_le_self _ h0⟩
theorem wsD_b {A : AS} (hA : ASok A) {g : Nat} {X Y T D : Int} (hV : SvB X Y T D) : 0 ≤ wsD A g X Y T D ∧ wsD A g X Y T D ≤ 999999999 := by
  have h1 := mxD_b hA (g := g) hV (PN A) (Nat.le_refl _)
  have h2 := div_b h1.1 (D2_b hV).1
  unfold wsD
  omega
theorem abs_v (S : SH) (me : ME) {x : Int} (h : x.natAbs ≤ 9000000000000000000) : mJ9_abs_067f4 S me (jv x) = some (jv (x.natAbs : Int), me) := by
  unfold mJ9_abs_067f4 mJ9_abs_067f4_j12
  by_cases c : x < 0
  · rw [if_neg (by rw [show (0 : Int64) = jv 0 from rfl, lg_ge0 (by omega) (by omega) (by omega) (by omega)]; omega), jv_neg, show -x = (x.natAbs : Int) by omega]
  · rw [if_pos (by rw [show (0 : Int64) = jv 0 from rfl, lg_ge0 (by omega) (by omega) (by omega) (by omega)]; omega), show (x.natAbs : Int) = x by omega]
theorem max_v (S : SH) (me : ME) {x y : Int} (hx : x.natAbs ≤ 9000000000000000000) (hy : y.natAbs ≤ 9000000000000000000) : mJ9_max_f86c9 S me (jv x) (jv y) = some (jv (max x y), me) := by
  unfold mJ9_max_f86c9 mJ9_max_f86c9_j11
  by_cases c : x < y
  · rw [if_pos (by rw [lg_lt0 (by omega) (by omega) (by omega) (by omega)]; exact c), Int.max_eq_right (by omega)]
  · rw [if_neg (by rw [lg_lt0 (by omega) (by omega) (by omega) (by omega)]; exact c), Int.max_eq_left (by omega)]
theorem minJ_v (S : SH) (me : ME) {x y : Int} (hx : x.natAbs ≤ 9000000000000000000) (hy : y.natAbs ≤ 9000000000000000000) : mJ9_min_f86c9 S me (jv x) (jv y) = some (jv (min x y), me) := by
  unfold mJ9_min_f86c9 mJ9_min_f86c9_j11
  by_cases c : y < x
  · rw [if_pos (by rw [lg_gt0 (by omega) (by omega) (by omega) (by omega)]; exact c), Int.min_eq_right (by omega)]
  · rw [if_neg (by rw [lg_gt0 (by omega) (by omega) (by omega) (by omega)]; exact c), Int.min_eq_left (by omega)]
theorem C_worst {me : ME} {A : AS} (h : PtC me A) (hA : ASok A) {g : Nat} (hg : g < 512) {X Y T D : Int} (hS : SvC me X Y T D) (hV : SvB X Y T D) : mX0_worstOf S1 me 82 (iv g) = some (iv (wsD A g X Y T D), me) := by
  have hn : PN A ≤ 9 := hA.2.2.1.1
  have hD := D2_b hV
  unfold mX0_worstOf
  refine lpn_up (P := fun k x => x = (me, jv (mxD A g X Y T D k), iv k)) (e := PN A) ?_ ?_ (PN A) 0 lpF _ (by omega) (by unfold lpF; omega) rfl
  · rintro k x kk hk rfl
    refine ⟨_, rfl, ?_⟩
    have hb := mxD_b hA (g := g) hV k (by omega)
    have hdf := df_b hA hk hV
    unfold mX0_worstOf_L5 mX0_worstOf_j43
    simp only [rS_82_0, bs, gI_k kS_62, h.1, show (1 : Int32) = iv 1 from rfl, iv_add]
    rw [if_neg (show ¬ iv (PN A) ≤ iv k by rw [iv_le (by omega) (by omega) (by omega) (by omega)]; omega)]
    simp only [holds_v S1 me (show g < 2147483648 by omega) (show k < 31 by omega), bs]
    show _ = kk (me, jv (if g.testBit k = true then max (mxD A g X Y T D k) ((df A k X Y T D).natAbs : Int) else mxD A g X Y T D k), iv ((k + 1 : Nat) : Int))
    by_cases c : g.testBit k = true
    · rw [if_pos c, if_neg (by decide), if_pos c]
      simp only [rS_82_1, bs, ck_s kS_71, miss_v h hA hS hk, abs_v S1 me (show (df A k X Y T D).natAbs ≤ 9000000000000000000 by omega), max_v S1 me (x := mxD A g X Y T D k) (y := ((df A k X Y T D).natAbs : Int)) (by omega) (by omega)]
      rfl
    · rw [if_neg c, if_pos rfl, if_neg c]
      rfl
  · rintro x kk rfl
    have hb := mxD_b hA (g := g) hV (PN A) (Nat.le_refl _)
    have hq := div_b hb.1 hD.1
    unfold mX0_worstOf_L5 mX0_worstOf_j49 mX0_worstOf_j88
    simp only [rS_82_0, bs, gI_k kS_62, h.1]
    rw [if_pos (show iv (PN A) ≤ iv (PN A) by rw [iv_le (by omega) (by omega) (by omega) (by omega)]; omega)]
    simp only [rS_82_1, bs, gJ_k kS_71, hS.2.2.2, jv_mul]
    rw [if_neg (by rw [lg_z (by omega)]; omega), if_neg (show ¬ jv (D * D) = 0 by rw [show (0 : Int64) = jv 0 from rfl, jv_eq (by omega) (by omega) (by omega) (by omega)]; omega), jv_div (by omega) (by omega) (by omega) (by omega), Int.tdiv_eq_ediv_of_nonneg hb.1]
    simp only [show (999999999 : Int64) = jv 999999999 from rfl, minJ_v S1 me (x := mxD A g X Y T D (PN A) / (D * D)) (y := 999999999) (by omega) (by omega), bs, jv_I]
    rfl
theorem M_worst {me : ME} {A : AS} (hR : RepM me A) (hA : ASok A) {g : Nat} (hg : g < 512) {X Y T D : Int} (hS : SvM me X Y T D) (hV : SvB X Y T D) : mX10_worstOf S1 me 91 (iv g) = some (iv (wsD A g X Y T D), me) := by
  have hn : PN A ≤ 9 := hA.2.2.1.1
  have hD := D2_b hV
  unfold mX10_worstOf
  refine lpn_up (P := fun k x => x = (me, jv (mxD A g X Y T D k / (D * D)), iv k)) (e := PN A) ?_ ?_ (PN A) 0 lpF _ (by omega) (by unfold lpF; omega) ?_
  · rintro k x kk hk rfl
    refine ⟨_, rfl, ?_⟩
    have hb := mxD_b hA (g := g) hV k (by omega)
    have hdf := df_b hA hk hV
    have hq := div_b hb.1 hD.1
    have hq2 := div_b (x := ((df A k X Y T D).natAbs : Int)) (by omega) hD.1
    unfold mX10_worstOf_L5 mX10_worstOf_j78
    simp only [rS_91_3, bs, show (0 : Int32) = iv 0 from rfl, aI_k kS_94 lS_94 (i := 0) (by omega) (by omega) (by omega), Int.toNat_zero, many_v hR, show (1 : Int32) = iv 1 from rfl, iv_add]
    rw [if_neg (show ¬ iv (PN A) ≤ iv k by rw [iv_le (by omega) (by omega) (by omega) (by omega)]; omega)]
    simp only [has_v S1 me (show g < 2147483648 by omega) (show k < 31 by omega), bs]
    show _ = kk (me, jv ((if g.testBit k = true then max (mxD A g X Y T D k) ((df A k X Y T D).natAbs : Int) else mxD A g X Y T D k) / (D * D)), iv ((k + 1 : Nat) : Int))
    by_cases c : g.testBit k = true
    · rw [if_pos c, if_neg (by decide), if_pos c]
      simp only [bs, ck_s kS_91, differs_v hR hA hS hk]
      have fin : mX10_worstOf_j48 S1 91 (iv g) kk me (jv (mxD A g X Y T D k / (D * D))) (iv k) (jv ((df A k X Y T D).natAbs : Int)) = kk (me, jv (max (mxD A g X Y T D k) ((df A k X Y T D).natAbs : Int) / (D * D)), iv ((k + 1 : Nat) : Int)) := by
        unfold mX10_worstOf_j48 mX10_worstOf_j77 mX10_worstOf_j78
        simp only [gJ_k kS_91, bs, hS.2.2.2, jv_mul]
        rw [if_neg (show ¬ jv (D * D) = 0 by rw [show (0 : Int64) = jv 0 from rfl, jv_eq (by omega) (by omega) (by omega) (by omega)]; omega), jv_div (by omega) (by omega) (by omega) (by omega), Int.tdiv_eq_ediv_of_nonneg (by omega), show (1 : Int32) = iv 1 from rfl, iv_add]
        rcases Int.le_total (mxD A g X Y T D k) ((df A k X Y T D).natAbs : Int) with q | q
        · rw [Int.max_eq_right q]
          have := Int.ediv_le_ediv hD.1 q
          by_cases e : ((df A k X Y T D).natAbs : Int) / (D * D) ≤ mxD A g X Y T D k / (D * D)
          · rw [if_pos (by rw [lg_le0 (by omega) (by omega) (by omega) (by omega)]; exact e), show ((df A k X Y T D).natAbs : Int) / (D * D) = mxD A g X Y T D k / (D * D) by omega]
            rfl
          · rw [if_neg (by rw [lg_le0 (by omega) (by omega) (by omega) (by omega)]; exact e)]
            rfl
        · rw [Int.max_eq_left q]
          have := Int.ediv_le_ediv hD.1 q
          rw [if_pos (by rw [lg_le0 (by omega) (by omega) (by omega) (by omega)]; exact this)]
          rfl
      rw [← fin]
      by_cases cs : df A k X Y T D < 0
      · rw [if_neg (by rw [show iv 0 = (0 : Int32) from rfl, show (0 : Int64) = jv 0 from rfl, lg_ge0 (by omega) (by omega) (by omega) (by omega)]; omega), jv_neg, show -df A k X Y T D = ((df A k X Y T D).natAbs : Int) by omega]
      · rw [if_pos (by rw [show iv 0 = (0 : Int32) from rfl, show (0 : Int64) = jv 0 from rfl, lg_ge0 (by omega) (by omega) (by omega) (by omega)]; omega)]
        rw [show jv (df A k X Y T D) = jv ((df A k X Y T D).natAbs : Int) from congrArg jv (by omega)]
    · rw [if_neg c, if_pos (show (0 : Int32) = iv 0 from rfl), if_neg c]
      rfl
  · rintro x kk rfl
    have hb := mxD_b hA (g := g) hV (PN A) (Nat.le_refl _)
    have hq := div_b hb.1 hD.1
    unfold mX10_worstOf_L5 mX10_worstOf_j84 mX10_worstOf_j99
    simp only [rS_91_3, bs, show (0 : Int32) = iv 0 from rfl, aI_k kS_94 lS_94 (i := 0) (by omega) (by omega) (by omega), Int.toNat_zero, many_v hR]
    rw [if_pos (show iv (PN A) ≤ iv (PN A) by rw [iv_le (by omega) (by omega) (by omega) (by omega)]; omega), show (999999999 : Int64) = jv 999999999 from rfl, jv_I]
    unfold wsD
    by_cases c : mxD A g X Y T D (PN A) / (D * D) ≤ 999999999
    · rw [if_pos (by rw [show iv 0 = (0 : Int32) from rfl, lg_le0 (by omega) (by omega) (by omega) (by omega)]; exact c), Int.min_eq_left c]
    · rw [if_neg (by rw [show iv 0 = (0 : Int32) from rfl, lg_le0 (by omega) (by omega) (by omega) (by omega)]; exact c), Int.min_eq_right (by omega)]
      rfl
  · show (me, (0 : Int64), (0 : Int32)) = (me, jv (0 / (D * D)), iv ((0 : Nat) : Int))
    rw [Int.zero_ediv]
    rfl
