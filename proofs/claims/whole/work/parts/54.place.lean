/-! ===== place ===== -/
theorem slC_ex {A : AS} {s : Nat} (h : Sure A s) : ∃ p : Int × Int × Int × Int, 0 < p.2.2.2 ∧ Sol (mR A s) (eR A s) p.1 p.2.1 p.2.2.1 p.2.2.2 := by
  obtain ⟨-, X, Y, T, D, h1, h2, -⟩ := h
  exact ⟨(X, Y, T, D), h1, h2⟩
noncomputable def slC (A : AS) (s : Nat) : Int × Int × Int × Int := @dite _ (Sure A s) (Classical.propDecidable _) (fun h => Classical.choose (slC_ex h)) (fun _ => (0, 0, 0, 0))
theorem slC_ok {A : AS} {s : Nat} (h : Sure A s) : 0 < (slC A s).2.2.2 ∧ Sol (mR A s) (eR A s) (slC A s).1 (slC A s).2.1 (slC A s).2.2.1 (slC A s).2.2.2 := by
  have e : slC A s = Classical.choose (slC_ex h) := dif_pos h
  rw [e]
  exact Classical.choose_spec (slC_ex h)
noncomputable def plV (A : AS) (s : Nat) (w : Int) : Int := if w = 0 then lowU (slC A s).1 (slC A s).2.2.2 else if w = 1 then lowL (slC A s).1 (slC A s).2.2.2 else if w = 2 then lowU (slC A s).2.1 (slC A s).2.2.2 else if w = 3 then lowL (slC A s).2.1 (slC A s).2.2.2 else if w = 4 then lowU (slC A s).2.2.1 (slC A s).2.2.2 else lowL (slC A s).2.2.1 (slC A s).2.2.2
theorem plV_0 {A : AS} {s : Nat} (h : Sure A s) {X Y T D : Int} (hV : SvB X Y T D) (hS : Sol (mR A s) (eR A s) X Y T D) : plV A s 0 = lowU X D := by
  unfold plV
  rw [if_pos rfl]
  have u := Sol_un (slC_ok h).2 hS (N3_of h.1)
  exact (low_eq u.1 (slC_ok h).1 hV.2.2.2.1).1
theorem plV_1 {A : AS} {s : Nat} (h : Sure A s) {X Y T D : Int} (hV : SvB X Y T D) (hS : Sol (mR A s) (eR A s) X Y T D) : plV A s 1 = lowL X D := by
  unfold plV
  rw [if_neg (by decide), if_pos rfl]
  have u := Sol_un (slC_ok h).2 hS (N3_of h.1)
  exact (low_eq u.1 (slC_ok h).1 hV.2.2.2.1).2
theorem plV_2 {A : AS} {s : Nat} (h : Sure A s) {X Y T D : Int} (hV : SvB X Y T D) (hS : Sol (mR A s) (eR A s) X Y T D) : plV A s 2 = lowU Y D := by
  unfold plV
  rw [if_neg (by decide), if_neg (by decide), if_pos rfl]
  have u := Sol_un (slC_ok h).2 hS (N3_of h.1)
  exact (low_eq u.2.1 (slC_ok h).1 hV.2.2.2.1).1
theorem plV_3 {A : AS} {s : Nat} (h : Sure A s) {X Y T D : Int} (hV : SvB X Y T D) (hS : Sol (mR A s) (eR A s) X Y T D) : plV A s 3 = lowL Y D := by
  unfold plV
  rw [if_neg (by decide), if_neg (by decide), if_neg (by decide), if_pos rfl]
  have u := Sol_un (slC_ok h).2 hS (N3_of h.1)
  exact (low_eq u.2.1 (slC_ok h).1 hV.2.2.2.1).2
theorem plV_4 {A : AS} {s : Nat} (h : Sure A s) {X Y T D : Int} (hV : SvB X Y T D) (hS : Sol (mR A s) (eR A s) X Y T D) : plV A s 4 = lowU T D := by
  unfold plV
  rw [if_neg (by decide), if_neg (by decide), if_neg (by decide), if_neg (by decide), if_pos rfl]
  have u := Sol_un (slC_ok h).2 hS (N3_of h.1)
  exact (low_eq u.2.2 (slC_ok h).1 hV.2.2.2.1).1
theorem plV_5 {A : AS} {s : Nat} (h : Sure A s) {X Y T D : Int} (hV : SvB X Y T D) (hS : Sol (mR A s) (eR A s) X Y T D) : plV A s 5 = lowL T D := by
  unfold plV
  rw [if_neg (by decide), if_neg (by decide), if_neg (by decide), if_neg (by decide), if_neg (by decide)]
  have u := Sol_un (slC_ok h).2 hS (N3_of h.1)
  exact (low_eq u.2.2 (slC_ok h).1 hV.2.2.2.1).2
noncomputable def spPlace (g w : Int) (A : AS) : Int × AS := (@ite _ ((0 ≤ g ∧ g ≤ (gN A : Int) - 1) ∧ (0 ≤ w ∧ w ≤ 5) ∧ Sure A (gT A g.toNat)) (Classical.propDecidable _) (plV A (gT A g.toNat) w) (-1000000000), A)
theorem ok_place (g w : Int) : OpOK (spPlace g w) := fun A h => h
theorem C_place {g w : Int} (h1 : -2147483648 ≤ g) (h2 : g ≤ 2147483647) (h3 : -2147483648 ≤ w) (h4 : w ≤ 2147483647) : OpC (fun me => mX9_place S1 me 0 (iv g) (iv w)) (spPlace g w) := by
  intro me A hR hA
  have hg9 := gN_le hA
  obtain ⟨m1, a1, a2, a3⟩ := C_reg hR hA
  have key : ∃ (v : Int) (m : ME), mX9_place S1 me 0 (iv g) (iv w) = some (iv v, m) ∧ FrC me m ∧ v = (spPlace g w A).1 := by
    have m1g : iv (gN A : Int) - 1 = iv ((gN A : Int) - 1) := by rw [show (1 : Int32) = iv 1 from rfl, iv_sub]
    have one0 : ¬ (1 : Int32) = 0 := by decide
    by_cases cg : 0 ≤ g ∧ g ≤ (gN A : Int) - 1
    · have wg : mX9_within S1 m1 (iv g) (iv ((gN A : Int) - 1)) = some (1, m1) := within_t S1 m1 cg (by omega)
      have hg : g.toNat < gN A := by omega
      have hset : m1.1 68 g.toNat = iv (gT A g.toNat) := gc_set a2 hg
      have hs5 := gT_512 hA hg
      have hfo := gT_fo hA hg
      by_cases cw : 0 ≤ w ∧ w ≤ 5
      · have ww : mX9_within S1 m1 (iv w) (5 : Int32) = some (1, m1) := within_t S1 m1 (y := 5) cw (by omega)
        unfold mX9_place
        simp only [ck_s kS_0, bs, a1, rS_0_8, rS_0_9, rS_67_0, gI_k kS_67, gc_many a2, m1g, wg, ww, if_neg one0, aI_k kS_68 lS_68 (i := g) (by omega) (by omega) (by omega), hset, ck_s kS_71]
        unfold spPlace
        generalize gT A g.toNat = s at *
        obtain ⟨m2, b1, b2, b3⟩ := C_judge a2.1 hA hs5
        simp only [b1, bs, gJ_k kS_71]
        by_cases su : Sure A s
        · obtain ⟨X, Y, T, D, e1, e2, e3⟩ := b3 su
          obtain ⟨x1, x2, x3, x4, x5⟩ := id e2
          rw [if_pos (show iv (VD A s) = 0 by rw [VD_0]; exact su), if_pos (show (0 ≤ g ∧ g ≤ (gN A : Int) - 1) ∧ (0 ≤ w ∧ w ≤ 5) ∧ Sure A s from ⟨cg, cw, su⟩)]
          simp only [e1.1, e1.2.1, e1.2.2.1, e1.2.2.2]
          rcases (show w = 0 ∨ w = 1 ∨ w = 2 ∨ w = 3 ∨ w = 4 ∨ w = 5 by omega) with rfl | rfl | rfl | rfl | rfl | rfl
          · refine ⟨_, m2, ?_, a3.trans b2.frC, (plV_0 su e2 e3).symm⟩
            rw [if_pos (show iv 0 = (0 : Int32) from rfl)]
            simp only [upper_v S1 m2 (X := X) (D := D) (by omega) (by omega) (by omega), bs]
          · refine ⟨_, m2, ?_, a3.trans b2.frC, (plV_1 su e2 e3).symm⟩
            rw [if_neg (show ¬ iv 1 = (0 : Int32) by decide), if_pos (show iv 1 = (1 : Int32) from rfl)]
            simp only [lower_v S1 m2 (X := X) (D := D) (by omega) (by omega) (by omega), bs]
          · refine ⟨_, m2, ?_, a3.trans b2.frC, (plV_2 su e2 e3).symm⟩
            rw [if_neg (show ¬ iv 2 = (0 : Int32) by decide), if_neg (show ¬ iv 2 = (1 : Int32) by decide), if_pos (show iv 2 = (2 : Int32) from rfl)]
            simp only [upper_v S1 m2 (X := Y) (D := D) (by omega) (by omega) (by omega), bs]
          · refine ⟨_, m2, ?_, a3.trans b2.frC, (plV_3 su e2 e3).symm⟩
            rw [if_neg (show ¬ iv 3 = (0 : Int32) by decide), if_neg (show ¬ iv 3 = (1 : Int32) by decide), if_neg (show ¬ iv 3 = (2 : Int32) by decide), if_pos (show iv 3 = (3 : Int32) from rfl)]
            simp only [lower_v S1 m2 (X := Y) (D := D) (by omega) (by omega) (by omega), bs]
          · refine ⟨_, m2, ?_, a3.trans b2.frC, (plV_4 su e2 e3).symm⟩
            rw [if_neg (show ¬ iv 4 = (0 : Int32) by decide), if_neg (show ¬ iv 4 = (1 : Int32) by decide), if_neg (show ¬ iv 4 = (2 : Int32) by decide), if_neg (show ¬ iv 4 = (3 : Int32) by decide), if_pos (show iv 4 = (4 : Int32) from rfl)]
            simp only [upper_v S1 m2 (X := T) (D := D) (by omega) (by omega) (by omega), bs]
          · refine ⟨_, m2, ?_, a3.trans b2.frC, (plV_5 su e2 e3).symm⟩
            rw [if_neg (show ¬ iv 5 = (0 : Int32) by decide), if_neg (show ¬ iv 5 = (1 : Int32) by decide), if_neg (show ¬ iv 5 = (2 : Int32) by decide), if_neg (show ¬ iv 5 = (3 : Int32) by decide), if_neg (show ¬ iv 5 = (4 : Int32) by decide)]
            simp only [lower_v S1 m2 (X := T) (D := D) (by omega) (by omega) (by omega), bs]
        · refine ⟨-1000000000, m2, ?_, a3.trans b2.frC, (if_neg (fun q => su q.2.2)).symm⟩
          rw [if_neg (show ¬ iv (VD A s) = 0 by rw [VD_0]; exact su)]
          rfl
      · have ww : mX9_within S1 m1 (iv w) (5 : Int32) = some (0, m1) := within_f S1 m1 (y := 5) cw (by omega) (by omega) (by omega) (by omega)
        refine ⟨-1000000000, m1, ?_, a3, (if_neg (fun q => cw q.2.1)).symm⟩
        unfold mX9_place mX9_place_j28
        simp only [ck_s kS_0, bs, a1, rS_0_8, gI_k kS_67, gc_many a2, m1g, wg, ww, if_neg one0]
        rw [if_pos trivial]
        rfl
    · have wg : mX9_within S1 m1 (iv g) (iv ((gN A : Int) - 1)) = some (0, m1) := within_f S1 m1 cg (by omega) (by omega) (by omega) (by omega)
      refine ⟨-1000000000, m1, ?_, a3, (if_neg (fun q => cg q.1)).symm⟩
      unfold mX9_place mX9_place_j28
      simp only [ck_s kS_0, bs, a1, rS_0_8, gI_k kS_67, gc_many a2, m1g, wg]
      rw [if_pos trivial]
      rfl
  obtain ⟨v, m, e, f, q⟩ := key
  exact ⟨m, by show mX9_place S1 me 0 (iv g) (iv w) = _; rw [e, q], f.rep hR, f.eqM⟩
theorem M_place {g w : Int} (h1 : -2147483648 ≤ g) (h2 : g ≤ 2147483647) (h3 : -2147483648 ≤ w) (h4 : w ≤ 2147483647) : OpM (fun me => mX10_place S1 me 91 (iv g) (iv w)) (spPlace g w) := by
  intro me A hR hA
  have hg9 := gN_le hA
  obtain ⟨m1, a1, a2, a3⟩ := M_lay hR hA
  have hR1 := a3.rep hR
  have key : ∃ (v : Int) (m : ME), mX10_place S1 me 91 (iv g) (iv w) = some (iv v, m) ∧ FrM me m ∧ v = (spPlace g w A).1 := by
    have m1g : iv (gN A : Int) - 1 = iv ((gN A : Int) - 1) := by rw [show (1 : Int32) = iv 1 from rfl, iv_sub]
    have one0 : ¬ (1 : Int32) = 0 := by decide
    by_cases cg : 0 ≤ g ∧ g ≤ (gN A : Int) - 1
    · have wg : mX10_in S1 m1 (iv g) (0 : Int32) (iv ((gN A : Int) - 1)) = some (1, m1) := in_t S1 m1 (y := 0) cg (by omega) (by omega)
      have hg : g.toNat < gN A := by omega
      have hset : m1.1 102 g.toNat = iv (gT A g.toNat) := gm_set a2 hg
      have hs5 := gT_512 hA hg
      have hfo := gT_fo hA hg
      by_cases cw : 0 ≤ w ∧ w ≤ 5
      · have ww : mX10_in S1 m1 (iv w) (0 : Int32) (5 : Int32) = some (1, m1) := in_t S1 m1 (y := 0) (z := 5) cw (by omega) (by omega)
        unfold mX10_place
        simp only [ck_s kS_91, bs, a1, rS_91_21, gI_k kS_91, gm_many a2, m1g, wg, ww, if_neg one0, aI_k kS_102 lS_102 (i := g) (by omega) (by omega) (by omega), hset]
        unfold spPlace
        generalize gT A g.toNat = s at *
        obtain ⟨m2, b1, b2, b3⟩ := M_verdict hR1 hA hs5 hfo
        simp only [b1, bs, gJ_k kS_91]
        by_cases su : Sure A s
        · obtain ⟨X, Y, T, D, e1, e2, e3⟩ := b3 su
          obtain ⟨x1, x2, x3, x4, x5⟩ := id e2
          rw [if_pos (show iv (VD A s) = 0 by rw [VD_0]; exact su), if_pos (show (0 ≤ g ∧ g ≤ (gN A : Int) - 1) ∧ (0 ≤ w ∧ w ≤ 5) ∧ Sure A s from ⟨cg, cw, su⟩)]
          simp only [e1.1, e1.2.1, e1.2.2.1, e1.2.2.2]
          rcases (show w = 0 ∨ w = 1 ∨ w = 2 ∨ w = 3 ∨ w = 4 ∨ w = 5 by omega) with rfl | rfl | rfl | rfl | rfl | rfl
          · refine ⟨_, m2, ?_, a3.trans b2.1, (plV_0 su e2 e3).symm⟩
            rw [if_neg (show ¬ (2 : Int32) ≤ iv 0 by decide)]
            unfold mX10_place_j71 mX10_place_j86
            simp only [gJ_k kS_91, e1.2.2.2, bs]
            rw [if_pos (show iv 0 - iv 0 / (2 : Int32) * (2 : Int32) = 0 by decide)]
            simp only [lowest_v S1 m2 (X := X) (D := D) (by omega) (by omega) (by omega), bs]
            rw [if_neg one0]
          · refine ⟨_, m2, ?_, a3.trans b2.1, (plV_1 su e2 e3).symm⟩
            rw [if_neg (show ¬ (2 : Int32) ≤ iv 1 by decide)]
            unfold mX10_place_j71 mX10_place_j86
            simp only [gJ_k kS_91, e1.2.2.2, bs]
            rw [if_neg (show ¬ iv 1 - iv 1 / (2 : Int32) * (2 : Int32) = 0 by decide)]
            simp only [lowest_v S1 m2 (X := X) (D := D) (by omega) (by omega) (by omega), bs]
            rw [if_pos trivial]
          · refine ⟨_, m2, ?_, a3.trans b2.1, (plV_2 su e2 e3).symm⟩
            rw [if_pos (show (2 : Int32) ≤ iv 2 by decide), if_neg (show ¬ (4 : Int32) ≤ iv 2 by decide)]
            unfold mX10_place_j71 mX10_place_j86
            simp only [gJ_k kS_91, e1.2.2.2, bs]
            rw [if_pos (show iv 2 - iv 2 / (2 : Int32) * (2 : Int32) = 0 by decide)]
            simp only [lowest_v S1 m2 (X := Y) (D := D) (by omega) (by omega) (by omega), bs]
            rw [if_neg one0]
          · refine ⟨_, m2, ?_, a3.trans b2.1, (plV_3 su e2 e3).symm⟩
            rw [if_pos (show (2 : Int32) ≤ iv 3 by decide), if_neg (show ¬ (4 : Int32) ≤ iv 3 by decide)]
            unfold mX10_place_j71 mX10_place_j86
            simp only [gJ_k kS_91, e1.2.2.2, bs]
            rw [if_neg (show ¬ iv 3 - iv 3 / (2 : Int32) * (2 : Int32) = 0 by decide)]
            simp only [lowest_v S1 m2 (X := Y) (D := D) (by omega) (by omega) (by omega), bs]
            rw [if_pos trivial]
          · refine ⟨_, m2, ?_, a3.trans b2.1, (plV_4 su e2 e3).symm⟩
            rw [if_pos (show (2 : Int32) ≤ iv 4 by decide), if_pos (show (4 : Int32) ≤ iv 4 by decide)]
            unfold mX10_place_j71 mX10_place_j86
            simp only [gJ_k kS_91, e1.2.2.2, bs]
            rw [if_pos (show iv 4 - iv 4 / (2 : Int32) * (2 : Int32) = 0 by decide)]
            simp only [lowest_v S1 m2 (X := T) (D := D) (by omega) (by omega) (by omega), bs]
            rw [if_neg one0]
          · refine ⟨_, m2, ?_, a3.trans b2.1, (plV_5 su e2 e3).symm⟩
            rw [if_pos (show (2 : Int32) ≤ iv 5 by decide), if_pos (show (4 : Int32) ≤ iv 5 by decide)]
            unfold mX10_place_j71 mX10_place_j86
            simp only [gJ_k kS_91, e1.2.2.2, bs]
            rw [if_neg (show ¬ iv 5 - iv 5 / (2 : Int32) * (2 : Int32) = 0 by decide)]
            simp only [lowest_v S1 m2 (X := T) (D := D) (by omega) (by omega) (by omega), bs]
            rw [if_pos trivial]
        · refine ⟨-1000000000, m2, ?_, a3.trans b2.1, (if_neg (fun q => su q.2.2)).symm⟩
          rw [if_neg (show ¬ iv (VD A s) = 0 by rw [VD_0]; exact su)]
          rfl
      · have ww : mX10_in S1 m1 (iv w) (0 : Int32) (5 : Int32) = some (0, m1) := in_f S1 m1 (y := 0) (z := 5) cw (by omega) (by omega) (by omega) (by omega) (by omega) (by omega)
        refine ⟨-1000000000, m1, ?_, a3, (if_neg (fun q => cw q.2.1)).symm⟩
        unfold mX10_place mX10_place_j40
        simp only [ck_s kS_91, bs, a1, gI_k kS_91, gm_many a2, m1g, wg, ww, if_neg one0]
        rw [if_pos trivial]
        rfl
    · have wg : mX10_in S1 m1 (iv g) (0 : Int32) (iv ((gN A : Int) - 1)) = some (0, m1) := in_f S1 m1 (y := 0) cg (by omega) (by omega) (by omega) (by omega) (by omega) (by omega)
      refine ⟨-1000000000, m1, ?_, a3, (if_neg (fun q => cg q.1)).symm⟩
      unfold mX10_place mX10_place_j40
      simp only [ck_s kS_91, bs, a1, gI_k kS_91, gm_many a2, m1g, wg]
      rw [if_pos trivial]
      rfl
  obtain ⟨v, m, e, f, q⟩ := key
  exact ⟨m, by show mX10_place S1 me 91 (iv g) (iv w) = _; rw [e, q], f.rep hR, f.eqC⟩
