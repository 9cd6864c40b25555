/-! ===== the four, sought ===== -/
def FrF (me me1 : ME) : Prop := (∀ r, r ≠ 71 → r ≠ 82 → me1.1 r = me.1 r) ∧ ∀ r, ¬ (71 ≤ r ∧ r ≤ 81) → me1.2 r = me.2 r
theorem FrF.rfl' {me : ME} : FrF me me := ⟨fun _ _ _ => rfl, fun _ _ => rfl⟩
theorem FrF.trans {a b c : ME} (h : FrF a b) (h2 : FrF b c) : FrF a c := ⟨fun r h1 h3 => (h2.1 r h1 h3).trans (h.1 r h1 h3), fun r hr => (h2.2 r hr).trans (h.2 r hr)⟩
theorem FrS.frF {me me1 : ME} (h : FrS me me1) : FrF me me1 := ⟨fun r h1 _ => h.1 r h1, h.2⟩
theorem FrF.frC {me me1 : ME} (h : FrF me me1) : FrC me me1 := fun r hr => ⟨h.1 r (by omega) (by omega), h.2 r (by omega)⟩
theorem FrF.pt {me me1 : ME} {A : AS} (h : FrF me me1) (hP : PtC me A) : PtC me1 A := hP.keep (fun r r1 r2 => h.1 r (by omega) (by omega))
theorem FrF.up {me : ME} {k : Nat} {v : Int32} : FrF me (up2 me.1 82 k v, me.2) := ⟨fun r _ h1 => up2_r _ _ _ h1, fun _ _ => rfl⟩
noncomputable def foB (A : AS) (g : Nat) : Nat → Int × Int
  | 0 => (-9, -9)
  | s + 1 => @ite _ ((s &&& g = s ∧ pc s = 4) ∧ RK (mR A s) (eR A s) = 3) (Classical.propDecidable _) (if (foB A g s).1 = -9 ∨ wsD A g (slX A s) (slY A s) (slT A s) (slD A s) < (foB A g s).2 then ((s : Int), wsD A g (slX A s) (slY A s) (slT A s) (slD A s)) else foB A g s) (foB A g s)
theorem foB_succ (A : AS) (g s : Nat) : foB A g (s + 1) = @ite _ ((s &&& g = s ∧ pc s = 4) ∧ RK (mR A s) (eR A s) = 3) (Classical.propDecidable _) (if (foB A g s).1 = -9 ∨ wsD A g (slX A s) (slY A s) (slT A s) (slD A s) < (foB A g s).2 then ((s : Int), wsD A g (slX A s) (slY A s) (slT A s) (slD A s)) else foB A g s) (foB A g s) := rfl
theorem four_s {A : AS} (hA : ASok A) {g s : Nat} (hg : g < 2 ^ PN A) (h : s &&& g = s ∧ pc s = 4) : s < 2 ^ PN A ∧ s ≠ 0 ∧ mR A s = 3 := by
  have h1 : s < 2 ^ PN A := Nat.lt_of_le_of_lt (sub_le h.1) hg
  have h2 : s ≠ 0 := fun e => by
    have := h.2
    rw [e] at this
    exact absurd this (by decide)
  have := mR_pc hA h1 h2
  exact ⟨h1, h2, by omega⟩
theorem foB_b {A : AS} (hA : ASok A) {g : Nat} (hg : g < 2 ^ PN A) : ∀ s, s ≤ 512 → foB A g s = (-9, -9) ∨ ((0 ≤ (foB A g s).1 ∧ (foB A g s).1 < 512) ∧ 0 ≤ (foB A g s).2 ∧ (foB A g s).2 ≤ 999999999) := by
  intro s
  induction s with
  | zero => intro _; exact Or.inl rfl
  | succ s ih =>
    intro hs
    rw [foB_succ]
    by_cases c : (s &&& g = s ∧ pc s = 4) ∧ RK (mR A s) (eR A s) = 3
    · rw [if_pos c]
      by_cases c2 : (foB A g s).1 = -9 ∨ wsD A g (slX A s) (slY A s) (slT A s) (slD A s) < (foB A g s).2
      · rw [if_pos c2]
        have := wsD_b hA (g := g) (sl_SvB hA (four_s hA hg c.1).2.2 c.2)
        right
        exact ⟨⟨by show (0 : Int) ≤ (s : Int); omega, by show (s : Int) < 512; omega⟩, this⟩
      · rw [if_neg c2]; exact ih (by omega)
    · rw [if_neg c]; exact ih (by omega)
theorem foB_stop {A : AS} {g : Nat} (hg : g < 2 ^ PN A) : ∀ s, 2 ^ PN A ≤ s → foB A g s = foB A g (2 ^ PN A) := by
  intro s
  induction s with
  | zero =>
    intro h
    have := Nat.two_pow_pos (PN A)
    omega
  | succ s ih =>
    intro hs
    by_cases e : s + 1 = 2 ^ PN A
    · rw [e]
    · rw [foB_succ, if_neg (fun q => by
        have := sub_le q.1.1
        omega)]
      exact ih (by omega)
theorem offer_v {me : ME} {p1 p2 s w : Int} (h2 : me.1 82 2 = iv p1) (h3 : me.1 82 3 = iv p2) (b1 : -9 ≤ p1 ∧ p1 < 512) (b2 : -9 ≤ p2 ∧ p2 ≤ 999999999) (b3 : 0 ≤ w ∧ w ≤ 999999999) : ∃ me1 : ME, mX0_offerFour S1 me 82 (iv s) (iv w) = some ((), me1) ∧ me1.1 82 2 = iv (if p1 = -9 ∨ w < p2 then (s, w) else (p1, p2)).1 ∧ me1.1 82 3 = iv (if p1 = -9 ∨ w < p2 then (s, w) else (p1, p2)).2 ∧ FrF me me1 := by
  have put : ∃ me1 : ME, mX0_offerFour_j17 S1 82 (iv s) (iv w) me = some ((), me1) ∧ me1.1 82 2 = iv s ∧ me1.1 82 3 = iv w ∧ FrF me me1 := by
    refine ⟨(up2 (up2 me.1 82 2 (iv s)) 82 3 (iv w), me.2), ?_, ?_, ?_, (FrF.up (k := 2) (v := iv s)).trans FrF.up⟩
    · unfold mX0_offerFour_j17 mX0_offerFour_j27
      simp only [sI_k kS_82, bs]
    · show up2 (up2 me.1 82 2 (iv s)) 82 3 (iv w) 82 2 = _
      rw [up2_k _ _ _ _ (by decide), up2_s]
    · exact up2_s (up2 me.1 82 2 (iv s)) 82 3 _
  unfold mX0_offerFour
  simp only [gI_k kS_82, bs, h2, h3]
  by_cases c1 : p1 = -9
  · rw [if_pos (show iv p1 = -9 by rw [c1]; rfl), if_pos (Or.inl c1)]
    exact put
  · rw [if_neg (show ¬ iv p1 = (-9 : Int32) from iv_ne (x := p1) (y := -9) (by omega) (by omega) (by omega) (by omega) c1)]
    by_cases c2 : w < p2
    · rw [if_neg (show ¬ iv p2 ≤ iv w by rw [iv_le (by omega) (by omega) (by omega) (by omega)]; omega), if_pos (Or.inr c2)]
      exact put
    · rw [if_pos (show iv p2 ≤ iv w by rw [iv_le (by omega) (by omega) (by omega) (by omega)]; omega), if_neg (fun q => by omega)]
      exact ⟨me, rfl, h2, h3, FrF.rfl'⟩
theorem C_four {me : ME} {A : AS} (h : PtC me A) (hA : ASok A) {g : Nat} (hg2 : g < 2 ^ PN A) : ∃ me1 : ME, mX0_seekFour S1 me 82 (iv g) = some ((), me1) ∧ FrF me me1 ∧ me1.1 82 2 = iv (foB A g 512).1 ∧ me1.1 82 3 = iv (foB A g 512).2 := by
  have hp := pw_le hA
  have hg : g < 512 := by omega
  unfold mX0_seekFour
  simp only [sI_k kS_82, bs]
  refine lpn_Q (Q := fun X => ∃ me1 : ME, X = some ((), me1) ∧ FrF me me1 ∧ me1.1 82 2 = iv (foB A g 512).1 ∧ me1.1 82 3 = iv (foB A g 512).2) (P := fun s x => ∃ m2 : ME, x = (m2, iv s) ∧ FrF me m2 ∧ m2.1 82 2 = iv (foB A g s).1 ∧ m2.1 82 3 = iv (foB A g s).2) (e := 512) ?_ ?_ 512 0 lpF _ (by omega) (by unfold lpF; omega) ⟨_, rfl, (FrF.up (k := 2) (v := -9)).trans FrF.up, ?_, ?_⟩
  · rintro s x kk hs ⟨m2, rfl, f1, f2, f3⟩
    have hb := foB_b hA hg2 s (by omega)
    have b1 : -9 ≤ (foB A g s).1 ∧ (foB A g s).1 < 512 := by
      rcases hb with q | q
      · rw [q]; decide
      · omega
    have b2 : -9 ≤ (foB A g s).2 ∧ (foB A g s).2 ≤ 999999999 := by
      rcases hb with q | q
      · rw [q]; decide
      · omega
    have hpt := f1.pt h
    have hip : mX0_isPart S1 m2 (iv s) (iv g) (4 : Int32) = some (if s &&& g = s ∧ pc s = 4 then 1 else 0, m2) := isPart_v S1 m2 hs hg (n := 4) (by omega)
    unfold mX0_seekFour_L14 mX0_seekFour_j59
    simp only [show (512 : Int32) = iv 512 from rfl, show (1 : Int32) = iv 1 from rfl, iv_add]
    rw [if_neg (show ¬ iv 512 ≤ iv s by rw [iv_le (by omega) (by omega) (by omega) (by omega)]; omega)]
    simp only [show iv 1 = (1 : Int32) from rfl, hip, bs]
    rw [foB_succ]
    by_cases c : s &&& g = s ∧ pc s = 4
    · obtain ⟨s1, s2, s3⟩ := four_s hA hg2 c
      obtain ⟨m3, a1, a2, a3, a4⟩ := C_sol3 hpt hA hs s3
      have hk3 := RK_le (mR A s) (eR A s)
      have f3' : m3.1 82 = m2.1 82 := a3.1 82 (by decide)
      rw [if_pos c, if_neg (show ¬ (1 : Int32) = 0 by decide)]
      simp only [rS_82_1, bs, ck_s kS_71, a1, gI_k kS_71, a2]
      by_cases c3 : RK (mR A s) (eR A s) = 3
      · have hV := sl_SvB hA s3 c3
        have hw := wsD_b hA (g := g) hV
        obtain ⟨m4, o1, o2, o3, o4⟩ := offer_v (me := m3) (p1 := (foB A g s).1) (p2 := (foB A g s).2) (s := (s : Int)) (w := wsD A g (slX A s) (slY A s) (slT A s) (slD A s)) (by rw [f3']; exact f2) (by rw [f3']; exact f3) b1 b2 hw
        rw [if_pos (show iv (RK (mR A s) (eR A s)) = 3 by rw [c3]; rfl), if_pos ⟨c, c3⟩]
        simp only [bs, ck_s kS_82, C_worst (a3.pt hpt) hA hg (a4 c3) hV, o1]
        exact ⟨_, ⟨m4, rfl, (f1.trans a3.frF).trans o4, o2, o3⟩, rfl⟩
      · rw [if_neg (show ¬ iv (RK (mR A s) (eR A s)) = (3 : Int32) from iv_ne (y := 3) (by omega) (by omega) (by omega) (by omega) (by omega)), if_neg (fun q => c3 q.2)]
        exact ⟨_, ⟨m3, rfl, f1.trans a3.frF, by rw [f3']; exact f2, by rw [f3']; exact f3⟩, rfl⟩
    · rw [if_neg c, if_pos (rfl : (0 : Int32) = 0), if_neg (fun q => c q.1)]
      exact ⟨_, ⟨m2, rfl, f1, f2, f3⟩, rfl⟩
  · rintro x kk ⟨m2, rfl, f1, f2, f3⟩
    exact ⟨m2, rfl, f1, f2, f3⟩
  · show up2 (up2 me.1 82 2 (-9)) 82 3 (-9) 82 2 = _
    rw [up2_k _ _ _ _ (by decide), up2_s]
    rfl
  · exact up2_s (up2 me.1 82 2 (-9)) 82 3 _
theorem M_sol3 {me : ME} {A : AS} (hA : ASok A) {b : Nat} (h : RwM me (mR A b) (eR A b)) (hm : mR A b = 3) (h3 : RK (mR A b) (eR A b) = 3) : ∃ me1 : ME, mX10_solves S1 me 91 = some ((), me1) ∧ SvM me1 (slX A b) (slY A b) (slT A b) (slD A b) ∧ FrV me me1 := by
  obtain ⟨m2, r, s, t, b1, b2, b3, b4, b5, b6, b7, b8⟩ := M_solvesV h (by omega) (eR_b hA b) (N3_of h3)
  have e1 : r = 2 := by omega
  have e2 : s = 1 := by omega
  have e3 : t = 0 := by omega
  subst e1 e2 e3
  exact ⟨m2, b1, b6, b8⟩
theorem M_four {me : ME} {A : AS} (hR : RepM me A) (hA : ASok A) {g : Nat} (hg2 : g < 2 ^ PN A) : ∃ me1 : ME, mX10_fourOf S1 me 91 (iv g) = some (iv (foB A g 512).1, me1) ∧ FrM me me1 ∧ ((foB A g 512).1 ≠ -9 → me1.1 91 28 = iv (foB A g 512).2) := by
  have hn9 : PN A ≤ 9 := hA.2.2.1.1
  have hp := pw_le hA
  have hg : g < 512 := by omega
  rw [foB_stop hg2 512 hp]
  unfold mX10_fourOf
  refine lpn_Q (Q := fun X => ∃ me1 : ME, X = some (iv (foB A g (2 ^ PN A)).1, me1) ∧ FrM me me1 ∧ ((foB A g (2 ^ PN A)).1 ≠ -9 → me1.1 91 28 = iv (foB A g (2 ^ PN A)).2)) (P := fun s x => ∃ m2 : ME, x = (m2, iv (foB A g s).1, iv s) ∧ FrM me m2 ∧ ((foB A g s).1 ≠ -9 → m2.1 91 28 = iv (foB A g s).2)) (e := 2 ^ PN A) ?_ ?_ (2 ^ PN A) 0 lpF _ (by omega) (by unfold lpF; omega) ⟨me, rfl, FrM.rfl', fun q => absurd rfl q⟩
  · rintro s x kk hs ⟨m2, rfl, f1, f2⟩
    have hb := foB_b hA hg2 s (by omega)
    have b1 : -9 ≤ (foB A g s).1 ∧ (foB A g s).1 < 512 := by
      rcases hb with q | q
      · rw [q]; decide
      · omega
    have b2 : -9 ≤ (foB A g s).2 ∧ (foB A g s).2 ≤ 999999999 := by
      rcases hb with q | q
      · rw [q]; decide
      · omega
    have hR2 := f1.rep hR
    have hpc := pc_le s
    have hs5 : s < 512 := by omega
    have hand : s &&& g < 512 := Nat.lt_of_le_of_lt Nat.and_le_left hs5
    unfold mX10_fourOf_L5 mX10_fourOf_j75
    simp only [rS_91_3, bs, show (0 : Int32) = iv 0 from rfl, aI_k kS_94 lS_94 (i := 0) (by omega) (by omega) (by omega), Int.toNat_zero, many_v hR2, shl_v (show PN A < 31 by omega)]
    rw [show (1 : Int32) = iv 1 from rfl, iv_add]
    rw [foB_succ]
    generalize hW : 2 ^ PN A = W at *
    rw [if_neg (show ¬ iv (W : Int) ≤ iv s by rw [iv_le (by omega) (by omega) (by omega) (by omega)]; omega)]
    simp only [bits_v S1 m2 hs5, bs, and_v]
    by_cases c1 : pc s = 4
    · rw [if_pos (show iv (pc s) = (4 : Int32) by rw [c1]; rfl)]
      by_cases c2 : s &&& g = s
      · obtain ⟨s1, s2, s3⟩ := four_s hA (by rw [hW]; exact hg2) ⟨c2, c1⟩
        have hk3 := RK_le (mR A s) (eR A s)
        rw [if_pos (show iv ((s &&& g : Nat) : Int) = iv s by rw [c2])]
        obtain ⟨m3, a1, a2, a3⟩ := M_rankV hR2 hA hs5 (fo_lt s2 s1)
        simp only [ck_s kS_91, bs, a1]
        by_cases c3 : RK (mR A s) (eR A s) = 3
        · rw [if_pos (show iv (RK (mR A s) (eR A s)) = 3 by rw [c3]; rfl), if_pos ⟨⟨c2, c1⟩, c3⟩]
          have hV := sl_SvB hA s3 c3
          have hw := wsD_b hA (g := g) hV
          obtain ⟨m4, d1, d2, d3⟩ := M_sol3 hA a2 s3 c3
          have fr := a3.trans d3
          have hwo := M_worst (fr.1.rep hR2) hA hg d2 hV
          have e28 : m4.1 91 28 = m2.1 91 28 := fr.2.2 28 (by decide)
          simp only [ck_s kS_91, bs, d1, hwo]
          have put : ∃ s', (∃ m5 : ME, s' = (m5, iv ((s : Int), wsD A g (slX A s) (slY A s) (slT A s) (slD A s)).1, iv ((s + 1 : Nat) : Int)) ∧ FrM me m5 ∧ (((s : Int), wsD A g (slX A s) (slY A s) (slT A s) (slD A s)).1 ≠ -9 → m5.1 91 28 = iv ((s : Int), wsD A g (slX A s) (slY A s) (slT A s) (slD A s)).2)) ∧ mX10_fourOf_j67 S1 91 (iv g) kk m4 (iv s) (iv (wsD A g (slX A s) (slY A s) (slT A s) (slD A s))) = kk s' := by
            refine ⟨_, ⟨(up2 m4.1 91 28 (iv (wsD A g (slX A s) (slY A s) (slT A s) (slD A s))), m4.2), rfl, (f1.trans fr.1).trans (FrM.up20 (by decide)), fun _ => up2_s m4.1 91 28 _⟩, ?_⟩
            unfold mX10_fourOf_j67 mX10_fourOf_j75
            simp only [sI_k kS_91, bs]
            rw [show (1 : Int32) = iv 1 from rfl, iv_add]
            rfl
          by_cases c4 : (foB A g s).1 = -9
          · rw [if_pos (show iv (foB A g s).1 = -9 by rw [c4]; rfl), if_pos (Or.inl c4)]
            exact put
          · rw [if_neg (show ¬ iv (foB A g s).1 = (-9 : Int32) from iv_ne (y := -9) (by omega) (by omega) (by omega) (by omega) c4)]
            simp only [gI_k kS_91, bs, e28, f2 c4]
            by_cases c5 : wsD A g (slX A s) (slY A s) (slT A s) (slD A s) < (foB A g s).2
            · rw [if_neg (show ¬ iv (foB A g s).2 ≤ iv (wsD A g (slX A s) (slY A s) (slT A s) (slD A s)) by rw [iv_le (by omega) (by omega) (by omega) (by omega)]; omega), if_pos (Or.inr c5)]
              exact put
            · rw [if_pos (show iv (foB A g s).2 ≤ iv (wsD A g (slX A s) (slY A s) (slT A s) (slD A s)) by rw [iv_le (by omega) (by omega) (by omega) (by omega)]; omega), if_neg (fun q => by omega)]
              exact ⟨_, ⟨m4, rfl, f1.trans fr.1, fun q => by rw [e28]; exact f2 q⟩, rfl⟩
        · rw [if_neg (show ¬ iv (RK (mR A s) (eR A s)) = (3 : Int32) from iv_ne (y := 3) (by omega) (by omega) (by omega) (by omega) (by omega)), if_neg (fun q => c3 q.2)]
          exact ⟨_, ⟨m3, rfl, f1.trans a3.1, fun q => by rw [a3.2.2 28 (by decide)]; exact f2 q⟩, rfl⟩
      · rw [if_neg (show ¬ iv ((s &&& g : Nat) : Int) = iv s from iv_ne (by omega) (by omega) (by omega) (by omega) (by omega)), if_neg (fun q => c2 q.1.1)]
        exact ⟨_, ⟨m2, rfl, f1, f2⟩, rfl⟩
    · rw [if_neg (show ¬ iv (pc s) = (4 : Int32) from iv_ne (y := 4) (by omega) (by omega) (by omega) (by omega) (by omega)), if_neg (fun q => c1 q.1.2)]
      exact ⟨_, ⟨m2, rfl, f1, f2⟩, rfl⟩
  · rintro x kk ⟨m2, rfl, f1, f2⟩
    refine ⟨m2, ?_, f1, f2⟩
    have hR2 := f1.rep hR
    unfold mX10_fourOf_L5 mX10_fourOf_j81
    simp only [rS_91_3, bs, show (0 : Int32) = iv 0 from rfl, aI_k kS_94 lS_94 (i := 0) (by omega) (by omega) (by omega), Int.toNat_zero, many_v hR2, shl_v (show PN A < 31 by omega)]
    rw [if_pos (Int32.le_refl _)]
