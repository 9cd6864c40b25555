/-! ===== which must be left out ===== -/
def OutP (A : AS) (g n s : Nat) : Prop := (s &&& g = s ∧ pc s = n) ∧ Sure A (dm g s)
theorem Sure_0 (A : AS) : ¬ Sure A 0 := fun h => by
  have h1 := m_of3 h.1
  have h2 : fo A 0 = PN A := by
    unfold fo
    exact fstN_eq (Or.inr ⟨rfl, fun g _ => by simp⟩)
  rw [rws_stop h2] at h1
  omega
theorem OutP_ne {A : AS} {g n s : Nat} (h : OutP A g n s) : s ≠ g := fun e => by
  have : dm g s = 0 := (dm_0 g s).mpr (by rw [e, Nat.and_self])
  have h2 := h.2
  rw [this] at h2
  exact Sure_0 A h2
noncomputable def outS (A : AS) (g : Nat) : Int := if fstN (OutP A g 0) 512 < 512 then (fstN (OutP A g 0) 512 : Int) else if fstN (OutP A g 1) 512 < 512 then (fstN (OutP A g 1) 512 : Int) else if fstN (OutP A g 2) 512 < 512 then (fstN (OutP A g 2) 512 : Int) else -9
theorem fst_pos {P : Nat → Prop} {m r : Nat} (h : r < m) (h1 : P r) (h2 : ∀ s, s < r → ¬ P s) : fstN P m = r := fstN_eq (Or.inl ⟨h, h1, h2⟩)
theorem fst_neg {P : Nat → Prop} {m : Nat} (h : ∀ s, s < m → ¬ P s) : fstN P m = m := fstN_eq (Or.inr ⟨rfl, h⟩)
theorem dm_v1 (g s : Nat) : iv g &&& (iv s ^^^ -iv 1) = iv ((dm g s : Nat) : Int) := dm_v g s
theorem C_out {me : ME} {A : AS} (h : PtC me A) (hA : ASok A) {g : Nat} (hg : g < 512) : ∃ me1 : ME, mX0_leastOut S1 me 82 (iv g) = some (iv (outS A g), me1) ∧ FrS me me1 := by
  have i9 : ∀ (n : Nat) (m1 : ME) (k2 : ME × Int32 → Option (Int32 × ME)), n < 3 → FrS me m1 → (∃ m2, lpn (mX0_leastOut_L9 S1 82 (iv g) k2) lpF (m1, iv n, 0) = k2 (m2, iv ((n + 1 : Nat) : Int)) ∧ FrS me m2 ∧ ∀ s, s < 512 → ¬ OutP A g n s) ∨ (∃ m2 s, s < 512 ∧ OutP A g n s ∧ (∀ s', s' < s → ¬ OutP A g n s') ∧ lpn (mX0_leastOut_L9 S1 82 (iv g) k2) lpF (m1, iv n, 0) = some (iv (s : Nat), m2) ∧ FrS me m2) := by
    intro n m1 k2 hn f0
    refine lpn_X (Q := fun X => (∃ m2, X = k2 (m2, iv ((n + 1 : Nat) : Int)) ∧ FrS me m2 ∧ ∀ s, s < 512 → ¬ OutP A g n s) ∨ (∃ m2 s, s < 512 ∧ OutP A g n s ∧ (∀ s', s' < s → ¬ OutP A g n s') ∧ X = some (iv (s : Nat), m2) ∧ FrS me m2)) (P := fun s x => ∃ m2 : ME, x = (m2, iv n, iv s) ∧ FrS me m2 ∧ ∀ s', s' < s → ¬ OutP A g n s') (e := 512) ?_ 512 0 lpF _ (by omega) (by unfold lpF; omega) ⟨m1, rfl, f0, fun s' h' => by omega⟩
    rintro s x kk hs ⟨m2, rfl, f1, f2⟩
    unfold mX0_leastOut_L9 mX0_leastOut_j48 mX0_leastOut_j42 mX0_leastOut_j40
    simp only [show (512 : Int32) = iv 512 from rfl, show (1 : Int32) = iv 1 from rfl, iv_add]
    by_cases e : s = 512
    · right; left
      subst e
      rw [if_pos (show iv 512 ≤ iv ((512 : Nat) : Int) by decide)]
      exact ⟨m2, rfl, f1, f2⟩
    · have hs2 : s < 512 := by omega
      rw [if_neg (show ¬ iv 512 ≤ iv s by rw [iv_le (by omega) (by omega) (by omega) (by omega)]; omega)]
      simp only [isPart_v S1 m2 hs2 hg (show n < 512 by omega), bs]
      have cont : ¬ OutP A g n s → ∀ s', s' < s + 1 → ¬ OutP A g n s' := fun q s' h' => by
        by_cases e2 : s' = s
        · subst e2; exact q
        · exact f2 s' (by omega)
      by_cases c : s &&& g = s ∧ pc s = n
      · rw [if_pos c, if_neg (by decide)]
        obtain ⟨m3, b1, b2, -⟩ := C_judge (f1.pt h) hA (b := dm g s) (dm_le g s (n := 9) hg)
        simp only [rS_82_1, bs, ck_s kS_71, dm_v1, b1]
        by_cases su : Sure A (dm g s)
        · right; right
          rw [if_pos (show iv (VD A (dm g s)) = 0 by rw [VD_0]; exact su)]
          exact ⟨m3, s, hs2, ⟨c, su⟩, f2, rfl, f1.trans b2⟩
        · left
          rw [if_neg (show ¬ iv (VD A (dm g s)) = 0 by rw [VD_0]; exact su)]
          exact ⟨hs2, _, ⟨m3, rfl, f1.trans b2, cont (fun q => su q.2)⟩, rfl⟩
      · left
        rw [if_neg c, if_pos rfl]
        exact ⟨hs2, _, ⟨m2, rfl, f1, cont (fun q => c q.1)⟩, rfl⟩
  let Q : Option (Int32 × ME) → Prop := fun X => ∃ me1 : ME, X = some (iv (outS A g), me1) ∧ FrS me me1
  show Q (mX0_leastOut S1 me 82 (iv g))
  have hd : ∀ n, n < 3 → (∀ n', n' < n → ∀ s, s < 512 → ¬ OutP A g n' s) → ∀ s, s < 512 → OutP A g n s → (∀ s', s' < s → ¬ OutP A g n s') → outS A g = s := fun n hn hb s hs h1 h2 => by
    unfold outS
    rcases (show n = 0 ∨ n = 1 ∨ n = 2 by omega) with rfl | rfl | rfl
    · rw [fst_pos hs h1 h2, if_pos hs]
    · rw [fst_neg (hb 0 (by omega)), if_neg (by omega), fst_pos hs h1 h2, if_pos hs]
    · rw [fst_neg (hb 0 (by omega)), if_neg (by omega), fst_neg (hb 1 (by omega)), if_neg (by omega), fst_pos hs h1 h2, if_pos hs]
  have step : ∀ (n : Nat) (m1 : ME) (kk : ME × Int32 → Option (Int32 × ME)), n < 3 → FrS me m1 → (∀ n', n' < n → ∀ s, s < 512 → ¬ OutP A g n' s) → (∃ m2, mX0_leastOut_L2 S1 82 (iv g) kk (m1, iv n) = kk (m2, iv ((n + 1 : Nat) : Int)) ∧ FrS me m2 ∧ ∀ s, s < 512 → ¬ OutP A g n s) ∨ Q (mX0_leastOut_L2 S1 82 (iv g) kk (m1, iv n)) := by
    intro n m1 kk hn f0 hb
    unfold mX0_leastOut_L2
    simp only []
    rw [if_neg (show ¬ (2 : Int32) < iv n by rw [show (2 : Int32) = iv 2 from rfl, iv_lt (by omega) (by omega) (by omega) (by omega)]; omega)]
    rcases i9 n m1 kk hn f0 with q | ⟨m2, s, s1, s2, s3, s4, s5⟩
    · exact Or.inl q
    · right
      exact ⟨m2, by rw [s4, hd n hn hb s s1 s2 s3], s5⟩
  unfold mX0_leastOut
  refine lpn_X (Q := Q) (P := fun n x => ∃ m2 : ME, x = (m2, iv n) ∧ FrS me m2 ∧ ∀ n', n' < n → ∀ s, s < 512 → ¬ OutP A g n' s) (e := 3) ?_ 3 0 lpF _ (by omega) (by unfold lpF; omega) ⟨me, rfl, FrS.rfl', fun n' h' => by omega⟩
  rintro n x kk hn ⟨m2, rfl, f1, f2⟩
  by_cases e : n = 3
  · right
    subst e
    refine ⟨m2, ?_, f1⟩
    unfold mX0_leastOut_L2 mX0_leastOut_j54
    simp only []
    rw [if_pos (show (2 : Int32) < iv ((3 : Nat) : Int) by decide)]
    unfold outS
    rw [fst_neg (f2 0 (by omega)), fst_neg (f2 1 (by omega)), fst_neg (f2 2 (by omega)), if_neg (by omega), if_neg (by omega), if_neg (by omega)]
    rfl
  · rcases step n m2 kk (by omega) f1 f2 with ⟨m3, q1, q2, q3⟩ | q
    · left
      refine ⟨by omega, _, ⟨m3, rfl, q2, fun n' h' => ?_⟩, q1⟩
      by_cases e2 : n' = n
      · subst e2; exact q3
      · exact f2 n' (by omega)
    · exact Or.inr q
theorem dm_fo {A : AS} {g s : Nat} (hg : g < 2 ^ PN A) (h : s &&& g = s) (hne : s ≠ g) : fo A (dm g s) < PN A := by
  refine fo_lt (fun q => hne ?_) (dm_le g s hg)
  have := (dm_0 g s).mp q
  rw [← h, Nat.and_comm, this]
theorem M_out {me : ME} {A : AS} (hR : RepM me A) (hA : ASok A) {g : Nat} (hg2 : g < 2 ^ PN A) : ∃ me1 : ME, mX10_outOf S1 me 91 (iv g) = some (iv (outS A g), me1) ∧ FrV me me1 := by
  have hn9 : PN A ≤ 9 := hA.2.2.1.1
  have hp := pw_le hA
  have hg : g < 512 := by omega
  have small : ∀ n s, OutP A g n s → s < 2 ^ PN A := fun n s q => Nat.lt_of_le_of_lt (sub_le q.1.1) hg2
  have i9 : ∀ (n : Nat) (m1 : ME) (k2 : ME × Int32 → Option (Int32 × ME)), n < 3 → FrV me m1 → (∃ m2, lpn (mX10_outOf_L9 S1 91 (iv g) k2) lpF (m1, iv n, 0) = k2 (m2, iv ((n + 1 : Nat) : Int)) ∧ FrV me m2 ∧ ∀ s, s < 512 → ¬ OutP A g n s) ∨ (∃ m2 s, s < 512 ∧ OutP A g n s ∧ (∀ s', s' < s → ¬ OutP A g n s') ∧ lpn (mX10_outOf_L9 S1 91 (iv g) k2) lpF (m1, iv n, 0) = some (iv (s : Nat), m2) ∧ FrV me m2) := by
    intro n m1 k2 hn f0
    refine lpn_X (Q := fun X => (∃ m2, X = k2 (m2, iv ((n + 1 : Nat) : Int)) ∧ FrV me m2 ∧ ∀ s, s < 512 → ¬ OutP A g n s) ∨ (∃ m2 s, s < 512 ∧ OutP A g n s ∧ (∀ s', s' < s → ¬ OutP A g n s') ∧ X = some (iv (s : Nat), m2) ∧ FrV me m2)) (P := fun s x => ∃ m2 : ME, x = (m2, iv n, iv s) ∧ FrV me m2 ∧ ∀ s', s' < s → ¬ OutP A g n s') (e := 2 ^ PN A) ?_ (2 ^ PN A) 0 lpF _ (by omega) (by unfold lpF; omega) ⟨m1, rfl, f0, fun s' h' => by omega⟩
    rintro s x kk hs ⟨m2, rfl, f1, f2⟩
    have hR2 := f1.1.rep hR
    unfold mX10_outOf_L9 mX10_outOf_j61 mX10_outOf_j55 mX10_outOf_j53
    simp only [rS_91_3, bs, show (0 : Int32) = iv 0 from rfl, aI_k kS_94 lS_94 (i := 0) (by omega) (by omega) (by omega), Int.toNat_zero, many_v hR2, shl_v (show PN A < 31 by omega)]
    rw [show (1 : Int32) = iv 1 from rfl, iv_add, iv_add]
    by_cases e : s = 2 ^ PN A
    · right; left
      rw [if_pos (show iv ((2 ^ PN A : Nat) : Int) ≤ iv s by rw [e]; exact Int32.le_refl _)]
      refine ⟨m2, rfl, f1, fun s' h' q => f2 s' ?_ q⟩
      have := small n s' q
      omega
    · have hs2 : s < 2 ^ PN A := by omega
      have hs5 : s < 512 := by omega
      generalize hW : 2 ^ PN A = W at *
      rw [if_neg (show ¬ iv (W : Int) ≤ iv s by rw [iv_le (by omega) (by omega) (by omega) (by omega)]; omega)]
      have hpc := pc_le s
      have hand : s &&& g < 512 := Nat.lt_of_le_of_lt Nat.and_le_left hs5
      simp only [bits_v S1 m2 hs5, bs, and_v]
      have cont : ¬ OutP A g n s → ∀ s', s' < s + 1 → ¬ OutP A g n s' := fun q s' h' => by
        by_cases e2 : s' = s
        · subst e2; exact q
        · exact f2 s' (by omega)
      by_cases c1 : pc s = n
      · rw [if_pos (show iv (pc s) = iv n by rw [c1])]
        by_cases c2 : s &&& g = s
        · rw [if_pos (show iv ((s &&& g : Nat) : Int) = iv s by rw [c2])]
          by_cases c3 : s = g
          · left
            rw [if_pos (show iv s = iv g by rw [c3])]
            exact ⟨hs2, _, ⟨m2, rfl, f1, cont (fun q => OutP_ne q c3)⟩, rfl⟩
          · rw [if_neg (show ¬ iv s = iv g from iv_ne (by omega) (by omega) (by omega) (by omega) (by omega))]
            obtain ⟨m3, b1, b2, -⟩ := M_verdict hR2 hA (b := dm g s) (dm_le g s (n := 9) hg) (dm_fo (by rw [hW]; exact hg2) c2 c3)
            simp only [bs, ck_s kS_91, dm_v1, b1]
            by_cases su : Sure A (dm g s)
            · right; right
              rw [if_pos (show iv (VD A (dm g s)) = iv 0 by rw [show iv 0 = (0 : Int32) from rfl, VD_0]; exact su)]
              exact ⟨m3, s, hs5, ⟨⟨c2, c1⟩, su⟩, f2, rfl, f1.trans b2⟩
            · left
              rw [if_neg (show ¬ iv (VD A (dm g s)) = iv 0 by rw [show iv 0 = (0 : Int32) from rfl, VD_0]; exact su)]
              exact ⟨hs2, _, ⟨m3, rfl, f1.trans b2, cont (fun q => su q.2)⟩, rfl⟩
        · left
          rw [if_neg (show ¬ iv ((s &&& g : Nat) : Int) = iv s from iv_ne (by omega) (by omega) (by omega) (by omega) (by omega))]
          exact ⟨hs2, _, ⟨m2, rfl, f1, cont (fun q => c2 q.1.1)⟩, rfl⟩
      · left
        rw [if_neg (show ¬ iv (pc s) = iv n from iv_ne (by omega) (by omega) (by omega) (by omega) (by omega))]
        exact ⟨hs2, _, ⟨m2, rfl, f1, cont (fun q => c1 q.1.2)⟩, rfl⟩
  let Q : Option (Int32 × ME) → Prop := fun X => ∃ me1 : ME, X = some (iv (outS A g), me1) ∧ FrV me me1
  show Q (mX10_outOf S1 me 91 (iv g))
  have hd : ∀ n, n < 3 → (∀ n', n' < n → ∀ s, s < 512 → ¬ OutP A g n' s) → ∀ s, s < 512 → OutP A g n s → (∀ s', s' < s → ¬ OutP A g n s') → outS A g = s := fun n hn hb s hs h1 h2 => by
    unfold outS
    rcases (show n = 0 ∨ n = 1 ∨ n = 2 by omega) with rfl | rfl | rfl
    · rw [fst_pos hs h1 h2, if_pos hs]
    · rw [fst_neg (hb 0 (by omega)), if_neg (by omega), fst_pos hs h1 h2, if_pos hs]
    · rw [fst_neg (hb 0 (by omega)), if_neg (by omega), fst_neg (hb 1 (by omega)), if_neg (by omega), fst_pos hs h1 h2, if_pos hs]
  have step : ∀ (n : Nat) (m1 : ME) (kk : ME × Int32 → Option (Int32 × ME)), n < 3 → FrV me m1 → (∀ n', n' < n → ∀ s, s < 512 → ¬ OutP A g n' s) → (∃ m2, mX10_outOf_L2 S1 91 (iv g) kk (m1, iv n) = kk (m2, iv ((n + 1 : Nat) : Int)) ∧ FrV me m2 ∧ ∀ s, s < 512 → ¬ OutP A g n s) ∨ Q (mX10_outOf_L2 S1 91 (iv g) kk (m1, iv n)) := by
    intro n m1 kk hn f0 hb
    unfold mX10_outOf_L2
    simp only []
    rw [if_neg (show ¬ (3 : Int32) ≤ iv n by rw [show (3 : Int32) = iv 3 from rfl, iv_le (by omega) (by omega) (by omega) (by omega)]; omega)]
    rcases i9 n m1 kk hn f0 with q | ⟨m2, s, s1, s2, s3, s4, s5⟩
    · exact Or.inl q
    · right
      exact ⟨m2, by rw [s4, hd n hn hb s s1 s2 s3], s5⟩
  unfold mX10_outOf
  refine lpn_X (Q := Q) (P := fun n x => ∃ m2 : ME, x = (m2, iv n) ∧ FrV me m2 ∧ ∀ n', n' < n → ∀ s, s < 512 → ¬ OutP A g n' s) (e := 3) ?_ 3 0 lpF _ (by omega) (by unfold lpF; omega) ⟨me, rfl, FrV.rfl', fun n' h' => by omega⟩
  rintro n x kk hn ⟨m2, rfl, f1, f2⟩
  by_cases e : n = 3
  · right
    subst e
    refine ⟨m2, ?_, f1⟩
    unfold mX10_outOf_L2 mX10_outOf_j67
    simp only []
    rw [if_pos (show (3 : Int32) ≤ iv ((3 : Nat) : Int) by decide)]
    unfold outS
    rw [fst_neg (f2 0 (by omega)), fst_neg (f2 1 (by omega)), fst_neg (f2 2 (by omega)), if_neg (by omega), if_neg (by omega), if_neg (by omega)]
    rfl
  · rcases step n m2 kk (by omega) f1 f2 with ⟨m3, q1, q2, q3⟩ | q
    · left
      refine ⟨by omega, _, ⟨m3, rfl, q2, fun n' h' => ?_⟩, q1⟩
      by_cases e2 : n' = n
      · subst e2; exact q3
      · exact f2 n' (by omega)
    · exact Or.inr q
