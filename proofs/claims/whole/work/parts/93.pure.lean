/-! ===== all calls of the law together ===== -/
def LInv (me : ME) (A : AS) : Prop := RepC me A ∧ RepM me A ∧ ASok A
theorem both_v {f g : ME → Option (Int32 × ME)} {sp : AS → Int × AS} (hC : OpC f sp) (hM : OpM g sp) (hO : OpOK sp) {me : ME} {A : AS} (hI : LInv me A) : ∃ m1 m2 : ME, f me = some (iv (sp A).1, m1) ∧ g m1 = some (iv (sp A).1, m2) ∧ LInv m2 (sp A).2 := by
  obtain ⟨h1, h2, h3⟩ := hI
  obtain ⟨m1, a1, a2, a3⟩ := hC me A h1 h3
  obtain ⟨m2, b1, b2, b3⟩ := hM m1 A (h2.keep a3) h3
  exact ⟨m1, m2, a1, b1, a2.keep b3, b2, hO A h3⟩
def A0 : AS := ((0, fun _ => 0), (0, fun _ => 0, fun _ => 0), (0, fun _ => 0, fun _ => 0, fun _ => 0), [], fun _ => none)
theorem LInv0 : LInv M1 A0 := by
  have v : ∀ {C : Nat → Prop} (k : Nat), k < 0 → C k := fun k hk => absurd hk (Nat.not_lt_zero k)
  refine ⟨⟨⟨zS_1_1, v⟩, ⟨zS_11_2, v⟩, ⟨zS_14_3, v, v⟩, ⟨0, by decide, zS_18_1, zS_18_2, fun t g hg => by cases hg⟩, fun i hi => Or.inl ⟨rfl, ?_⟩⟩, ⟨⟨zS_91_9, v⟩, ⟨zS_91_0, v⟩, ⟨zS_94_0, v, v⟩, ⟨0, by decide, zS_91_5, zS_91_4, fun t g hg => by cases hg⟩, fun i hi => Or.inl ⟨rfl, ?_⟩⟩, Nat.zero_le _, ⟨Nat.zero_le _, v⟩, ⟨Nat.zero_le _, v, v⟩, ⟨Nat.zero_le _, fun g hg => by cases hg⟩, fun i g hg => by cases hg⟩
  · rcases (show i = 0 ∨ i = 1 by omega) with rfl | rfl
    · exact zS_61_0
    · exact zS_61_1
  · rcases (show i = 0 ∨ i = 1 by omega) with rfl | rfl
    · exact zS_96_0
    · exact zS_96_1
theorem xld_k {L : Nat} (xs : Nat → Int32) {n : Nat} (h : n < L) (hL : L ≤ 3072) : xld L xs (iv (n : Int)) = some (xs n) := by
  unfold xld
  rw [iv_clamp (by omega) (by omega), Int.toNat_natCast, if_pos (show ¬ (iv (n : Int) < 0 ∨ L ≤ n) by rw [show (0 : Int32) = iv 0 from rfl, iv_lt (by omega) (by omega) (by omega) (by omega)]; omega)]
set_option maxHeartbeats 4000000 in
theorem law_step {L : Nat} (xs : Nat → Int32) (hL : L ≤ 3072) {n : Nat} (hn : 6 * n + 6 ≤ L) {me : ME} {A : AS} (hI : LInv me A) (kk : SH × ME × Nat × Nat × Int32 → Option Int32) : ∃ (m : ME) (A' : AS), LInv m A' ∧ mL_law_L18 sh0 L xs kk (S1, me, 0, 91, iv ((6 * n : Nat) : Int)) = kk (S1, m, 0, 91, iv ((6 * (n + 1) : Nat) : Int)) := by
  have e6 : iv ((6 * n : Nat) : Int) + (6 : Int32) = iv ((6 * (n + 1) : Nat) : Int) := by
    rw [show (6 : Int32) = iv 6 from rfl, iv_add]
    exact congrArg iv (by omega)
  have x0 : xld L xs (iv ((6 * n : Nat) : Int)) = some (xs (6 * n)) := xld_k xs (by omega) hL
  have x1 : xld L xs (iv ((6 * n : Nat) : Int) + (1 : Int32)) = some (xs (6 * n + 1)) := by
    rw [show (1 : Int32) = iv 1 from rfl, iv_add]
    exact xld_k xs (n := 6 * n + 1) (by omega) hL
  have x2 : xld L xs (iv ((6 * n : Nat) : Int) + (2 : Int32)) = some (xs (6 * n + 2)) := by
    rw [show (2 : Int32) = iv 2 from rfl, iv_add]
    exact xld_k xs (n := 6 * n + 2) (by omega) hL
  have x3 : xld L xs (iv ((6 * n : Nat) : Int) + (3 : Int32)) = some (xs (6 * n + 3)) := by
    rw [show (3 : Int32) = iv 3 from rfl, iv_add]
    exact xld_k xs (n := 6 * n + 3) (by omega) hL
  have x4 : xld L xs (iv ((6 * n : Nat) : Int) + (4 : Int32)) = some (xs (6 * n + 4)) := by
    rw [show (4 : Int32) = iv 4 from rfl, iv_add]
    exact xld_k xs (n := 6 * n + 4) (by omega) hL
  have x5 : xld L xs (iv ((6 * n : Nat) : Int) + (5 : Int32)) = some (xs (6 * n + 5)) := by
    rw [show (5 : Int32) = iv 5 from rfl, iv_add]
    exact xld_k xs (n := 6 * n + 5) (by omega) hL
  obtain ⟨a1, l1, u1, e1⟩ := iv_of (xs (6 * n + 1))
  rw [e1] at x1
  obtain ⟨a2, l2, u2, e2⟩ := iv_of (xs (6 * n + 2))
  rw [e2] at x2
  obtain ⟨a3, l3, u3, e3⟩ := iv_of (xs (6 * n + 3))
  rw [e3] at x3
  obtain ⟨a4, l4, u4, e4⟩ := iv_of (xs (6 * n + 4))
  rw [e4] at x4
  obtain ⟨a5, l5, u5, e5⟩ := iv_of (xs (6 * n + 5))
  rw [e5] at x5
  unfold mL_law_L18 mL_law_j597
  simp only [x0, bs, e6]
  rw [if_neg (show ¬ Int32.ofNat L - 6 < iv ((6 * n : Nat) : Int) by rw [iv_ofN, show (6 : Int32) = iv 6 from rfl, iv_sub, iv_lt (by omega) (by omega) (by omega) (by omega)]; omega)]
  generalize xs (6 * n) &&& 31 = w
  by_cases c0 : w = (0 : Int32)
  · rw [if_pos c0]
    obtain ⟨m1, m2, w1, w2, w3⟩ := both_v (C_type l1 u1) (M_type l1 u1) (ok_type a1) hI
    simp only [x1, bs, ck_s kS_0, ck_s kS_91, w1, w2]
    exact ⟨m2, _, w3, if_pos trivial⟩
  rw [if_neg c0]
  by_cases c1 : w = (1 : Int32)
  · rw [if_pos c1]
    obtain ⟨m1, m2, w1, w2, w3⟩ := both_v C_clear M_clear ok_clear hI
    simp only [bs, ck_s kS_0, ck_s kS_91, w1, w2]
    exact ⟨m2, _, w3, if_pos trivial⟩
  rw [if_neg c1]
  by_cases c2 : w = (2 : Int32)
  · rw [if_pos c2]
    obtain ⟨m1, m2, w1, w2, w3⟩ := both_v C_field M_field ok_field hI
    simp only [bs, ck_s kS_0, ck_s kS_91, w1, w2]
    exact ⟨m2, _, w3, if_pos trivial⟩
  rw [if_neg c2]
  by_cases c3 : w = (3 : Int32)
  · rw [if_pos c3]
    obtain ⟨m1, m2, w1, w2, w3⟩ := both_v (C_station l1 u1 l2 u2) (M_station l1 u1 l2 u2) (ok_station a1 a2) hI
    simp only [x1, x2, bs, ck_s kS_0, ck_s kS_91, w1, w2]
    exact ⟨m2, _, w3, if_pos trivial⟩
  rw [if_neg c3]
  by_cases c4 : w = (4 : Int32)
  · rw [if_pos c4]
    obtain ⟨m1, m2, w1, w2, w3⟩ := both_v (C_reading l1 u1 l2 u2) (M_reading l1 u1 l2 u2) (ok_reading a1 a2) hI
    simp only [x1, x2, bs, ck_s kS_0, ck_s kS_91, w1, w2]
    exact ⟨m2, _, w3, if_pos trivial⟩
  rw [if_neg c4]
  by_cases c5 : w = (5 : Int32)
  · rw [if_pos c5]
    obtain ⟨m1, m2, w1, w2, w3⟩ := both_v (C_hears l1 u1 l2 u2) (M_hears l1 u1 l2 u2) (ok_hears a1 a2) hI
    simp only [x1, x2, bs, ck_s kS_0, ck_s kS_91, w1, w2]
    exact ⟨m2, _, w3, if_pos trivial⟩
  rw [if_neg c5]
  by_cases c6 : w = (6 : Int32)
  · rw [if_pos c6]
    obtain ⟨m1, m2, w1, w2, w3⟩ := both_v (C_strikes l1 u1) (M_strikes l1 u1) (ok_strikes a1) hI
    simp only [x1, bs, ck_s kS_0, ck_s kS_91, w1, w2]
    exact ⟨m2, _, w3, if_pos trivial⟩
  rw [if_neg c6]
  by_cases c7 : w = (7 : Int32)
  · rw [if_pos c7]
    obtain ⟨m1, m2, w1, w2, w3⟩ := both_v (C_sets l1 u1 l2 u2) (M_sets l1 u1 l2 u2) (ok_sets a1 a2) hI
    simp only [x1, x2, bs, ck_s kS_0, ck_s kS_91, w1, w2]
    exact ⟨m2, _, w3, if_pos trivial⟩
  rw [if_neg c7]
  by_cases c8 : w = (8 : Int32)
  · rw [if_pos c8]
    obtain ⟨m1, m2, w1, w2, w3⟩ := both_v C_undo M_undo ok_undo hI
    simp only [bs, ck_s kS_0, ck_s kS_91, w1, w2]
    exact ⟨m2, _, w3, if_pos trivial⟩
  rw [if_neg c8]
  by_cases c9 : w = (9 : Int32)
  · rw [if_pos c9]
    obtain ⟨m1, m2, w1, w2, w3⟩ := both_v (C_group l1 u1 l2 u2) (M_group l1 u1 l2 u2) (ok_group a1 a2) hI
    simp only [x1, x2, bs, ck_s kS_0, ck_s kS_91, w1, w2]
    exact ⟨m2, _, w3, if_pos trivial⟩
  rw [if_neg c9]
  by_cases c10 : w = (10 : Int32)
  · rw [if_pos c10]
    obtain ⟨m1, m2, w1, w2, w3⟩ := both_v (C_place l1 u1 l2 u2) (M_place l1 u1 l2 u2) (ok_place a1 a2) hI
    simp only [x1, x2, bs, ck_s kS_0, ck_s kS_91, w1, w2]
    exact ⟨m2, _, w3, if_pos trivial⟩
  rw [if_neg c10]
  by_cases c11 : w = (11 : Int32)
  · rw [if_pos c11]
    obtain ⟨m1, m2, w1, w2, w3⟩ := both_v (C_verdict l1 u1) (M_verd l1 u1) (ok_verdict a1) hI
    simp only [x1, bs, ck_s kS_0, ck_s kS_91, w1, w2]
    exact ⟨m2, _, w3, if_pos trivial⟩
  rw [if_neg c11]
  by_cases c12 : w = (12 : Int32)
  · rw [if_pos c12]
    obtain ⟨m1, m2, w1, w2, w3⟩ := both_v (C_due l1 u1 l2 u2 l3 u3 l4 u4 l5 u5) (M_due l1 u1 l2 u2 l3 u3 l4 u4 l5 u5) (ok_due a1 a2 a3 a4 a5) hI
    simp only [x1, x2, x3, x4, x5, bs, ck_s kS_0, ck_s kS_91, w1, w2]
    exact ⟨m2, _, w3, if_pos trivial⟩
  rw [if_neg c12]
  by_cases c13 : w = (13 : Int32)
  · rw [if_pos c13]
    obtain ⟨m1, m2, w1, w2, w3⟩ := both_v (C_odds l1 u1 l2 u2 l3 u3) (M_odds l1 u1 l2 u2 l3 u3) (ok_odds a1 a2 a3) hI
    simp only [x1, x2, x3, bs, ck_s kS_0, ck_s kS_91, w1, w2]
    exact ⟨m2, _, w3, if_pos trivial⟩
  rw [if_neg c13]
  by_cases c14 : w = (14 : Int32)
  · rw [if_pos c14]
    obtain ⟨m1, m2, w1, w2, w3⟩ := both_v (C_keep l1 u1) (M_keep l1 u1) (ok_keep a1) hI
    simp only [x1, bs, ck_s kS_0, ck_s kS_91, w1, w2]
    exact ⟨m2, _, w3, if_pos trivial⟩
  rw [if_neg c14]
  by_cases c15 : w = (15 : Int32)
  · rw [if_pos c15]
    obtain ⟨m1, m2, w1, w2, w3⟩ := both_v (C_back l1 u1) (M_back l1 u1) (ok_back a1) hI
    simp only [x1, bs, ck_s kS_0, ck_s kS_91, w1, w2]
    exact ⟨m2, _, w3, if_pos trivial⟩
  rw [if_neg c15]
  by_cases c16 : w = (16 : Int32)
  · rw [if_pos c16]
    obtain ⟨m1, m2, w1, w2, w3⟩ := both_v (C_count l1 u1) (M_count l1 u1) (ok_count a1) hI
    simp only [x1, bs, ck_s kS_0, ck_s kS_91, w1, w2]
    exact ⟨m2, _, w3, if_pos trivial⟩
  rw [if_neg c16]
  exact ⟨me, A, hI, rfl⟩
theorem law_true (L : Nat) (xs : Nat → Int32) (hL : L ≤ 3072) : mL_law sh0 mem0 L xs = some 1 := by
  rw [law_eq]
  refine lpn_mq (Q := fun X => X = some 1) (P := fun j s => ∃ (n : Nat) (me : ME) (A : AS), n + j = 600 ∧ s = (S1, me, 0, 91, iv ((6 * n : Nat) : Int)) ∧ n ≤ 512 ∧ LInv me A) ?_ lpF 600 _ (by unfold lpF; omega) ⟨0, M1, A0, rfl, rfl, by omega, LInv0⟩
  rintro j s kk ⟨n, me, A, hj, rfl, hn, hI⟩
  by_cases c : 6 * n + 6 ≤ L
  · left
    obtain ⟨m, A', h1, h2⟩ := law_step xs hL c hI kk
    exact ⟨j - 1, _, by omega, ⟨n + 1, m, A', by omega, rfl, by omega, h1⟩, h2⟩
  · right
    unfold mL_law_L18
    simp only []
    rw [if_pos (show Int32.ofNat L - 6 < iv ((6 * n : Nat) : Int) by rw [iv_ofN, show (6 : Int32) = iv 6 from rfl, iv_sub, iv_lt (by omega) (by omega) (by omega) (by omega)]; omega)]
    rfl
