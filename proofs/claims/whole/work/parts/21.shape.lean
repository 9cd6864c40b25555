def mem0 : ME := (fun _ _ => 0, fun _ _ => 0)
def sh0 : SH := ([], fun _ _ => none)
def law_ini : Option (SH × ME × Nat × Nat) :=
  (nwO (600000, 7302250) sh0 mem0 9 11).bind fun p245 =>
  (mX9_init p245.1 p245.2 sh0.1.length).bind fun q246 => (ckC (600000, 7302250) p245.1 q246.1 90 689).bind fun _ =>
  (nwO (600000, 7302250) q246.1 q246.2 10 31).bind fun p250 =>
  (mX10_init p250.1 p250.2 q246.1.1.length).bind fun q251 => (ckC (600000, 7302250) p250.1 q251.1 12 531).bind fun _ =>
  some (q251.1, q251.2, sh0.1.length, q246.1.1.length)
def S1 : SH := (law_ini.getD (sh0, mem0, 0, 0)).1
def M1 : ME := (law_ini.getD (sh0, mem0, 0, 0)).2.1
theorem law_ini_ok : law_ini = some (S1, M1, 0, 91) := by
  have h : law_ini.isSome = true := by decide +kernel
  have h2 : (law_ini.getD (sh0, mem0, 0, 0)).2.2.1 = 0 := by decide +kernel
  have h3 : (law_ini.getD (sh0, mem0, 0, 0)).2.2.2 = 91 := by decide +kernel
  obtain ⟨q, hq⟩ := Option.isSome_iff_exists.mp h
  have e : law_ini.getD (sh0, mem0, 0, 0) = q := by rw [hq]; rfl
  unfold S1 M1
  rw [e] at h2 h3 ⊢
  rw [hq, ← h2, ← h3]
theorem law_eq (L : Nat) (xs : Nat → Int32) : mL_law sh0 mem0 L xs = lpn (mL_law_L18 sh0 L xs) lpF (S1, M1, 0, 91, 0) := by
  have h : mL_law sh0 mem0 L xs = law_ini.bind fun q => lpn (mL_law_L18 sh0 L xs) lpF (q.1, q.2.1, q.2.2.1, q.2.2.2, 0) := by
    unfold mL_law law_ini
    simp only [Option.bind_assoc, Option.bind_some]
  rw [h, law_ini_ok]
  rfl
theorem kS_0 : kO S1 0 = 9 := by decide +kernel
theorem kS_1 : kO S1 1 = 8 := by decide +kernel
theorem kS_3 : kO S1 3 = 3 := by decide +kernel
theorem kS_4 : kO S1 4 = 6 := by decide +kernel
theorem kS_7 : kO S1 7 = 2 := by decide +kernel
theorem kS_11 : kO S1 11 = 6 := by decide +kernel
theorem kS_14 : kO S1 14 = 2 := by decide +kernel
theorem kS_18 : kO S1 18 = 4 := by decide +kernel
theorem kS_62 : kO S1 62 = 5 := by decide +kernel
theorem kS_67 : kO S1 67 = 1 := by decide +kernel
theorem kS_71 : kO S1 71 = 7 := by decide +kernel
theorem kS_82 : kO S1 82 = 0 := by decide +kernel
theorem kS_83 : kO S1 83 = 2 := by decide +kernel
theorem kS_87 : kO S1 87 = 2 := by decide +kernel
theorem kS_91 : kO S1 91 = 10 := by decide +kernel
theorem kS_2 : kO S1 2 = 11 := by decide +kernel
theorem lS_2 : lO S1 2 = 110 := by decide +kernel
theorem kS_5 : kO S1 5 = 11 := by decide +kernel
theorem lS_5 : lO S1 5 = 6 := by decide +kernel
theorem kS_6 : kO S1 6 = 11 := by decide +kernel
theorem lS_6 : lO S1 6 = 6 := by decide +kernel
theorem kS_8 : kO S1 8 = 11 := by decide +kernel
theorem lS_8 : lO S1 8 = 9 := by decide +kernel
theorem kS_9 : kO S1 9 = 11 := by decide +kernel
theorem lS_9 : lO S1 9 = 9 := by decide +kernel
theorem kS_10 : kO S1 10 = 11 := by decide +kernel
theorem lS_10 : lO S1 10 = 6 := by decide +kernel
theorem kS_12 : kO S1 12 = 11 := by decide +kernel
theorem lS_12 : lO S1 12 = 6 := by decide +kernel
theorem kS_13 : kO S1 13 = 11 := by decide +kernel
theorem lS_13 : lO S1 13 = 6 := by decide +kernel
theorem kS_15 : kO S1 15 = 11 := by decide +kernel
theorem lS_15 : lO S1 15 = 9 := by decide +kernel
theorem kS_16 : kO S1 16 = 11 := by decide +kernel
theorem lS_16 : lO S1 16 = 9 := by decide +kernel
theorem kS_17 : kO S1 17 = 11 := by decide +kernel
theorem lS_17 : lO S1 17 = 6 := by decide +kernel
theorem kS_19 : kO S1 19 = 14 := by decide +kernel
theorem lS_19 : lO S1 19 = 10 := by decide +kernel
theorem kS_60 : kO S1 60 = 14 := by decide +kernel
theorem lS_60 : lO S1 60 = 2 := by decide +kernel
theorem kS_61 : kO S1 61 = 13 := by decide +kernel
theorem lS_61 : lO S1 61 = 2 := by decide +kernel
theorem kS_63 : kO S1 63 = 11 := by decide +kernel
theorem lS_63 : lO S1 63 = 9 := by decide +kernel
theorem kS_64 : kO S1 64 = 11 := by decide +kernel
theorem lS_64 : lO S1 64 = 9 := by decide +kernel
theorem kS_65 : kO S1 65 = 11 := by decide +kernel
theorem lS_65 : lO S1 65 = 9 := by decide +kernel
theorem kS_66 : kO S1 66 = 11 := by decide +kernel
theorem lS_66 : lO S1 66 = 9 := by decide +kernel
theorem kS_68 : kO S1 68 = 11 := by decide +kernel
theorem lS_68 : lO S1 68 = 9 := by decide +kernel
theorem kS_69 : kO S1 69 = 11 := by decide +kernel
theorem lS_69 : lO S1 69 = 9 := by decide +kernel
theorem kS_70 : kO S1 70 = 11 := by decide +kernel
theorem lS_70 : lO S1 70 = 9 := by decide +kernel
theorem kS_72 : kO S1 72 = 15 := by decide +kernel
theorem lS_72 : lO S1 72 = 9 := by decide +kernel
theorem kS_84 : kO S1 84 = 11 := by decide +kernel
theorem lS_84 : lO S1 84 = 9 := by decide +kernel
theorem kS_85 : kO S1 85 = 11 := by decide +kernel
theorem lS_85 : lO S1 85 = 9 := by decide +kernel
theorem kS_86 : kO S1 86 = 11 := by decide +kernel
theorem lS_86 : lO S1 86 = 6 := by decide +kernel
theorem kS_88 : kO S1 88 = 11 := by decide +kernel
theorem lS_88 : lO S1 88 = 9 := by decide +kernel
theorem kS_89 : kO S1 89 = 11 := by decide +kernel
theorem lS_89 : lO S1 89 = 9 := by decide +kernel
theorem kS_90 : kO S1 90 = 11 := by decide +kernel
theorem lS_90 : lO S1 90 = 6 := by decide +kernel
theorem kS_92 : kO S1 92 = 11 := by decide +kernel
theorem lS_92 : lO S1 92 = 6 := by decide +kernel
theorem kS_93 : kO S1 93 = 11 := by decide +kernel
theorem lS_93 : lO S1 93 = 6 := by decide +kernel
theorem kS_94 : kO S1 94 = 11 := by decide +kernel
theorem lS_94 : lO S1 94 = 25 := by decide +kernel
theorem kS_95 : kO S1 95 = 11 := by decide +kernel
theorem lS_95 : lO S1 95 = 250 := by decide +kernel
theorem kS_96 : kO S1 96 = 13 := by decide +kernel
theorem lS_96 : lO S1 96 = 2 := by decide +kernel
theorem kS_97 : kO S1 97 = 11 := by decide +kernel
theorem lS_97 : lO S1 97 = 50 := by decide +kernel
theorem kS_98 : kO S1 98 = 11 := by decide +kernel
theorem lS_98 : lO S1 98 = 110 := by decide +kernel
theorem kS_99 : kO S1 99 = 11 := by decide +kernel
theorem lS_99 : lO S1 99 = 6 := by decide +kernel
theorem kS_100 : kO S1 100 = 11 := by decide +kernel
theorem lS_100 : lO S1 100 = 6 := by decide +kernel
theorem kS_101 : kO S1 101 = 11 := by decide +kernel
theorem lS_101 : lO S1 101 = 25 := by decide +kernel
theorem kS_102 : kO S1 102 = 11 := by decide +kernel
theorem lS_102 : lO S1 102 = 9 := by decide +kernel
theorem kS_103 : kO S1 103 = 12 := by decide +kernel
theorem lS_103 : lO S1 103 = 36 := by decide +kernel
theorem rS_0_0 : gR S1 9 0 0 = some 1 := by decide +kernel
theorem rS_0_1 : gR S1 9 1 0 = some 3 := by decide +kernel
theorem rS_0_2 : gR S1 9 2 0 = some 11 := by decide +kernel
theorem rS_0_3 : gR S1 9 3 0 = some 14 := by decide +kernel
theorem rS_0_4 : gR S1 9 4 0 = some 18 := by decide +kernel
theorem rS_0_5 : gR S1 9 5 0 = some 60 := by decide +kernel
theorem rS_0_6 : gR S1 9 6 0 = some 61 := by decide +kernel
theorem rS_0_7 : gR S1 9 7 0 = some 62 := by decide +kernel
theorem rS_0_8 : gR S1 9 8 0 = some 67 := by decide +kernel
theorem rS_0_9 : gR S1 9 9 0 = some 71 := by decide +kernel
theorem rS_0_10 : gR S1 9 10 0 = some 82 := by decide +kernel
theorem rS_1_0 : gR S1 8 0 1 = some 2 := by decide +kernel
theorem rS_3_0 : gR S1 3 0 3 = some 4 := by decide +kernel
theorem rS_3_1 : gR S1 3 1 3 = some 7 := by decide +kernel
theorem rS_4_0 : gR S1 6 0 4 = some 5 := by decide +kernel
theorem rS_4_1 : gR S1 6 1 4 = some 6 := by decide +kernel
theorem rS_7_0 : gR S1 2 0 7 = some 8 := by decide +kernel
theorem rS_7_1 : gR S1 2 1 7 = some 9 := by decide +kernel
theorem rS_7_2 : gR S1 2 2 7 = some 10 := by decide +kernel
theorem rS_11_0 : gR S1 6 0 11 = some 12 := by decide +kernel
theorem rS_11_1 : gR S1 6 1 11 = some 13 := by decide +kernel
theorem rS_14_0 : gR S1 2 0 14 = some 15 := by decide +kernel
theorem rS_14_1 : gR S1 2 1 14 = some 16 := by decide +kernel
theorem rS_14_2 : gR S1 2 2 14 = some 17 := by decide +kernel
theorem rS_18_0 : gR S1 4 0 18 = some 19 := by decide +kernel
theorem rS_62_0 : gR S1 5 0 62 = some 63 := by decide +kernel
theorem rS_62_1 : gR S1 5 1 62 = some 64 := by decide +kernel
theorem rS_62_2 : gR S1 5 2 62 = some 65 := by decide +kernel
theorem rS_62_3 : gR S1 5 3 62 = some 66 := by decide +kernel
theorem rS_67_0 : gR S1 1 0 67 = some 68 := by decide +kernel
theorem rS_67_1 : gR S1 1 1 67 = some 69 := by decide +kernel
theorem rS_67_3 : gR S1 1 3 67 = some 70 := by decide +kernel
theorem rS_71_0 : gR S1 7 0 71 = some 62 := by decide +kernel
theorem rS_71_1 : gR S1 7 1 71 = some 72 := by decide +kernel
theorem rS_82_0 : gR S1 0 0 82 = some 62 := by decide +kernel
theorem rS_82_1 : gR S1 0 1 82 = some 71 := by decide +kernel
theorem rS_83_0 : gR S1 2 0 83 = some 84 := by decide +kernel
theorem rS_83_1 : gR S1 2 1 83 = some 85 := by decide +kernel
theorem rS_83_2 : gR S1 2 2 83 = some 86 := by decide +kernel
theorem rS_87_0 : gR S1 2 0 87 = some 88 := by decide +kernel
theorem rS_87_1 : gR S1 2 1 87 = some 89 := by decide +kernel
theorem rS_87_2 : gR S1 2 2 87 = some 90 := by decide +kernel
theorem rS_91_1 : gR S1 10 1 91 = some 92 := by decide +kernel
theorem rS_91_2 : gR S1 10 2 91 = some 93 := by decide +kernel
theorem rS_91_3 : gR S1 10 3 91 = some 94 := by decide +kernel
theorem rS_91_6 : gR S1 10 6 91 = some 95 := by decide +kernel
theorem rS_91_7 : gR S1 10 7 91 = some 96 := by decide +kernel
theorem rS_91_8 : gR S1 10 8 91 = some 97 := by decide +kernel
theorem rS_91_10 : gR S1 10 10 91 = some 98 := by decide +kernel
theorem rS_91_17 : gR S1 10 17 91 = some 99 := by decide +kernel
theorem rS_91_18 : gR S1 10 18 91 = some 100 := by decide +kernel
theorem rS_91_19 : gR S1 10 19 91 = some 101 := by decide +kernel
theorem rS_91_21 : gR S1 10 21 91 = some 102 := by decide +kernel
theorem rS_91_23 : gR S1 10 23 91 = some 103 := by decide +kernel
/-- a log: its object at o, its three rows behind it -/
def isLog (o : Nat) : Prop := kO S1 o = 2 ∧ (gR S1 2 0 o = some (o + 1) ∧ gR S1 2 1 o = some (o + 2) ∧ gR S1 2 2 o = some (o + 3)) ∧ (kO S1 (o + 1) = 11 ∧ kO S1 (o + 2) = 11 ∧ kO S1 (o + 3) = 11) ∧ lO S1 (o + 1) = 9 ∧ lO S1 (o + 2) = 9 ∧ lO S1 (o + 3) = 6
theorem isLog_ring : ∀ i, i < 10 → isLog (20 + 4 * i) := by unfold isLog; decide +kernel
theorem isLog_img : ∀ i, i < 2 → isLog (83 + 4 * i) := by unfold isLog; decide +kernel
theorem isLog_14 : isLog 14 := by unfold isLog; decide +kernel
theorem isLog_7 : isLog 7 := by unfold isLog; decide +kernel
theorem ring_at : ∀ i, i < 10 → aR S1 14 19 (nI i) = some (20 + 4 * i) := by decide +kernel
theorem img_at : ∀ i, i < 2 → aR S1 14 60 (nI i) = some (83 + 4 * i) := by decide +kernel
theorem row_at : ∀ i, i < 9 → aR S1 15 72 (nI i) = some (73 + i) := by decide +kernel
theorem row_k : ∀ i, i < 9 → kO S1 (73 + i) = 12 ∧ lO S1 (73 + i) = 4 := by decide +kernel
theorem zS_1_1 : M1.1 1 1 = 0 := by decide +kernel
theorem zS_3_2 : M1.1 3 2 = 0 := by decide +kernel
theorem zS_11_2 : M1.1 11 2 = 0 := by decide +kernel
theorem zS_14_3 : M1.1 14 3 = 0 := by decide +kernel
theorem zS_18_1 : M1.1 18 1 = 0 := by decide +kernel
theorem zS_18_2 : M1.1 18 2 = 0 := by decide +kernel
theorem zS_61_0 : M1.1 61 0 = 0 := by decide +kernel
theorem zS_61_1 : M1.1 61 1 = 0 := by decide +kernel
theorem zS_91_0 : M1.1 91 0 = 0 := by decide +kernel
theorem zS_91_4 : M1.1 91 4 = 0 := by decide +kernel
theorem zS_91_5 : M1.1 91 5 = 0 := by decide +kernel
theorem zS_91_9 : M1.1 91 9 = 0 := by decide +kernel
theorem zS_94_0 : M1.1 94 0 = 0 := by decide +kernel
theorem zS_96_0 : M1.1 96 0 = 0 := by decide +kernel
theorem zS_96_1 : M1.1 96 1 = 0 := by decide +kernel
