/-! ===== the plain calls ===== -/
def OpC (f : ME → Option (Int32 × ME)) (sp : AS → Int × AS) : Prop := ∀ (me : ME) (A : AS), RepC me A → ASok A → ∃ me1 : ME, f me = some (iv (sp A).1, me1) ∧ RepC me1 (sp A).2 ∧ EqM me me1
def OpM (f : ME → Option (Int32 × ME)) (sp : AS → Int × AS) : Prop := ∀ (me : ME) (A : AS), RepM me A → ASok A → ∃ me1 : ME, f me = some (iv (sp A).1, me1) ∧ RepM me1 (sp A).2 ∧ EqC me me1
def OpOK (sp : AS → Int × AS) : Prop := ∀ A : AS, ASok A → ASok (sp A).2
theorem within_t (S : SH) (me : ME) {x y : Int} (h : 0 ≤ x ∧ x ≤ y) (hy : y ≤ 2147483647) : mX9_within S me (iv x) (iv y) = some (1, me) := by
  unfold mX9_within mX9_within_j13 mX9_within_j14
  rw [if_neg (by rw [show (0 : Int32) = iv 0 from rfl, iv_lt (by omega) (by omega) (by omega) (by omega)]; omega), if_neg (by rw [iv_lt (by omega) (by omega) (by omega) (by omega)]; omega), if_pos (Or.inr rfl)]
theorem within_f (S : SH) (me : ME) {x y : Int} (h : ¬ (0 ≤ x ∧ x ≤ y)) (h1 : -2147483648 ≤ x) (h2 : x ≤ 2147483647) (h3 : -2147483648 ≤ y) (hy : y ≤ 2147483647) : mX9_within S me (iv x) (iv y) = some (0, me) := by
  unfold mX9_within mX9_within_j13 mX9_within_j14
  by_cases hx : x < 0
  · rw [if_pos (by rw [show (0 : Int32) = iv 0 from rfl, iv_lt (by omega) (by omega) (by omega) (by omega)]; omega), if_pos (Or.inl rfl)]
  · rw [if_neg (by rw [show (0 : Int32) = iv 0 from rfl, iv_lt (by omega) (by omega) (by omega) (by omega)]; omega), if_pos (by rw [iv_lt (by omega) (by omega) (by omega) (by omega)]; omega), if_pos (Or.inl rfl)]
theorem in_t (S : SH) (me : ME) {x y z : Int} (h : y ≤ x ∧ x ≤ z) (h1 : -2147483648 ≤ y) (hz : z ≤ 2147483647) : mX10_in S me (iv x) (iv y) (iv z) = some (1, me) := by
  unfold mX10_in mX10_in_j14 mX10_in_j15
  rw [if_neg (by rw [iv_lt (by omega) (by omega) (by omega) (by omega)]; omega), if_neg (by rw [iv_lt (by omega) (by omega) (by omega) (by omega)]; omega), if_pos (Or.inr rfl)]
theorem in_f (S : SH) (me : ME) {x y z : Int} (h : ¬ (y ≤ x ∧ x ≤ z)) (h1 : -2147483648 ≤ x) (h2 : x ≤ 2147483647) (h3 : -2147483648 ≤ y) (h4 : y ≤ 2147483647) (h5 : -2147483648 ≤ z) (h6 : z ≤ 2147483647) : mX10_in S me (iv x) (iv y) (iv z) = some (0, me) := by
  unfold mX10_in mX10_in_j14 mX10_in_j15
  by_cases hx : x < y
  · rw [if_pos (by rw [iv_lt (by omega) (by omega) (by omega) (by omega)]; omega), if_pos (Or.inl rfl)]
  · rw [if_neg (by rw [iv_lt (by omega) (by omega) (by omega) (by omega)]; omega), if_pos (by rw [iv_lt (by omega) (by omega) (by omega) (by omega)]; omega), if_pos (Or.inl rfl)]
/-- type -/
def spType (x : Int) (A : AS) : Int × AS := if 0 ≤ x ∧ x ≤ 255 then (if A.1.1 < 110 then (A.1.1 + 1, ((A.1.1 + 1, va_up A.1.2 A.1.1 (iv x)), A.2)) else (-3, A)) else (-1, A)
theorem ok_type (x : Int) : OpOK (spType x) := by
  intro A h
  unfold spType
  by_cases h1 : 0 ≤ x ∧ x ≤ 255
  · by_cases h2 : A.1.1 < 110
    · rw [if_pos h1, if_pos h2]
      exact ⟨by show A.1.1 + 1 ≤ 110; omega, h.2⟩
    · rw [if_pos h1, if_neg h2]; exact h
  · rw [if_neg h1]; exact h
theorem C_type {x : Int} (h1 : -2147483648 ≤ x) (h2 : x ≤ 2147483647) : OpC (fun me => mX9_type S1 me 0 (iv x)) (spType x) := by
  intro me A hR hA
  obtain ⟨hT, hrest⟩ := id hR
  obtain ⟨t1, t2⟩ := hT
  have hn := hA.1
  unfold mX9_type mX9_type_j35 spType
  by_cases hx : 0 ≤ x ∧ x ≤ 255
  · rw [if_pos hx]
    simp only [show (255 : Int32) = iv 255 from rfl, within_t S1 me hx (by omega), Option.bind_some]
    rw [if_neg (by decide)]
    simp only [rS_0_0, Option.bind_some, ck_s kS_1]
    unfold mX8_append
    simp only [gI_k kS_1, Option.bind_some, t1, show (110 : Int32) = iv 110 from rfl]
    by_cases hl : A.1.1 < 110
    · rw [if_pos hl, if_pos (by rw [iv_lt (by omega) (by omega) (by omega) (by omega)]; omega)]
      simp only [rS_1_0, Option.bind_some, uI_k (n := 110) kS_2 lS_2 (i := (A.1.1 : Int)) (by omega) (by omega) (by omega), sI_k kS_1, gI_k kS_1]
      rw [if_neg (by decide)]
      simp only [Option.bind_some, rS_0_0, gI_k kS_1, up2_s, Int.toNat_natCast, up2_r me.1 _ _ (show (1 : Nat) ≠ 2 by decide), t1, show (1 : Int32) = iv 1 from rfl, iv_add]
      refine ⟨(up2 (up2 me.1 2 A.1.1 (iv x)) 1 1 (iv (A.1.1 + 1)), me.2), rfl, hR.text (fun r _ h1 h2 => ?_) ⟨up2_s (up2 me.1 2 A.1.1 (iv x)) 1 1 _, fun i hi => ?_⟩, (EqM.up (by omega)).trans (EqM.up (by omega))⟩
      · show up2 (up2 me.1 2 A.1.1 (iv x)) 1 1 _ r = _
        rw [up2_r _ _ _ h1, up2_r _ _ _ h2]
      · show up2 (up2 me.1 2 A.1.1 (iv x)) 1 1 (iv (A.1.1 + 1)) 2 i = va_up A.1.2 A.1.1 (iv x) i
        rw [up2_r _ _ _ (by decide)]
        have hi : i < A.1.1 + 1 := hi
        by_cases h : i = A.1.1
        · subst h; rw [up2_s]; simp [va_up]
        · rw [up2_k _ _ _ _ h, t2 i (by omega)]; simp [va_up, h]
    · rw [if_neg hl, if_neg (by rw [iv_lt (by omega) (by omega) (by omega) (by omega)]; omega)]
      simp only [Option.bind_some]
      exact ⟨me, rfl, hR, EqM.rfl'⟩
  · rw [if_neg hx]
    simp only [show (255 : Int32) = iv 255 from rfl, within_f S1 me hx (by omega) (by omega) (by omega) (by omega), Option.bind_some]
    exact ⟨me, rfl, hR, EqM.rfl'⟩
theorem M_type {x : Int} (h1 : -2147483648 ≤ x) (h2 : x ≤ 2147483647) : OpM (fun me => mX10_type S1 me 91 (iv x)) (spType x) := by
  intro me A hR hA
  obtain ⟨t1, t2⟩ := hR.1
  have hn := hA.1
  unfold mX10_type spType
  by_cases hx : 0 ≤ x ∧ x ≤ 255
  · rw [if_pos hx]
    simp only [show (255 : Int32) = iv 255 from rfl, show (0 : Int32) = iv 0 from rfl, in_t S1 me hx (by omega) (by omega), Option.bind_some]
    rw [if_neg (by decide)]
    simp only [gI_k kS_91, Option.bind_some, t1, show (110 : Int32) = iv 110 from rfl]
    by_cases hl : A.1.1 < 110
    · rw [if_pos hl, if_neg (by rw [iv_eq (by omega) (by omega) (by omega) (by omega)]; omega)]
      simp only [rS_91_10, Option.bind_some, uI_k (n := 110) kS_98 lS_98 (i := (A.1.1 : Int)) (by omega) (by omega) (by omega), sI_k kS_91, gI_k kS_91, up2_s, Int.toNat_natCast, up2_r me.1 _ _ (show (91 : Nat) ≠ 98 by decide), t1, show (1 : Int32) = iv 1 from rfl, iv_add]
      refine ⟨(up2 (up2 me.1 98 A.1.1 (iv x)) 91 9 (iv (A.1.1 + 1)), me.2), rfl, hR.text (fun r h1 h2 => ?_) (fun k hk => ?_) ⟨up2_s (up2 me.1 98 A.1.1 (iv x)) 91 9 _, fun i hi => ?_⟩, (EqC.up (by omega)).trans (EqC.up (by omega))⟩
      · show up2 (up2 me.1 98 A.1.1 (iv x)) 91 9 _ r = _
        rw [up2_r _ _ _ (by omega), up2_r _ _ _ h2]
      · show up2 (up2 me.1 98 A.1.1 (iv x)) 91 9 _ 91 k = _
        rw [up2_k _ _ _ _ hk, up2_r _ _ _ (by decide)]
      · show up2 (up2 me.1 98 A.1.1 (iv x)) 91 9 (iv (A.1.1 + 1)) 98 i = va_up A.1.2 A.1.1 (iv x) i
        rw [up2_r _ _ _ (by decide)]
        have hi : i < A.1.1 + 1 := hi
        by_cases h : i = A.1.1
        · subst h; rw [up2_s]; simp [va_up]
        · rw [up2_k _ _ _ _ h, t2 i (by omega)]; simp [va_up, h]
    · rw [if_neg hl, if_pos (by rw [iv_eq (by omega) (by omega) (by omega) (by omega)]; omega)]
      exact ⟨me, rfl, hR, EqC.rfl'⟩
  · rw [if_neg hx]
    simp only [show (255 : Int32) = iv 255 from rfl, show (0 : Int32) = iv 0 from rfl, in_f S1 me hx (by omega) (by omega) (by omega) (by omega) (by omega) (by omega), Option.bind_some]
    exact ⟨me, rfl, hR, EqC.rfl'⟩
/-- clear -/
def spClear (A : AS) : Int × AS := (A.1.1, ((0, A.1.2), A.2))
theorem ok_clear : OpOK spClear := fun A h => ⟨Nat.zero_le _, h.2⟩
theorem C_clear : OpC (fun me => mX9_clear S1 me 0) spClear := by
  intro me A hR hA
  obtain ⟨t1, t2⟩ := hR.1
  unfold mX9_clear spClear
  simp only [rS_0_0, Option.bind_some, gI_k kS_1, sI_k kS_1, t1]
  refine ⟨(up2 me.1 1 1 (iv 0), me.2), rfl, hR.text (fun r _ h1 h2 => up2_r me.1 _ _ h1) ⟨up2_s me.1 1 1 _, fun i hi => absurd hi (Nat.not_lt_zero i)⟩, EqM.up (by omega)⟩
theorem M_clear : OpM (fun me => mX10_clear S1 me 91) spClear := by
  intro me A hR hA
  obtain ⟨t1, t2⟩ := hR.1
  unfold mX10_clear spClear
  simp only [Option.bind_some, gI_k kS_91, sI_k kS_91, t1]
  refine ⟨(up2 me.1 91 9 (iv 0), me.2), rfl, hR.text (fun r h1 h2 => up2_r me.1 _ _ (by omega)) (fun k hk => up2_k me.1 91 91 (iv 0) hk) ⟨up2_s me.1 91 9 _, fun i hi => absurd hi (Nat.not_lt_zero i)⟩, EqC.up (by omega)⟩
