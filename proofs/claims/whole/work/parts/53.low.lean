/-! ===== fractions in least terms ===== -/
def EI (G h l i : Nat) : Prop := Nat.gcd h l = G ∧ (h ≤ 2 ^ 40 ∧ l ≤ 2 ^ 40) ∧ (i = 0 ∨ (l < h ∧ h * l * 2 ^ i ≤ 2 ^ 82))
theorem EI_step {G h l i : Nat} (hE : EI G h l i) (hl : l ≠ 0) : EI G l (h % l) (i + 1) := by
  obtain ⟨g, ⟨b1, b2⟩, b3⟩ := hE
  have hlt := Nat.mod_lt h (Nat.pos_of_ne_zero hl)
  refine ⟨?_, ⟨b2, by omega⟩, Or.inr ⟨hlt, ?_⟩⟩
  · rw [← g, Nat.gcd_comm h l, Nat.gcd_rec l h, Nat.gcd_comm]
  · rcases b3 with rfl | ⟨c1, c2⟩
    · have h1 : l * (h % l) ≤ 2 ^ 40 * 2 ^ 40 := Nat.mul_le_mul b2 (by omega)
      exact Nat.le_trans (Nat.mul_le_mul_right (2 ^ (0 + 1)) h1) (by decide)
    · have h2 : 2 * (h % l) ≤ h := by
        have d1 := Nat.div_add_mod h l
        have d2 : 1 ≤ h / l := Nat.div_pos (by omega) (by omega)
        have d3 := Nat.le_mul_of_pos_right l d2
        omega
      have e : l * (h % l) * 2 ^ (i + 1) = 2 * (h % l) * l * 2 ^ i := by
        rw [Nat.pow_succ]
        generalize 2 ^ i = w
        generalize h % l = z
        grind
      rw [e]
      exact Nat.le_trans (Nat.mul_le_mul_right _ (Nat.mul_le_mul_right l h2)) c2
theorem EI_end {G h l : Nat} (hE : EI G h l 100) : l = 0 := by
  obtain ⟨-, -, b3⟩ := hE
  rcases b3 with q | ⟨c1, c2⟩
  · omega
  · rcases Nat.eq_zero_or_pos l with q | q
    · exact q
    · exfalso
      have h1 : 1 ≤ h * l := Nat.mul_pos (by omega) q
      have h2 := Nat.mul_le_mul_right (2 ^ 100) h1
      exact absurd (Nat.le_trans h2 c2) (by decide)
theorem EI_zero {G h i : Nat} (hE : EI G h 0 i) : h = G := by
  have := hE.1
  rw [Nat.gcd_zero_right] at this
  exact this
theorem jrem {h l : Nat} (hh : h ≤ 2 ^ 40) (hl : l ≤ 2 ^ 40) : jv (h : Int) - jv (h : Int) / jv (l : Int) * jv (l : Int) = jv ((h % l : Nat) : Int) := by
  rw [jv_div (by omega) (by omega) (by omega) (by omega), jv_mul, jv_sub]
  refine congrArg jv ?_
  rw [Int.tdiv_eq_ediv_of_nonneg (by omega), ← Int.natCast_ediv, ← Int.natCast_mul]
  have := Nat.div_add_mod' h l
  omega
theorem cd_v (S : SH) (me : ME) {x y : Int} (hx : x.natAbs ≤ 2 ^ 40) (hy : y.natAbs ≤ 2 ^ 40) : mX9_commonDivisor S me (jv x) (jv y) = some (jv ((Nat.gcd x.natAbs y.natAbs : Nat) : Int), me) := by
  unfold mX9_commonDivisor
  simp only [abs_v S me (show x.natAbs ≤ 9000000000000000000 by omega), abs_v S me (show y.natAbs ≤ 9000000000000000000 by omega), bs]
  refine lpn_ix (P := fun i s => ∃ h l : Nat, s = (me, jv (h : Int), jv (l : Int), iv i) ∧ EI (Nat.gcd x.natAbs y.natAbs) h l i) (e := 100) ?_ 100 0 lpF _ (by omega) (by unfold lpF; omega) ⟨x.natAbs, y.natAbs, rfl, rfl, ⟨hx, hy⟩, Or.inl rfl⟩
  rintro i s kk hi ⟨h, l, rfl, hE⟩
  obtain ⟨b1, b2⟩ := hE.2.1
  unfold mX9_commonDivisor_L15 mX9_commonDivisor_j50
  simp only [show (100 : Int32) = iv 100 from rfl, lg_z (show ((l : Nat) : Int).natAbs ≤ 9000000000000000000 by omega)]
  by_cases e : i = 100
  · subst e
    have z := EI_end hE
    subst z
    right
    rw [if_pos (show iv 100 ≤ iv ((100 : Nat) : Int) by decide), EI_zero hE]
  · rw [if_neg (show ¬ iv 100 ≤ iv i by rw [iv_le (by omega) (by omega) (by omega) (by omega)]; omega)]
    by_cases z : l = 0
    · subst z
      right
      rw [if_pos (show ((0 : Nat) : Int) = 0 from rfl), EI_zero hE]
    · left
      refine ⟨by omega, _, ⟨l, h % l, rfl, EI_step hE z⟩, ?_⟩
      rw [if_neg (show ¬ (l : Int) = 0 by omega), if_neg (show ¬ jv (l : Int) = 0 by rw [show (0 : Int64) = jv 0 from rfl, jv_eq (by omega) (by omega) (by omega) (by omega)]; omega), jrem b1 b2, show (1 : Int32) = iv 1 from rfl, iv_add]
      rfl
def lowU (X D : Int) : Int := X.tdiv ((Nat.gcd X.natAbs D.natAbs : Nat) : Int)
def lowL (X D : Int) : Int := D.tdiv ((Nat.gcd X.natAbs D.natAbs : Nat) : Int)
theorem gcd_b {X D : Int} (hD : 0 < D) (hD2 : D ≤ 2 ^ 40) : 0 < Nat.gcd X.natAbs D.natAbs ∧ Nat.gcd X.natAbs D.natAbs ≤ 2 ^ 40 := by
  have h1 : 0 < D.natAbs := by omega
  refine ⟨Nat.gcd_pos_of_pos_right _ h1, ?_⟩
  have := Nat.le_of_dvd h1 (Nat.gcd_dvd_right X.natAbs D.natAbs)
  omega
theorem upper_v (S : SH) (me : ME) {X D : Int} (hX : X.natAbs ≤ 2 ^ 40) (hD : 0 < D) (hD2 : D ≤ 2 ^ 40) : mX9_upper S me (jv X) (jv D) = some (iv (lowU X D), me) := by
  have hg := gcd_b (X := X) hD hD2
  unfold mX9_upper mX9_upper_j23 lowU
  simp only [cd_v S me hX (show D.natAbs ≤ 2 ^ 40 by omega), bs]
  generalize Nat.gcd X.natAbs D.natAbs = G at *
  rw [if_neg (by rw [lg_z (by omega)]; omega), if_neg (show ¬ jv (G : Int) = 0 by rw [show (0 : Int64) = jv 0 from rfl, jv_eq (by omega) (by omega) (by omega) (by omega)]; omega), jv_div (by omega) (by omega) (by omega) (by omega), jv_I]
theorem lower_v (S : SH) (me : ME) {X D : Int} (hX : X.natAbs ≤ 2 ^ 40) (hD : 0 < D) (hD2 : D ≤ 2 ^ 40) : mX9_lower S me (jv X) (jv D) = some (iv (lowL X D), me) := by
  have hg := gcd_b (X := X) hD hD2
  unfold mX9_lower mX9_lower_j23 lowL
  simp only [cd_v S me hX (show D.natAbs ≤ 2 ^ 40 by omega), bs]
  generalize Nat.gcd X.natAbs D.natAbs = G at *
  rw [if_neg (by rw [lg_z (by omega)]; omega), if_neg (show ¬ jv (G : Int) = 0 by rw [show (0 : Int64) = jv 0 from rfl, jv_eq (by omega) (by omega) (by omega) (by omega)]; omega), jv_div (by omega) (by omega) (by omega) (by omega), jv_I]
theorem lowest_v (S : SH) (me : ME) {X D : Int} (hX : X.natAbs ≤ 2 ^ 40) (hD : 0 < D) (hD2 : D ≤ 2 ^ 40) (a : Int32) : mX10_lowest S me (jv X) (jv D) a = some (if a = 0 then iv (lowL X D) else iv (lowU X D), me) := by
  have hg := gcd_b (X := X) hD hD2
  have run : mX10_lowest_j12 S (jv X) (jv D) a me (jv (X.natAbs : Int)) = some (if a = 0 then iv (lowL X D) else iv (lowU X D), me) := by
    unfold mX10_lowest_j12
    refine lpn_ix (P := fun i s => ∃ h l : Nat, s = (me, jv (h : Int), jv (l : Int)) ∧ EI (Nat.gcd X.natAbs D.natAbs) h l i) (e := 100) ?_ 100 0 lpF _ (by omega) (by unfold lpF; omega) ⟨X.natAbs, D.natAbs, by rw [show ((D.natAbs : Nat) : Int) = D by omega], rfl, ⟨hX, by omega⟩, Or.inl rfl⟩
    rintro i s kk hi ⟨h, l, rfl, hE⟩
    obtain ⟨b1, b2⟩ := hE.2.1
    unfold mX10_lowest_L17
    simp only [lg_z (show ((l : Nat) : Int).natAbs ≤ 9000000000000000000 by omega)]
    by_cases z : l = 0
    · subst z
      right
      rw [if_pos (show ((0 : Nat) : Int) = 0 from rfl), EI_zero hE]
      unfold mX10_lowest_j42 mX10_lowest_j58 lowL lowU
      generalize Nat.gcd X.natAbs D.natAbs = G at *
      rw [if_neg (show ¬ jv (G : Int) = 0 by rw [show (0 : Int64) = jv 0 from rfl, jv_eq (by omega) (by omega) (by omega) (by omega)]; omega), if_neg (show ¬ jv (G : Int) = 0 by rw [show (0 : Int64) = jv 0 from rfl, jv_eq (by omega) (by omega) (by omega) (by omega)]; omega), jv_div (by omega) (by omega) (by omega) (by omega), jv_div (by omega) (by omega) (by omega) (by omega), jv_I, jv_I]
      by_cases c : a = 0
      · rw [if_pos c, if_pos c]
      · rw [if_neg c, if_neg c]
    · left
      have hi2 : i < 100 := by
        rcases Nat.lt_or_ge i 100 with q | q
        · exact q
        · have : i = 100 := by omega
          subst this
          exact absurd (EI_end hE) z
      refine ⟨hi2, _, ⟨l, h % l, rfl, EI_step hE z⟩, ?_⟩
      rw [if_neg (show ¬ (l : Int) = 0 by omega), if_neg (show ¬ jv (l : Int) = 0 by rw [show (0 : Int64) = jv 0 from rfl, jv_eq (by omega) (by omega) (by omega) (by omega)]; omega), jrem b1 b2]
  unfold mX10_lowest
  rw [jv_neg]
  by_cases c : 0 ≤ X
  · rw [if_pos (show 0 ≤ lg_cmp (jv X) (0 : Int64) by rw [show (0 : Int64) = jv 0 from rfl, lg_ge0 (by omega) (by omega) (by omega) (by omega)]; exact c), ← run]
    rw [show jv (X.natAbs : Int) = jv X from congrArg jv (by omega)]
  · rw [if_neg (show ¬ 0 ≤ lg_cmp (jv X) (0 : Int64) by rw [show (0 : Int64) = jv 0 from rfl, lg_ge0 (by omega) (by omega) (by omega) (by omega)]; exact c), ← run]
    rw [show jv (X.natAbs : Int) = jv (-X) from congrArg jv (by omega)]
theorem low_eq {X D X' D' : Int} (h : X * D' = X' * D) (hD : 0 < D) (hD' : 0 < D') : lowU X D = lowU X' D' ∧ lowL X D = lowL X' D' := by
  have hn : X.natAbs * D'.natAbs = X'.natAbs * D.natAbs := by rw [← Int.natAbs_mul, ← Int.natAbs_mul, h]
  have hg : Nat.gcd X.natAbs D.natAbs * D'.natAbs = Nat.gcd X'.natAbs D'.natAbs * D.natAbs := by
    rw [← Nat.gcd_mul_right, ← Nat.gcd_mul_right, hn, Nat.mul_comm D.natAbs]
  have p1 : 0 < Nat.gcd X.natAbs D.natAbs := Nat.gcd_pos_of_pos_right _ (by omega)
  have p2 : 0 < Nat.gcd X'.natAbs D'.natAbs := Nat.gcd_pos_of_pos_right _ (by omega)
  obtain ⟨a, ha⟩ := Int.ofNat_dvd_left.mpr (Nat.gcd_dvd_left X.natAbs D.natAbs)
  obtain ⟨b, hb⟩ := Int.ofNat_dvd_left.mpr (Nat.gcd_dvd_right X.natAbs D.natAbs)
  obtain ⟨a', ha'⟩ := Int.ofNat_dvd_left.mpr (Nat.gcd_dvd_left X'.natAbs D'.natAbs)
  obtain ⟨b', hb'⟩ := Int.ofNat_dvd_left.mpr (Nat.gcd_dvd_right X'.natAbs D'.natAbs)
  have hgI : ((Nat.gcd X.natAbs D.natAbs : Nat) : Int) * D' = ((Nat.gcd X'.natAbs D'.natAbs : Nat) : Int) * D := by
    have := congrArg (fun n : Nat => (n : Int)) hg
    simp only [Int.natCast_mul] at this
    rw [show ((D'.natAbs : Nat) : Int) = D' by omega, show ((D.natAbs : Nat) : Int) = D by omega] at this
    exact this
  unfold lowU lowL
  generalize Nat.gcd X.natAbs D.natAbs = G at *
  generalize Nat.gcd X'.natAbs D'.natAbs = G' at *
  have hG : ((G : Nat) : Int) ≠ 0 := by omega
  have hG' : ((G' : Nat) : Int) ≠ 0 := by omega
  have eb : b = b' := by
    have e : (G : Int) * G' * b' = (G : Int) * G' * b := by
      rw [hb, hb'] at hgI
      grind
    exact (Int.eq_of_mul_eq_mul_left (Int.mul_ne_zero hG hG') e).symm
  have hb0 : b ≠ 0 := fun q => by
    rw [q, Int.mul_zero] at hb
    omega
  have ea : a = a' := by
    rw [ha, hb, ha', hb', ← eb] at h
    have e : (G : Int) * G' * b * a = (G : Int) * G' * b * a' := by grind
    exact Int.eq_of_mul_eq_mul_left (Int.mul_ne_zero (Int.mul_ne_zero hG hG') hb0) e
  rw [ha, hb, ha', hb', Int.mul_tdiv_cancel_left _ hG, Int.mul_tdiv_cancel_left _ hG, Int.mul_tdiv_cancel_left _ hG', Int.mul_tdiv_cancel_left _ hG']
  exact ⟨ea, eb⟩
