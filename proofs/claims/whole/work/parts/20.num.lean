/-! ===== numbers: ints and longs as whole numbers ===== -/
def iv (x : Int) : Int32 := Int32.ofInt x
def jv (x : Int) : Int64 := Int64.ofInt x
theorem iv_add (x y : Int) : iv x + iv y = iv (x + y) := (Int32.ofInt_add x y).symm
theorem iv_sub (x y : Int) : iv x - iv y = iv (x - y) := (Int32.ofInt_sub x y).symm
theorem iv_mul (x y : Int) : iv x * iv y = iv (x * y) := (Int32.ofInt_mul x y).symm
theorem iv_neg (x : Int) : -iv x = iv (-x) := (Int32.ofInt_neg x).symm
theorem jv_add (x y : Int) : jv x + jv y = jv (x + y) := (Int64.ofInt_add x y).symm
theorem jv_sub (x y : Int) : jv x - jv y = jv (x - y) := (Int64.ofInt_sub x y).symm
theorem jv_mul (x y : Int) : jv x * jv y = jv (x * y) := (Int64.ofInt_mul x y).symm
theorem jv_neg (x : Int) : -jv x = jv (-x) := (Int64.ofInt_neg x).symm
theorem iv_nat (n : Nat) : (OfNat.ofNat n : Int32) = iv (OfNat.ofNat n) := by
  show Int32.ofNat n = Int32.ofInt (n : Int)
  rw [Int32.ofInt_eq_ofNat]
theorem iv_nI (n : Nat) : nI n = iv n := (Int32.ofInt_eq_ofNat).symm
theorem iv_ofN (n : Nat) : Int32.ofNat n = iv n := (Int32.ofInt_eq_ofNat).symm
theorem jv_nat (n : Nat) : (OfNat.ofNat n : Int64) = jv (OfNat.ofNat n) := by
  show Int64.ofNat n = Int64.ofInt (n : Int)
  rw [Int64.ofInt_eq_ofNat]
theorem iv_toInt {x : Int} (h1 : -2147483648 ≤ x) (h2 : x ≤ 2147483647) : (iv x).toInt = x := Int32.toInt_ofInt_of_le (by omega) (by omega)
theorem jv_toInt {x : Int} (h1 : -9223372036854775808 ≤ x) (h2 : x ≤ 9223372036854775807) : (jv x).toInt = x := Int64.toInt_ofInt_of_le (by omega) (by omega)
theorem iv_of (a : Int32) : ∃ x : Int, -2147483648 ≤ x ∧ x ≤ 2147483647 ∧ a = iv x := ⟨a.toInt, Int32.le_toInt a, by have := Int32.toInt_lt a; omega, (Int32.ofInt_toInt a).symm⟩
theorem jv_of (a : Int64) : ∃ x : Int, -9223372036854775808 ≤ x ∧ x ≤ 9223372036854775807 ∧ a = jv x := ⟨a.toInt, Int64.le_toInt a, by have := Int64.toInt_lt a; omega, (Int64.ofInt_toInt a).symm⟩
theorem iv_lt {x y : Int} (h1 : -2147483648 ≤ x) (h2 : x ≤ 2147483647) (h3 : -2147483648 ≤ y) (h4 : y ≤ 2147483647) : (iv x < iv y) = (x < y) := by
  rw [Int32.lt_iff_toInt_lt, iv_toInt h1 h2, iv_toInt h3 h4]
theorem iv_le {x y : Int} (h1 : -2147483648 ≤ x) (h2 : x ≤ 2147483647) (h3 : -2147483648 ≤ y) (h4 : y ≤ 2147483647) : (iv x ≤ iv y) = (x ≤ y) := by
  rw [Int32.le_iff_toInt_le, iv_toInt h1 h2, iv_toInt h3 h4]
theorem iv_eq {x y : Int} (h1 : -2147483648 ≤ x) (h2 : x ≤ 2147483647) (h3 : -2147483648 ≤ y) (h4 : y ≤ 2147483647) : (iv x = iv y) = (x = y) := by
  rw [← Int32.toInt_inj, iv_toInt h1 h2, iv_toInt h3 h4]
theorem jv_lt {x y : Int} (h1 : -9223372036854775808 ≤ x) (h2 : x ≤ 9223372036854775807) (h3 : -9223372036854775808 ≤ y) (h4 : y ≤ 9223372036854775807) : (jv x < jv y) = (x < y) := by
  rw [Int64.lt_iff_toInt_lt, jv_toInt h1 h2, jv_toInt h3 h4]
theorem jv_le {x y : Int} (h1 : -9223372036854775808 ≤ x) (h2 : x ≤ 9223372036854775807) (h3 : -9223372036854775808 ≤ y) (h4 : y ≤ 9223372036854775807) : (jv x ≤ jv y) = (x ≤ y) := by
  rw [Int64.le_iff_toInt_le, jv_toInt h1 h2, jv_toInt h3 h4]
theorem jv_eq {x y : Int} (h1 : -9223372036854775808 ≤ x) (h2 : x ≤ 9223372036854775807) (h3 : -9223372036854775808 ≤ y) (h4 : y ≤ 9223372036854775807) : (jv x = jv y) = (x = y) := by
  rw [← Int64.toInt_inj, jv_toInt h1 h2, jv_toInt h3 h4]
theorem iv_clamp {x : Int} (h1 : -2147483648 ≤ x) (h2 : x ≤ 2147483647) : (iv x).toNatClampNeg = x.toNat := by
  show (iv x).toInt.toNat = _
  rw [iv_toInt h1 h2]
theorem iv_J {x : Int} (h1 : -2147483648 ≤ x) (h2 : x ≤ 2147483647) : (iv x).toInt64 = jv x := by
  apply Int64.toInt_inj.mp
  rw [Int32.toInt_toInt64, iv_toInt h1 h2, jv_toInt (by omega) (by omega)]
theorem jv_I (x : Int) : (jv x).toInt32 = iv x := Int64.toInt32_ofInt
theorem lg_val {x y : Int} (h1 : -9223372036854775808 ≤ x) (h2 : x ≤ 9223372036854775807) (h3 : -9223372036854775808 ≤ y) (h4 : y ≤ 9223372036854775807) : (y < x ∧ lg_cmp (jv x) (jv y) = 1) ∨ (x = y ∧ lg_cmp (jv x) (jv y) = 0) ∨ (x < y ∧ lg_cmp (jv x) (jv y) = -1) := by
  unfold lg_cmp
  simp only [gt_iff_lt, jv_lt h3 h4 h1 h2, jv_eq h1 h2 h3 h4]
  by_cases a : y < x
  · exact Or.inl ⟨a, if_pos a⟩
  · by_cases c : x = y
    · exact Or.inr (Or.inl ⟨c, by rw [if_neg a, if_pos c]⟩)
    · exact Or.inr (Or.inr ⟨by omega, by rw [if_neg a, if_neg c]⟩)
theorem lg_eq0 {x y : Int} (h1 : -9223372036854775808 ≤ x) (h2 : x ≤ 9223372036854775807) (h3 : -9223372036854775808 ≤ y) (h4 : y ≤ 9223372036854775807) : (lg_cmp (jv x) (jv y) = 0) = (x = y) := by
  apply propext
  rcases lg_val h1 h2 h3 h4 with ⟨a, e⟩ | ⟨a, e⟩ | ⟨a, e⟩ <;> rw [e]
  · exact ⟨fun q => by first | omega | exact absurd q (by decide), fun q => by first | decide | omega⟩
  · exact ⟨fun q => by first | omega | exact absurd q (by decide), fun q => by first | decide | omega⟩
  · exact ⟨fun q => by first | omega | exact absurd q (by decide), fun q => by first | decide | omega⟩
theorem lg_lt0 {x y : Int} (h1 : -9223372036854775808 ≤ x) (h2 : x ≤ 9223372036854775807) (h3 : -9223372036854775808 ≤ y) (h4 : y ≤ 9223372036854775807) : (lg_cmp (jv x) (jv y) < 0) = (x < y) := by
  apply propext
  rcases lg_val h1 h2 h3 h4 with ⟨a, e⟩ | ⟨a, e⟩ | ⟨a, e⟩ <;> rw [e]
  · exact ⟨fun q => by first | omega | exact absurd q (by decide), fun q => by first | decide | omega⟩
  · exact ⟨fun q => by first | omega | exact absurd q (by decide), fun q => by first | decide | omega⟩
  · exact ⟨fun q => by first | omega | exact absurd q (by decide), fun q => by first | decide | omega⟩
theorem lg_ge0 {x y : Int} (h1 : -9223372036854775808 ≤ x) (h2 : x ≤ 9223372036854775807) (h3 : -9223372036854775808 ≤ y) (h4 : y ≤ 9223372036854775807) : (0 ≤ lg_cmp (jv x) (jv y)) = (y ≤ x) := by
  apply propext
  rcases lg_val h1 h2 h3 h4 with ⟨a, e⟩ | ⟨a, e⟩ | ⟨a, e⟩ <;> rw [e]
  · exact ⟨fun q => by first | omega | exact absurd q (by decide), fun q => by first | decide | omega⟩
  · exact ⟨fun q => by first | omega | exact absurd q (by decide), fun q => by first | decide | omega⟩
  · exact ⟨fun q => by first | omega | exact absurd q (by decide), fun q => by first | decide | omega⟩
theorem lg_gt0 {x y : Int} (h1 : -9223372036854775808 ≤ x) (h2 : x ≤ 9223372036854775807) (h3 : -9223372036854775808 ≤ y) (h4 : y ≤ 9223372036854775807) : (0 < lg_cmp (jv x) (jv y)) = (y < x) := by
  apply propext
  rcases lg_val h1 h2 h3 h4 with ⟨a, e⟩ | ⟨a, e⟩ | ⟨a, e⟩ <;> rw [e]
  · exact ⟨fun q => by first | omega | exact absurd q (by decide), fun q => by first | decide | omega⟩
  · exact ⟨fun q => by first | omega | exact absurd q (by decide), fun q => by first | decide | omega⟩
  · exact ⟨fun q => by first | omega | exact absurd q (by decide), fun q => by first | decide | omega⟩
theorem lg_le0 {x y : Int} (h1 : -9223372036854775808 ≤ x) (h2 : x ≤ 9223372036854775807) (h3 : -9223372036854775808 ≤ y) (h4 : y ≤ 9223372036854775807) : (lg_cmp (jv x) (jv y) ≤ 0) = (x ≤ y) := by
  apply propext
  rcases lg_val h1 h2 h3 h4 with ⟨a, e⟩ | ⟨a, e⟩ | ⟨a, e⟩ <;> rw [e]
  · exact ⟨fun q => by first | omega | exact absurd q (by decide), fun q => by first | decide | omega⟩
  · exact ⟨fun q => by first | omega | exact absurd q (by decide), fun q => by first | decide | omega⟩
  · exact ⟨fun q => by first | omega | exact absurd q (by decide), fun q => by first | decide | omega⟩
theorem iv_div {x y : Int} (h1 : -2147483647 ≤ x) (h2 : x ≤ 2147483647) (h3 : -2147483648 ≤ y) (h4 : y ≤ 2147483647) : iv x / iv y = iv (x.tdiv y) := by
  refine (Int32.ofInt_tdiv ?_ ?_ ?_ ?_).symm
  · show -2147483648 ≤ x; omega
  · exact h2
  · exact h3
  · exact h4
theorem jv_div {x y : Int} (h1 : -9223372036854775808 ≤ x) (h2 : x ≤ 9223372036854775807) (h3 : -9223372036854775808 ≤ y) (h4 : y ≤ 9223372036854775807) : jv x / jv y = jv (x.tdiv y) := (Int64.ofInt_tdiv h1 h2 h3 h4).symm
