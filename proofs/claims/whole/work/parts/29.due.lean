/-! ===== due ===== -/
def toS (c : Nat) (z : Int) : Int := if c = 1 then z + 3 else if c = 2 then z - 3 else if c = 3 then 2 * z else if c = 4 then 60 - z else z
noncomputable def dueS (A : AS) (s x y t w : Int) : Int :=
  if rtS ((x - A.2.1.2.1 s.toNat) * (x - A.2.1.2.1 s.toNat) + (y - A.2.1.2.2 s.toNat) * (y - A.2.1.2.2 s.toNat)) < 0 then -9 else
  if w = 0 then t + rtS ((x - A.2.1.2.1 s.toNat) * (x - A.2.1.2.1 s.toNat) + (y - A.2.1.2.2 s.toNat) * (y - A.2.1.2.2 s.toNat)) else
  if 0 ≤ toS (A.2.2.1.2.2.2 s.toNat) (t + rtS ((x - A.2.1.2.1 s.toNat) * (x - A.2.1.2.1 s.toNat) + (y - A.2.1.2.2 s.toNat) * (y - A.2.1.2.2 s.toNat))) ∧ toS (A.2.2.1.2.2.2 s.toNat) (t + rtS ((x - A.2.1.2.1 s.toNat) * (x - A.2.1.2.1 s.toNat) + (y - A.2.1.2.2 s.toNat) * (y - A.2.1.2.2 s.toNat))) ≤ 60 then toS (A.2.2.1.2.2.2 s.toNat) (t + rtS ((x - A.2.1.2.1 s.toNat) * (x - A.2.1.2.1 s.toNat) + (y - A.2.1.2.2 s.toNat) * (y - A.2.1.2.2 s.toNat))) else -9
noncomputable def spDue (s x y t w : Int) (A : AS) : Int × AS := (if (0 ≤ s ∧ s < A.2.1.1) ∧ (0 ≤ x ∧ x ≤ 29) ∧ (0 ≤ y ∧ y ≤ 29) ∧ (0 ≤ t ∧ t ≤ 60) ∧ 0 ≤ w ∧ w ≤ 1 then dueS A s x y t w else -1, A)
theorem ok_due (s x y t w : Int) : OpOK (spDue s x y t w) := fun A h => h
theorem sq29 {x X : Int} (h : 0 ≤ x ∧ x ≤ 29) (h2 : 0 ≤ X ∧ X ≤ 29) : 0 ≤ (x - X) * (x - X) ∧ (x - X) * (x - X) ≤ 841 := by
  refine ⟨sq_nn _, ?_⟩
  by_cases q : 0 ≤ x - X
  · exact sq_b (n := 29) q (by omega)
  · have := sq_b (i := -(x - X)) (n := 29) (by omega) (by omega); rw [Int.neg_mul_neg] at this; exact this
theorem toS_b {c : Nat} {z : Int} (h : 0 ≤ z ∧ z ≤ 101) : -101 ≤ toS c z ∧ toS c z ≤ 202 := by
  unfold toS
  split
  · omega
  · split
    · omega
    · split
      · omega
      · split <;> omega
theorem toldAt_v (S : SH) (me : ME) {c : Nat} {z : Int} (hc : c ≤ 4) : mX9_toldAt S me (iv c) (iv z) = some (iv (toS c z), me) := by
  unfold mX9_toldAt toS
  simp only [show (1 : Int32) = iv 1 from rfl, show (2 : Int32) = iv 2 from rfl, show (3 : Int32) = iv 3 from rfl, show (4 : Int32) = iv 4 from rfl, show (60 : Int32) = iv 60 from rfl, iv_sub, iv_add, iv_mul]
  rcases (show c = 0 ∨ c = 1 ∨ c = 2 ∨ c = 3 ∨ c = 4 by omega) with rfl | rfl | rfl | rfl | rfl
  · rw [if_neg (by decide), if_neg (by decide), if_neg (by decide), if_neg (by decide)]; rfl
  · rw [if_pos (by decide)]; rfl
  · rw [if_neg (by decide), if_pos (by decide)]; rfl
  · rw [if_neg (by decide), if_neg (by decide), if_pos (by decide)]; rfl
  · rw [if_neg (by decide), if_neg (by decide), if_neg (by decide), if_pos (by decide)]; rfl
theorem C_due {s x y t w : Int} (a1 : -2147483648 ≤ s) (a2 : s ≤ 2147483647) (b1 : -2147483648 ≤ x) (b2 : x ≤ 2147483647) (c1 : -2147483648 ≤ y) (c2 : y ≤ 2147483647) (d1 : -2147483648 ≤ t) (d2 : t ≤ 2147483647) (e1 : -2147483648 ≤ w) (e2 : w ≤ 2147483647) : OpC (fun me => mX9_due S1 me 0 (iv s) (iv x) (iv y) (iv t) (iv w)) (spDue s x y t w) := by
  intro me A hR hA
  have hns := hA.2.1.1
  refine ⟨me, ?_, hR, EqM.rfl'⟩
  show mX9_due S1 me 0 (iv s) (iv x) (iv y) (iv t) (iv w) = some (iv (spDue s x y t w A).1, me)
  unfold mX9_due mX9_due_j26 mX9_due_j47 mX9_due_j131 spDue
  simp only [ck_s kS_0, bs, hasStation_v hR hA a1 a2, show (29 : Int32) = iv 29 from rfl, show (60 : Int32) = iv 60 from rfl, show (1 : Int32) = iv 1 from rfl]
  by_cases hs : 0 ≤ s ∧ s < A.2.1.1
  · simp only [if_pos hs]
    rw [if_neg (by decide)]
    by_cases hx : 0 ≤ x ∧ x ≤ 29
    · simp only [within_t S1 me hx (by omega), bs]
      rw [if_neg (by decide)]
      by_cases hy : 0 ≤ y ∧ y ≤ 29
      · simp only [within_t S1 me hy (by omega), bs]
        rw [if_neg (by decide)]
        by_cases ht : 0 ≤ t ∧ t ≤ 60
        · simp only [within_t S1 me ht (by omega), bs]
          rw [if_neg (by decide)]
          by_cases hw : 0 ≤ w ∧ w ≤ 1
          · simp only [within_t S1 me hw (by omega), bs]
            rw [if_neg (by decide), if_pos (show (0 ≤ s ∧ s < (A.2.1.1 : Int)) ∧ (0 ≤ x ∧ x ≤ 29) ∧ (0 ≤ y ∧ y ≤ 29) ∧ (0 ≤ t ∧ t ≤ 60) ∧ 0 ≤ w ∧ w ≤ 1 from ⟨hs, hx, hy, ht, hw⟩)]
            obtain ⟨s1, s2⟩ := hR.2.1.2 s.toNat (by omega)
            have s3 := hR.2.2.1.2.2 s.toNat (by omega)
            obtain ⟨o1, o2⟩ := hA.2.1.2 s.toNat (by omega)
            have o3 := hA.2.2.1.2.2 s.toNat (by omega)
            unfold dueS
            generalize A.2.1.2.1 s.toNat = X at *
            generalize A.2.1.2.2 s.toNat = Y at *
            generalize A.2.2.1.2.2.2 s.toNat = c at *
            simp only [rS_0_2, rS_11_0, rS_11_1, bs, aI_k kS_12 lS_12 (i := s) (by omega) (by omega) (by omega), aI_k kS_13 lS_13 (i := s) (by omega) (by omega) (by omega), s1, s2, iv_sub, wholeWay_v S1 me (x := x - X) (y := y - Y) (by omega) (by omega)]
            have q1 := sq29 hx (show 0 ≤ (X : Int) ∧ (X : Int) ≤ 29 by omega)
            have q2 := sq29 hy (show 0 ≤ (Y : Int) ∧ (Y : Int) ≤ 29 by omega)
            have q3 := rtS_b (v := (x - X) * (x - X) + (y - Y) * (y - Y)) (by omega) (by omega)
            generalize rtS ((x - X) * (x - X) + (y - Y) * (y - Y)) = r at *
            by_cases hr : r < 0
            · rw [if_neg (by rw [show (0 : Int32) = iv 0 from rfl, iv_le (by omega) (by omega) (by omega) (by omega)]; omega), if_pos hr]
              rfl
            · rw [if_pos (by rw [show (0 : Int32) = iv 0 from rfl, iv_le (by omega) (by omega) (by omega) (by omega)]; omega), if_neg hr]
              by_cases hw0 : w = 0
              · subst hw0
                rw [if_pos (by decide), if_pos rfl, iv_add]
              · rw [if_neg (by rw [show (0 : Int32) = iv 0 from rfl, iv_eq (by omega) (by omega) (by omega) (by omega)]; exact hw0), if_neg hw0]
                have q4 := toS_b (c := c) (z := t + r) (by omega)
                simp only [rS_0_3, rS_14_2, bs, aI_k kS_17 lS_17 (i := s) (by omega) (by omega) (by omega), s3, iv_add, toldAt_v S1 me o3]
                by_cases hz : 0 ≤ toS c (t + r) ∧ toS c (t + r) ≤ 60
                · simp only [within_t S1 me hz (by omega), bs, if_pos hz]
                  rw [if_neg (by decide)]
                · simp only [within_f S1 me hz (by omega) (by omega) (by omega) (by omega), bs, if_neg hz]
                  rw [if_pos trivial]
                  rfl
          · simp only [within_f S1 me hw e1 e2 (by omega) (by omega), bs]
            rw [if_pos trivial, if_neg (fun q => hw q.2.2.2.2)]
            rfl
        · simp only [within_f S1 me ht d1 d2 (by omega) (by omega), bs]
          rw [if_pos trivial, if_neg (fun q => ht q.2.2.2.1)]
          rfl
      · simp only [within_f S1 me hy c1 c2 (by omega) (by omega), bs]
        rw [if_pos trivial, if_neg (fun q => hy q.2.2.1)]
        rfl
    · simp only [within_f S1 me hx b1 b2 (by omega) (by omega), bs]
      rw [if_pos trivial, if_neg (fun q => hx q.2.1)]
      rfl
  · simp only [if_neg hs]
    rw [if_pos trivial, if_neg (fun q => hs q.1)]
    rfl
theorem M_due {s x y t w : Int} (a1 : -2147483648 ≤ s) (a2 : s ≤ 2147483647) (b1 : -2147483648 ≤ x) (b2 : x ≤ 2147483647) (c1 : -2147483648 ≤ y) (c2 : y ≤ 2147483647) (d1 : -2147483648 ≤ t) (d2 : t ≤ 2147483647) (e1 : -2147483648 ≤ w) (e2 : w ≤ 2147483647) : OpM (fun me => mX10_due S1 me 91 (iv s) (iv x) (iv y) (iv t) (iv w)) (spDue s x y t w) := by
  intro me A hR hA
  have hns := hA.2.1.1
  refine ⟨me, ?_, hR, EqC.rfl'⟩
  show mX10_due S1 me 91 (iv s) (iv x) (iv y) (iv t) (iv w) = some (iv (spDue s x y t w A).1, me)
  unfold mX10_due mX10_due_j49 mX10_due_j91 mX10_due_j108 mX10_due_j181 mX10_due_j201 spDue mX10_square
  simp only [ck_s kS_91, bs, isStation_v hR hA a1 a2, show (29 : Int32) = iv 29 from rfl, show (60 : Int32) = iv 60 from rfl, show (1 : Int32) = iv 1 from rfl, show (0 : Int32) = iv 0 from rfl]
  by_cases hs : 0 ≤ s ∧ s < A.2.1.1
  · simp only [if_pos hs]
    rw [if_neg (by decide)]
    by_cases hx : 0 ≤ x ∧ x ≤ 29
    · simp only [in_t S1 me hx (by omega) (by omega), bs]
      rw [if_neg (by decide)]
      by_cases hy : 0 ≤ y ∧ y ≤ 29
      · simp only [in_t S1 me hy (by omega) (by omega), bs]
        rw [if_neg (by decide)]
        by_cases ht : 0 ≤ t ∧ t ≤ 60
        · simp only [in_t S1 me ht (by omega) (by omega), bs]
          rw [if_neg (by decide)]
          by_cases hw : 0 ≤ w ∧ w ≤ 1
          · simp only [in_t S1 me hw (by omega) (by omega), bs]
            rw [if_neg (by decide), if_pos (show (0 ≤ s ∧ s < (A.2.1.1 : Int)) ∧ (0 ≤ x ∧ x ≤ 29) ∧ (0 ≤ y ∧ y ≤ 29) ∧ (0 ≤ t ∧ t ≤ 60) ∧ 0 ≤ w ∧ w ≤ 1 from ⟨hs, hx, hy, ht, hw⟩)]
            obtain ⟨s1, s2⟩ := hR.2.1.2 s.toNat (by omega)
            have s3 := hR.2.2.1.2.2 s.toNat (by omega)
            rw [Nat.zero_add] at s3
            obtain ⟨o1, o2⟩ := hA.2.1.2 s.toNat (by omega)
            have o3 := hA.2.2.1.2.2 s.toNat (by omega)
            unfold dueS
            generalize A.2.1.2.1 s.toNat = X at *
            generalize A.2.1.2.2 s.toNat = Y at *
            generalize A.2.2.1.2.2.2 s.toNat = c at *
            have q1 := sq29 hx (show 0 ≤ (X : Int) ∧ (X : Int) ≤ 29 by omega)
            have q2 := sq29 hy (show 0 ≤ (Y : Int) ∧ (Y : Int) ≤ 29 by omega)
            simp only [rS_91_1, rS_91_2, bs, aI_k kS_92 lS_92 (i := s) (by omega) (by omega) (by omega), aI_k kS_93 lS_93 (i := s) (by omega) (by omega) (by omega), s1, s2, iv_sub, iv_mul, iv_add, root_v S1 me (v := (x - X) * (x - X) + (y - Y) * (y - Y)) (by omega) (by omega)]
            have q3 := rtS_b (v := (x - X) * (x - X) + (y - Y) * (y - Y)) (by omega) (by omega)
            generalize rtS ((x - X) * (x - X) + (y - Y) * (y - Y)) = r at *
            by_cases hr : r < 0
            · simp only [if_pos hr]
              rw [if_pos (by decide), if_pos (by decide)]
              rfl
            · have hr9 : ¬ iv r = -9 := by rw [show (-9 : Int32) = iv (-9) from rfl, iv_eq (by omega) (by omega) (by omega) (by omega)]; omega
              simp only [if_neg hr]
              rw [if_neg hr9]
              by_cases hw0 : w = 0
              · subst hw0
                rw [if_pos (by decide), if_neg hr9, if_pos rfl, iv_add]
              · rw [if_neg (by rw [iv_eq (by omega) (by omega) (by omega) (by omega)]; exact hw0), if_neg hw0]
                have q4 := toS_b (c := c) (z := t + r) (by omega)
                simp only [rS_91_3, bs, aI_k kS_94 lS_94 (i := 1 + s) (by omega) (by omega) (by omega), show (1 + s).toNat = 1 + s.toNat by omega, s3, show (2 : Int32) = iv 2 from rfl, show (3 : Int32) = iv 3 from rfl, show (4 : Int32) = iv 4 from rfl, iv_add, iv_sub, iv_mul]
                have key : (mX10_in S1 me (iv (toS c (t + r))) (iv 0) (iv 60)).bind (fun q2 => if q2.1 = iv 0 then some ((-9 : Int32), q2.2) else some (iv (toS c (t + r)), q2.2)) = some (iv (if 0 ≤ toS c (t + r) ∧ toS c (t + r) ≤ 60 then toS c (t + r) else -9), me) := by
                  by_cases hz : 0 ≤ toS c (t + r) ∧ toS c (t + r) ≤ 60
                  · simp only [in_t S1 me hz (by omega) (by omega), bs, if_pos hz]
                    rw [if_neg (by decide)]
                  · simp only [in_f S1 me hz (by omega) (by omega) (by omega) (by omega) (by omega) (by omega), bs, if_neg hz]
                    rw [if_pos (by decide)]
                    rfl
                rw [← key]
                unfold toS
                rcases (show c = 0 ∨ c = 1 ∨ c = 2 ∨ c = 3 ∨ c = 4 by omega) with rfl | rfl | rfl | rfl | rfl
                · rw [if_neg (by decide), if_neg (by decide), if_neg (by decide), if_neg (by decide)]; rfl
                · rw [if_pos (by decide)]; rfl
                · rw [if_neg (by decide), if_pos (by decide)]; rfl
                · rw [if_neg (by decide), if_neg (by decide), if_pos (by decide)]; rfl
                · rw [if_neg (by decide), if_neg (by decide), if_neg (by decide), if_pos (by decide)]; rfl
          · simp only [in_f S1 me hw e1 e2 (by omega) (by omega) (by omega) (by omega), bs]
            rw [if_pos (by decide), if_neg (fun q => hw q.2.2.2.2)]
            rfl
        · simp only [in_f S1 me ht d1 d2 (by omega) (by omega) (by omega) (by omega), bs]
          rw [if_pos (by decide), if_neg (fun q => ht q.2.2.2.1)]
          rfl
      · simp only [in_f S1 me hy c1 c2 (by omega) (by omega) (by omega) (by omega), bs]
        rw [if_pos (by decide), if_neg (fun q => hy q.2.2.1)]
        rfl
    · simp only [in_f S1 me hx b1 b2 (by omega) (by omega) (by omega) (by omega), bs]
      rw [if_pos (by decide), if_neg (fun q => hx q.2.1)]
      rfl
  · simp only [if_neg hs]
    rw [if_pos (by decide), if_neg (fun q => hs q.1)]
    rfl
