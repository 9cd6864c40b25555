/-! ===== the class: solve and judge ===== -/
theorem Inv_b3 {m : Nat} {E P R : Nat → Nat → Int} {last : Int} (h : Inv m E 3 3 P R last) (hB : Bd m E) : (R 0 3).natAbs ≤ 590778144 ∧ (R 1 3).natAbs ≤ 590778144 ∧ (R 2 3).natAbs ≤ 590778144 ∧ (R 2 2).natAbs ≤ 13799808 := by
  have hbd := (Inv_bd h hB (by omega)).2
  obtain ⟨h1, h2, h3, h4, h5⟩ := h
  have hP := perm_bd h5 hB
  have p3 : ∀ r j, r < m → j < 3 → (P r j).natAbs ≤ 132 := fun r j hr hj => (hP r hr).1 j hj
  have p4 : ∀ r, r < m → (P r 3).natAbs ≤ 5651 := fun r hr => (hP r hr).2
  rcases h1 with ⟨q1, -⟩ | ⟨q1, -⟩ | ⟨q1, -⟩ | ⟨-, -, q3, q4⟩
  · omega
  · omega
  · omega
  · refine ⟨?_, ?_, ?_, (hbd 2 (by omega)).1 2 (by omega)⟩
    · rw [q4 0 3 (by omega) (by omega)]; unfold st3; rw [if_pos rfl]
      exact Nat.le_trans (d3_b (A := 5651) (B := 132) (C := 132) (p4 0 (by omega)) (p4 1 (by omega)) (p4 2 (by omega)) (p3 0 1 (by omega) (by omega)) (p3 1 1 (by omega) (by omega)) (p3 2 1 (by omega) (by omega)) (p3 0 2 (by omega) (by omega)) (p3 1 2 (by omega) (by omega)) (p3 2 2 (by omega) (by omega))) (by decide)
    · rw [q4 1 3 (by omega) (by omega)]; unfold st3; rw [if_neg (by decide), if_pos rfl]
      exact Nat.le_trans (d3_b (A := 132) (B := 5651) (C := 132) (p3 0 0 (by omega) (by omega)) (p3 1 0 (by omega) (by omega)) (p3 2 0 (by omega) (by omega)) (p4 0 (by omega)) (p4 1 (by omega)) (p4 2 (by omega)) (p3 0 2 (by omega) (by omega)) (p3 1 2 (by omega) (by omega)) (p3 2 2 (by omega) (by omega))) (by decide)
    · rw [q4 2 3 (by omega) (by omega)]; unfold st3; rw [if_neg (by decide), if_neg (by decide), if_pos rfl]
      exact Nat.le_trans (d3_b (A := 132) (B := 132) (C := 5651) (p3 0 0 (by omega) (by omega)) (p3 1 0 (by omega) (by omega)) (p3 2 0 (by omega) (by omega)) (p3 0 1 (by omega) (by omega)) (p3 1 1 (by omega) (by omega)) (p3 2 1 (by omega) (by omega)) (p4 0 (by omega)) (p4 1 (by omega)) (p4 2 (by omega))) (by decide)
def sgn (d : Int) : Int := if d < 0 then -1 else 1
theorem sgn_pos {d : Int} (h : d ≠ 0) : 0 < sgn d * d := by
  unfold sgn
  split <;> omega
theorem sgn_na (d x : Int) : (sgn d * x).natAbs = x.natAbs := by
  unfold sgn
  split
  · rw [Int.natAbs_mul]; simp
  · rw [Int.one_mul]
theorem Sol_sg {m : Nat} {E : Nat → Nat → Int} {X Y T D : Int} (h : Sol m E X Y T D) (s : Int) : Sol m E (s * X) (s * Y) (s * T) (s * D) := fun r hr => by
  have e : E r 0 * (s * X) + E r 1 * (s * Y) + E r 2 * (s * T) = s * (E r 0 * X + E r 1 * Y + E r 2 * T) := by grind
  rw [e, h r hr]; grind
/-- what stands in the class's solver: an answer -/
def SvC (me : ME) (X Y T D : Int) : Prop := me.2 71 4 = jv X ∧ me.2 71 5 = jv Y ∧ me.2 71 6 = jv T ∧ me.2 71 7 = jv D
def SvB (X Y T D : Int) : Prop := X.natAbs ≤ 590778144 ∧ Y.natAbs ≤ 590778144 ∧ T.natAbs ≤ 590778144 ∧ 0 < D ∧ D ≤ 13799808
theorem C_solve {me : ME} {A : AS} (h : PtC me A) (hA : ASok A) {b : Nat} (hb : b < 512) : ∃ (me1 : ME) (P R : Nat → Nat → Int) (last : Int), mX7_solve S1 me 71 (iv b) = some ((), me1) ∧ Inv (mR A b) (eR A b) 3 (RK (mR A b) (eR A b)) P R last ∧ RwC me1 (mR A b) R ∧ me1.1 71 3 = iv (RK (mR A b) (eR A b)) ∧ (RK (mR A b) (eR A b) = 3 → SvC me1 (sgn (R 2 2) * R 0 3) (sgn (R 2 2) * R 1 3) (sgn (R 2 2) * R 2 3) (sgn (R 2 2) * R 2 2)) ∧ FrS me me1 := by
  have hn : PN A ≤ 9 := hA.2.2.1.1
  have hm : mR A b ≤ 9 := Nat.le_trans mR_lt hn
  obtain ⟨m1, a1, a2, a3⟩ := C_load h hA hb
  obtain ⟨m2, k, P, R, last, b1, b2, b3, b4, b5⟩ := C_elim a2 hm (eR_b hA b)
  have hk := (Inv_rank b2).1
  subst hk
  unfold mX7_solve
  simp only [ck_s kS_71, bs, a1, b1, gI_k kS_71, b4]
  by_cases c3 : RK (mR A b) (eR A b) = 3
  · rw [c3] at b2
    have hm3 : 3 ≤ mR A b := b2.2.2.1
    obtain ⟨x1, x2, x3, x4⟩ := Inv_b3 b2 (eR_b hA b)
    refine ⟨(m2.1, up2 (up2 (up2 (up2 m2.2 71 4 (jv (sgn (R 2 2) * R 0 3))) 71 5 (jv (sgn (R 2 2) * R 1 3))) 71 6 (jv (sgn (R 2 2) * R 2 3))) 71 7 (jv (sgn (R 2 2) * R 2 2))), P, R, last, ?_, by rw [c3]; exact b2, ⟨b3.1, fun r j hr hj => ?_⟩, b4, fun _ => ⟨?_, ?_, ?_, ?_⟩, (a3.trans b5).trans ⟨fun r hr => rfl, fun r hr => ?_⟩⟩
    · rw [if_pos (by rw [c3]; rfl)]
      have aJ2 : ∀ (m : ME) (i j : Nat), i < 9 → j ≤ 3 → aJ S1 m (73 + i) (iv j) = some (m.2 (73 + i) j) := fun m i j hi hj => aJr hi hj
      have fin : mX7_solve_j37 S1 71 (iv b) m2 (jv (sgn (R 2 2))) = some ((), (m2.1, up2 (up2 (up2 (up2 m2.2 71 4 (jv (sgn (R 2 2) * R 0 3))) 71 5 (jv (sgn (R 2 2) * R 1 3))) 71 6 (jv (sgn (R 2 2) * R 2 3))) 71 7 (jv (sgn (R 2 2) * R 2 2)))) := by
        unfold mX7_solve_j37 mX7_solve_j94
        have a0 : ∀ m : ME, aJ S1 m (73 + 0) (iv 3) = some (m.2 (73 + 0) 3) := fun m => aJ2 m 0 3 (by omega) (by omega)
        have a1 : ∀ m : ME, aJ S1 m (73 + 1) (iv 3) = some (m.2 (73 + 1) 3) := fun m => aJ2 m 1 3 (by omega) (by omega)
        have a2 : ∀ m : ME, aJ S1 m (73 + 2) (iv 3) = some (m.2 (73 + 2) 3) := fun m => aJ2 m 2 3 (by omega) (by omega)
        have a22 : ∀ m : ME, aJ S1 m (73 + 2) (iv 2) = some (m.2 (73 + 2) 2) := fun m => aJ2 m 2 2 (by omega) (by omega)
        have w0 : aR S1 15 72 (iv 0) = some (73 + 0) := row_iv (i := 0) (by omega)
        have w1 : aR S1 15 72 (iv 1) = some (73 + 1) := row_iv (i := 1) (by omega)
        have w2 : aR S1 15 72 (iv 2) = some (73 + 2) := row_iv (i := 2) (by omega)
        simp only [rS_71_1, bs, show (0 : Int32) = iv 0 from rfl, show (1 : Int32) = iv 1 from rfl, show (2 : Int32) = iv 2 from rfl, show (3 : Int32) = iv 3 from rfl, w0, w1, w2, a0, a1, a2, a22, sJ_k kS_71, up2_r m2.2 _ _ (show (73 + 1 : Nat) ≠ 71 by decide), up2_r m2.2 _ _ (show (73 + 2 : Nat) ≠ 71 by decide), up2_r _ _ _ (show (73 + 2 : Nat) ≠ 71 by decide), b3.2 0 3 (by omega) (by omega), b3.2 1 3 (by omega) (by omega), b3.2 2 3 (by omega) (by omega), b3.2 2 2 (by omega) (by omega), jv_mul]
      rw [← fin]
      simp only [rS_71_1, bs, show (2 : Int32) = iv 2 from rfl, show aR S1 15 72 (iv 2) = some (73 + 2) from row_iv (i := 2) (by omega), show aJ S1 m2 (73 + 2) (iv 2) = some (m2.2 (73 + 2) 2) from aJ2 m2 2 2 (by omega) (by omega), b3.2 2 2 (by omega) (by omega)]
      by_cases cs : R 2 2 < 0
      · rw [if_neg (by rw [show (0 : Int64) = jv 0 from rfl, lg_ge0 (by omega) (by omega) (by omega) (by omega)]; omega), show sgn (R 2 2) = -1 from if_pos cs]; rfl
      · rw [if_pos (by rw [show (0 : Int64) = jv 0 from rfl, lg_ge0 (by omega) (by omega) (by omega) (by omega)]; omega), show sgn (R 2 2) = 1 from if_neg cs]; rfl
    · show up2 (up2 (up2 (up2 m2.2 71 4 _) 71 5 _) 71 6 _) 71 7 _ (73 + r) j = _
      rw [up2_r _ _ _ (by omega), up2_r _ _ _ (by omega), up2_r _ _ _ (by omega), up2_r _ _ _ (by omega)]
      exact b3.2 r j hr hj
    · show up2 (up2 (up2 (up2 m2.2 71 4 (jv (sgn (R 2 2) * R 0 3))) 71 5 (jv (sgn (R 2 2) * R 1 3))) 71 6 (jv (sgn (R 2 2) * R 2 3))) 71 7 (jv (sgn (R 2 2) * R 2 2)) 71 4 = _
      rw [up2_k _ _ _ _ (by decide), up2_k _ _ _ _ (by decide), up2_k _ _ _ _ (by decide), up2_s]
    · show up2 (up2 (up2 (up2 m2.2 71 4 (jv (sgn (R 2 2) * R 0 3))) 71 5 (jv (sgn (R 2 2) * R 1 3))) 71 6 (jv (sgn (R 2 2) * R 2 3))) 71 7 (jv (sgn (R 2 2) * R 2 2)) 71 5 = _
      rw [up2_k _ _ _ _ (by decide), up2_k _ _ _ _ (by decide), up2_s]
    · show up2 (up2 (up2 (up2 m2.2 71 4 (jv (sgn (R 2 2) * R 0 3))) 71 5 (jv (sgn (R 2 2) * R 1 3))) 71 6 (jv (sgn (R 2 2) * R 2 3))) 71 7 (jv (sgn (R 2 2) * R 2 2)) 71 6 = _
      rw [up2_k _ _ _ _ (by decide), up2_s]
    · exact up2_s (up2 (up2 (up2 m2.2 71 4 (jv (sgn (R 2 2) * R 0 3))) 71 5 (jv (sgn (R 2 2) * R 1 3))) 71 6 (jv (sgn (R 2 2) * R 2 3))) 71 7 _
    · show up2 (up2 (up2 (up2 m2.2 71 4 (jv (sgn (R 2 2) * R 0 3))) 71 5 (jv (sgn (R 2 2) * R 1 3))) 71 6 (jv (sgn (R 2 2) * R 2 3))) 71 7 (jv (sgn (R 2 2) * R 2 2)) r = _
      rw [up2_r _ _ _ (by omega), up2_r _ _ _ (by omega), up2_r _ _ _ (by omega), up2_r _ _ _ (by omega)]
  · refine ⟨m2, P, R, last, ?_, b2, b3, b4, fun q => absurd q c3, a3.trans b5⟩
    have hk3 : RK (mR A b) (eR A b) ≤ 3 := by
      rcases b2.1 with ⟨q, -⟩ | ⟨q, -⟩ | ⟨q, -⟩ | ⟨q, -⟩ <;> omega
    rw [if_neg (by rw [show (3 : Int32) = iv 3 from rfl, iv_eq (by omega) (by omega) (by omega) (by omega)]; omega)]
    rfl
theorem agree_v {me : ME} {m k : Nat} {R : Nat → Nat → Int} (hR : RwC me m R) (hk : me.1 71 3 = iv k) (hm : m ≤ 9) (hkm : k ≤ m) (hB : ∀ r, r < m → (R r 3).natAbs ≤ 400000000000) : mX7_agree S1 me 71 = some (@ite _ (∀ r, k ≤ r → r < m → R r 3 = 0) (Classical.propDecidable _) 1 0, me) := by
  unfold mX7_agree
  simp only [gI_k kS_71, bs, hk]
  refine lpn_ix (P := fun i s => s = (me, iv i) ∧ k ≤ i ∧ ∀ r, k ≤ r → r < i → R r 3 = 0) (e := m) ?_ (m - k) k lpF _ (by omega) (by unfold lpF; omega) ⟨rfl, Nat.le_refl k, fun r r1 r2 => by omega⟩
  rintro i s kk hi ⟨rfl, hki, hz⟩
  unfold mX7_agree_L5 mX7_agree_j34 mX7_agree_j26
  simp only [gI_k kS_71, bs, hR.1]
  by_cases e : i = m
  · right
    subst e
    rw [if_pos (by rw [iv_le (by omega) (by omega) (by omega) (by omega)]; omega), if_pos hz]
  · rw [if_neg (show ¬ iv m ≤ iv i by rw [iv_le (by omega) (by omega) (by omega) (by omega)]; omega)]
    have aJ3 : aJ S1 me (73 + i) (iv 3) = some (me.2 (73 + i) 3) := aJr (j := 3) (show i < 9 by omega) (by omega)
    simp only [rS_71_1, bs, row_iv (show i < 9 by omega), show (3 : Int32) = iv 3 from rfl, aJ3, hR.2 i 3 (by omega) (by omega), lg_z (show (R i 3).natAbs ≤ 9000000000000000000 by have := hB i (by omega); omega)]
    by_cases z : R i 3 = 0
    · left
      refine ⟨by omega, (me, iv ((i + 1 : Nat) : Int)), ⟨rfl, by omega, fun r r1 r2 => ?_⟩, ?_⟩
      · by_cases e2 : r = i
        · subst e2; exact z
        · exact hz r r1 (by omega)
      · rw [if_pos z, show (1 : Int32) = iv 1 from rfl, iv_add]
        rfl
    · right
      rw [if_neg z, if_neg (fun q => z (q i hki (by omega)))]
def df (A : AS) (k : Nat) (X Y T D : Int) : Int := (X - PX A k * D) * (X - PX A k * D) + (Y - PY A k * D) * (Y - PY A k * D) - (T - tmA A k * D) * (T - tmA A k * D)
theorem na_D {x X D : Int} {N : Nat} (hX : X.natAbs ≤ 590778144) (hD : 0 < D ∧ D ≤ 13799808) (hx : x.natAbs ≤ N) : (X - x * D).natAbs ≤ 590778144 + N * 13799808 := na_sub hX (na_mul hx (by omega))
theorem df_b {A : AS} (hA : ASok A) {k : Nat} (hk : k < PN A) {X Y T D : Int} (h : SvB X Y T D) : (df A k X Y T D).natAbs ≤ 5000000000000000000 := by
  obtain ⟨h1, h2, h3, h4⟩ := h
  have bk := P_b hA hk
  have e1 := na_D (x := PX A k) (N := 29) h1 h4 (by omega)
  have e2 := na_D (x := PY A k) (N := 29) h2 h4 (by omega)
  have e3 := na_D (x := tmA A k) (N := 63) h3 h4 (by omega)
  exact Nat.le_trans (na_sub (na_add (na_mul e1 e1) (na_mul e2 e2)) (na_mul e3 e3)) (by decide)
theorem miss_v {me : ME} {A : AS} (h : PtC me A) (hA : ASok A) {X Y T D : Int} (hS : SvC me X Y T D) {k : Nat} (hk : k < PN A) : mX7_miss S1 me 71 (iv k) = some (jv (df A k X Y T D), me) := by
  have hn : PN A ≤ 9 := hA.2.2.1.1
  obtain ⟨p1, p2, p3, p4⟩ := h.2 k hk
  have bk := P_b hA hk
  obtain ⟨s1, s2, s3, s4⟩ := hS
  unfold mX7_miss
  simp only [rS_71_0, rS_62_1, rS_62_2, rS_62_3, bs, gJ_k kS_71, s1, s2, s3, s4, aI_k kS_64 lS_64 (i := (k : Int)) (by omega) (by omega) (by omega), aI_k kS_65 lS_65 (i := (k : Int)) (by omega) (by omega) (by omega), aI_k kS_66 lS_66 (i := (k : Int)) (by omega) (by omega) (by omega), Int.toNat_natCast, p2, p3, p4]
  rw [iv_J (by omega) (by omega), iv_J (by omega) (by omega), iv_J (by omega) (by omega)]
  simp only [jv_mul, jv_sub, jv_add]
  refine congrArg (fun z => some (jv z, me)) ?_
  unfold df
  grind
/-- the verdict on a set -/
def Sure (A : AS) (b : Nat) : Prop := RK (mR A b) (eR A b) = 3 ∧ ∃ X Y T D, 0 < D ∧ Sol (mR A b) (eR A b) X Y T D ∧ df A (fo A b) X Y T D = 0 ∧ T ≤ tmA A (fo A b) * D
noncomputable def VD (A : AS) (b : Nat) : Int := @ite _ (Sure A b) (Classical.propDecidable _) 0 (@ite _ (RK (mR A b) (eR A b) < 3 ∧ Op (RK (mR A b) (eR A b)) (mR A b) (eR A b)) (Classical.propDecidable _) 1 2)
theorem df_un {A : AS} {k : Nat} {X Y T D X' Y' T' D' : Int} (h1 : X * D' = X' * D) (h2 : Y * D' = Y' * D) (h3 : T * D' = T' * D) : D' * D' * df A k X Y T D = D * D * df A k X' Y' T' D' := by
  have e : D' * D' * df A k X Y T D = (X * D' - PX A k * D * D') * (X * D' - PX A k * D * D') + (Y * D' - PY A k * D * D') * (Y * D' - PY A k * D * D') - (T * D' - tmA A k * D * D') * (T * D' - tmA A k * D * D') := by unfold df; grind
  rw [e, h1, h2, h3]
  unfold df
  grind
theorem N3_of {m : Nat} {E : Nat → Nat → Int} (h : RK m E = 3) : N3 m E := by
  unfold RK at h
  by_cases c : N3 m E
  · exact c
  · rw [if_neg c] at h
    split at h
    · omega
    · split at h <;> omega
/-- any answer will do to tell whether the set is sure -/
theorem Sure_iff {A : AS} {b : Nat} (h3 : RK (mR A b) (eR A b) = 3) {X Y T D : Int} (hD : 0 < D) (hS : Sol (mR A b) (eR A b) X Y T D) : Sure A b ↔ (df A (fo A b) X Y T D = 0 ∧ T ≤ tmA A (fo A b) * D) := by
  constructor
  · rintro ⟨-, X', Y', T', D', g1, g2, g3, g4⟩
    obtain ⟨u1, u2, u3⟩ := Sol_un hS g2 (N3_of h3)
    refine ⟨?_, ?_⟩
    · have e := df_un (A := A) (k := fo A b) u1 u2 u3
      rw [g3, Int.mul_zero] at e
      rcases Int.mul_eq_zero.mp e with q | q
      · rcases Int.mul_eq_zero.mp q with q | q <;> omega
      · exact q
    · refine Int.le_of_mul_le_mul_right (a := D') ?_ g1
      rw [u3]
      have := Int.mul_le_mul_of_nonneg_right g4 (Int.le_of_lt hD)
      have e : tmA A (fo A b) * D' * D = tmA A (fo A b) * D * D' := by grind
      omega
  · rintro ⟨g1, g2⟩
    exact ⟨h3, X, Y, T, D, hD, hS, g1, g2⟩
theorem m_of3 {m : Nat} {E : Nat → Nat → Int} (h : RK m E = 3) : 0 < m := by
  obtain ⟨r, -, -, hr, -⟩ := N3_of h
  omega
theorem C_judge {me : ME} {A : AS} (h : PtC me A) (hA : ASok A) {b : Nat} (hb : b < 512) : ∃ me1 : ME, mX7_judge S1 me 71 (iv b) = some (iv (VD A b), me1) ∧ FrS me me1 ∧ (Sure A b → ∃ X Y T D, SvC me1 X Y T D ∧ SvB X Y T D ∧ Sol (mR A b) (eR A b) X Y T D) := by
  have hn : PN A ≤ 9 := hA.2.2.1.1
  have hm : mR A b ≤ 9 := Nat.le_trans mR_lt hn
  obtain ⟨m1, P, R, last, a1, a2, a3, a4, a5, a6⟩ := C_solve h hA hb
  have hbd := (Inv_bd a2 (eR_b hA b) (by omega)).2
  have hk3 : RK (mR A b) (eR A b) ≤ 3 := by
    rcases a2.1 with ⟨q, -⟩ | ⟨q, -⟩ | ⟨q, -⟩ | ⟨q, -⟩ <;> omega
  have hag := agree_v a3 a4 hm a2.2.2.1 (fun r hr => (hbd r hr).2.1)
  unfold mX7_judge
  simp only [ck_s kS_71, bs, a1, hag]
  by_cases ag : ∀ r, RK (mR A b) (eR A b) ≤ r → r < mR A b → R r 3 = 0
  · rw [if_pos ag, if_neg (by decide)]
    simp only [gI_k kS_71, bs, a4]
    by_cases c3 : RK (mR A b) (eR A b) = 3
    · have a2' := a2
      rw [c3] at a2' ag
      obtain ⟨hD, hsol, -⟩ := Inv_sol a2'
      have hS := Sol_sg (hsol ag) (sgn (R 2 2))
      obtain ⟨x1, x2, x3, x4⟩ := Inv_b3 a2' (eR_b hA b)
      have hSv := a5 c3
      have hp := sgn_pos hD
      have hB : SvB (sgn (R 2 2) * R 0 3) (sgn (R 2 2) * R 1 3) (sgn (R 2 2) * R 2 3) (sgn (R 2 2) * R 2 2) := by
        refine ⟨by rw [sgn_na]; exact x1, by rw [sgn_na]; exact x2, by rw [sgn_na]; exact x3, hp, ?_⟩
        have := sgn_na (R 2 2) (R 2 2)
        omega
      have hP := a6.pt h
      have hfo : fo A b < PN A := mR_pos (r := 0) (m_of3 c3)
      generalize sgn (R 2 2) * R 0 3 = X at *
      generalize sgn (R 2 2) * R 1 3 = Y at *
      generalize sgn (R 2 2) * R 2 3 = T at *
      generalize sgn (R 2 2) * R 2 2 = D at *
      refine ⟨m1, ?_, a6, fun _ => ⟨X, Y, T, D, hSv, hB, hS⟩⟩
      have hSu := Sure_iff c3 hp hS
      have hdf := df_b hA hfo hB
      have hmi := miss_v hP hA hSv hfo
      obtain ⟨p1, p2, p3, p4⟩ := hP.2 _ hfo
      have bk := P_b hA hfo
      have tb := na_mul (a := tmA A (fo A b)) (b := D) (A := 63) (B := 13799808) (by omega) (by have := hB.2.2.2; omega)
      have Tb := hB.2.2.1
      rw [if_pos (by rw [c3]; decide)]
      simp only [firstOf_v hP hA hb, bs, gJ_k kS_71, rS_71_0, rS_62_3, aI_k kS_66 lS_66 (i := (fo A b : Int)) (by omega) (by omega) (by omega), Int.toNat_natCast, p4, hSv.2.2.1, hSv.2.2.2]
      rw [iv_J (by omega) (by omega), jv_mul]
      unfold mX7_judge_j58 mX7_judge_j77 mX7_judge_j78
      simp only [ck_s kS_71, bs, hmi, lg_z (show (df A (fo A b) X Y T D).natAbs ≤ 9000000000000000000 by omega)]
      unfold VD
      by_cases c1 : T ≤ tmA A (fo A b) * D
      · rw [if_neg (show ¬ 0 < lg_cmp (jv T) (jv (tmA A (fo A b) * D)) by rw [lg_gt0 (by omega) (by omega) (by omega) (by omega)]; omega), if_neg (by decide)]
        by_cases c2 : df A (fo A b) X Y T D = 0
        · rw [if_pos c2, if_pos (hSu.mpr ⟨c2, c1⟩)]; rfl
        · rw [if_neg c2, if_neg (fun q => c2 (hSu.mp q).1), if_neg (by omega)]; rfl
      · rw [if_pos (show 0 < lg_cmp (jv T) (jv (tmA A (fo A b) * D)) by rw [lg_gt0 (by omega) (by omega) (by omega) (by omega)]; omega), if_pos trivial, if_neg (fun q => c1 (hSu.mp q).2), if_neg (by omega)]; rfl
    · refine ⟨m1, ?_, a6, fun q => absurd q.1 c3⟩
      rw [if_neg (by rw [show (3 : Int32) = iv 3 from rfl, iv_le (by omega) (by omega) (by omega) (by omega)]; omega)]
      unfold VD
      rw [if_neg (fun q => c3 q.1), if_pos ⟨by omega, ((Inv_rank a2).2 (by omega)).mp ag⟩]
      rfl
  · rw [if_neg ag, if_pos rfl]
    have hns : ¬ Sure A b := fun ⟨c3, X, Y, T, D, g1, g2, _⟩ => by
      rw [c3] at a2 ag
      exact ag ((Inv_sol a2).2.2 X Y T D (by omega) g2)
    refine ⟨m1, ?_, a6, fun q => absurd q hns⟩
    unfold VD
    rw [if_neg hns, if_neg (fun q => ag (((Inv_rank a2).2 q.1).mpr q.2))]
    rfl
