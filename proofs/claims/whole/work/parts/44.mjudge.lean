/-! ===== the model: filled, differs, verdict ===== -/
theorem isFilled_v {me : ME} {m : Nat} {E : Nat → Nat → Int} (h : RwM me m E) (hm : m ≤ 9) (hB : Bd m E) {X Y T D : Int} (hS : SvM me X Y T D) (hV : SvB X Y T D) : mX10_isFilled S1 me 91 = some (@ite _ (Sol m E X Y T D) (Classical.propDecidable _) 1 0, me) := by
  obtain ⟨s1, s2, s3, s4⟩ := hS
  obtain ⟨v1, v2, v3, v4⟩ := hV
  unfold mX10_isFilled
  refine lpn_up (P := fun r x => x = (me, @ite _ (∀ r', r' < r → E r' 0 * X + E r' 1 * Y + E r' 2 * T = E r' 3 * D) (Classical.propDecidable _) 1 0, iv r)) (e := m) ?_ ?_ m 0 lpF _ (by omega) (by unfold lpF; omega) ?_
  · rintro r x kk hr rfl
    refine ⟨_, rfl, ?_⟩
    unfold mX10_isFilled_L4 mX10_isFilled_j70 mX10_isFilled_j71
    simp only [gI_k kS_91, bs, h.1]
    rw [if_neg (show ¬ iv m ≤ iv r by rw [iv_le (by omega) (by omega) (by omega) (by omega)]; omega)]
    have c0 : mX10_cellAt S1 me 91 (iv r) 0 = some (jv (E r 0), me) := cell_v h hm hr (j := 0) (by omega)
    have c1 : mX10_cellAt S1 me 91 (iv r) 1 = some (jv (E r 1), me) := cell_v h hm hr (j := 1) (by omega)
    have c2 : mX10_cellAt S1 me 91 (iv r) 2 = some (jv (E r 2), me) := cell_v h hm hr (j := 2) (by omega)
    have c3 : mX10_cellAt S1 me 91 (iv r) 3 = some (jv (E r 3), me) := cell_v h hm hr (j := 3) (by omega)
    simp only [ck_s kS_91, bs, c0, c1, c2, c3, gJ_k kS_91, s1, s2, s3, s4, jv_mul, jv_add]
    have b0 := na_mul ((hB r hr).1 0 (by omega)) v1
    have b1 := na_mul ((hB r hr).1 1 (by omega)) v2
    have b2 := na_mul ((hB r hr).1 2 (by omega)) v3
    have b3 := na_mul (hB r hr).2 (show D.natAbs ≤ 13799808 by omega)
    have hnext : kk (me, iv ((r + 1 : Nat) : Int), iv r) = kk (me, iv ((r + 1 : Nat) : Int), iv r) := rfl
    rw [show (1 : Int32) = iv 1 from rfl, iv_add, show iv 1 = (1 : Int32) from rfl, show (r : Int) + 1 = ((r + 1 : Nat) : Int) by omega]
    by_cases c : ∀ r', r' < r → E r' 0 * X + E r' 1 * Y + E r' 2 * T = E r' 3 * D
    · rw [if_pos c, if_neg (by decide)]
      by_cases z : E r 0 * X + E r 1 * Y + E r 2 * T = E r 3 * D
      · rw [if_pos (by rw [lg_eq0 (by omega) (by omega) (by omega) (by omega)]; exact z), if_pos (show ∀ r', r' < r + 1 → E r' 0 * X + E r' 1 * Y + E r' 2 * T = E r' 3 * D from fun r' h' => by
          by_cases e : r' = r
          · subst e; exact z
          · exact c r' (by omega))]
      · rw [if_neg (by rw [lg_eq0 (by omega) (by omega) (by omega) (by omega)]; exact z), if_neg (show ¬ ∀ r', r' < r + 1 → E r' 0 * X + E r' 1 * Y + E r' 2 * T = E r' 3 * D from fun F => z (F r (by omega)))]
    · rw [if_neg c, if_pos rfl, if_neg (show ¬ ∀ r', r' < r + 1 → E r' 0 * X + E r' 1 * Y + E r' 2 * T = E r' 3 * D from fun F => c (fun r' h' => F r' (by omega)))]
  · rintro x kk rfl
    unfold mX10_isFilled_L4 mX10_isFilled_j78
    simp only [gI_k kS_91, bs, h.1]
    rw [if_pos (show iv m ≤ iv m by rw [iv_le (by omega) (by omega) (by omega) (by omega)]; omega)]
    by_cases c : Sol m E X Y T D
    · rw [if_pos (show ∀ r', r' < m → E r' 0 * X + E r' 1 * Y + E r' 2 * T = E r' 3 * D from c), if_pos c, if_pos (Or.inr rfl)]
    · rw [if_neg (show ¬ ∀ r', r' < m → E r' 0 * X + E r' 1 * Y + E r' 2 * T = E r' 3 * D from c), if_neg c, if_pos (Or.inl rfl)]
  · have : ∀ r', r' < 0 → E r' 0 * X + E r' 1 * Y + E r' 2 * T = E r' 3 * D := fun r' h' => by omega
    rw [if_pos this]
    rfl
theorem differs_v {me : ME} {A : AS} (hR : RepM me A) (hA : ASok A) {X Y T D : Int} (hS : SvM me X Y T D) {k : Nat} (hk : k < PN A) : mX10_differs S1 me 91 (iv k) = some (jv (df A k X Y T D), me) := by
  have bk := P_b hA hk
  obtain ⟨s1, s2, s3, s4⟩ := hS
  have xa : mX10_xOf S1 me 91 (iv k) = some (iv (PX A k), me) := xM_v hR hA hk
  have ya : mX10_yOf S1 me 91 (iv k) = some (iv (PY A k), me) := yM_v hR hA hk
  unfold mX10_differs
  simp only [ck_s kS_91, bs, gJ_k kS_91, s1, s2, s3, s4, xa, ya, timeM_v hR hA hk]
  rw [iv_J (by omega) (by omega), iv_J (by omega) (by omega), iv_J (by omega) (by omega)]
  simp only [jv_mul, jv_sub, jv_add]
  rfl
theorem d3_SvB {m : Nat} {E : Nat → Nat → Int} (hB : Bd m E) {r s t : Nat} (hr : r < m) (hs : s < m) (ht : t < m) (hd : d3 (E r) (E s) (E t) 0 1 2 ≠ 0) : SvB (sgn (d3 (E r) (E s) (E t) 0 1 2) * d3 (E r) (E s) (E t) 3 1 2) (sgn (d3 (E r) (E s) (E t) 0 1 2) * d3 (E r) (E s) (E t) 0 3 2) (sgn (d3 (E r) (E s) (E t) 0 1 2) * d3 (E r) (E s) (E t) 0 1 3) (sgn (d3 (E r) (E s) (E t) 0 1 2) * d3 (E r) (E s) (E t) 0 1 2) := by
  have p3 : ∀ r j, r < m → j < 3 → (E r j).natAbs ≤ 132 := fun r j hr hj => (hB r hr).1 j hj
  have p4 : ∀ r, r < m → (E r 3).natAbs ≤ 5651 := fun r hr => (hB r hr).2
  refine ⟨?_, ?_, ?_, sgn_pos hd, ?_⟩
  · rw [sgn_na]
    exact Nat.le_trans (d3_b (A := 5651) (B := 132) (C := 132) (p4 r hr) (p4 s hs) (p4 t ht) (p3 r 1 hr (by omega)) (p3 s 1 hs (by omega)) (p3 t 1 ht (by omega)) (p3 r 2 hr (by omega)) (p3 s 2 hs (by omega)) (p3 t 2 ht (by omega))) (by decide)
  · rw [sgn_na]
    exact Nat.le_trans (d3_b (A := 132) (B := 5651) (C := 132) (p3 r 0 hr (by omega)) (p3 s 0 hs (by omega)) (p3 t 0 ht (by omega)) (p4 r hr) (p4 s hs) (p4 t ht) (p3 r 2 hr (by omega)) (p3 s 2 hs (by omega)) (p3 t 2 ht (by omega))) (by decide)
  · rw [sgn_na]
    exact Nat.le_trans (d3_b (A := 132) (B := 132) (C := 5651) (p3 r 0 hr (by omega)) (p3 s 0 hs (by omega)) (p3 t 0 ht (by omega)) (p3 r 1 hr (by omega)) (p3 s 1 hs (by omega)) (p3 t 1 ht (by omega)) (p4 r hr) (p4 s hs) (p4 t ht)) (by decide)
  · have h1 : (d3 (E r) (E s) (E t) 0 1 2).natAbs ≤ 13799808 := Nat.le_trans (d3_b (A := 132) (B := 132) (C := 132) (p3 r 0 hr (by omega)) (p3 s 0 hs (by omega)) (p3 t 0 ht (by omega)) (p3 r 1 hr (by omega)) (p3 s 1 hs (by omega)) (p3 t 1 ht (by omega)) (p3 r 2 hr (by omega)) (p3 s 2 hs (by omega)) (p3 t 2 ht (by omega))) (by decide)
    have h2 := sgn_na (d3 (E r) (E s) (E t) 0 1 2) (d3 (E r) (E s) (E t) 0 1 2)
    omega
/-- what a verdict of the model leaves alone, beside the rows and the answer -/
def FrV (me me1 : ME) : Prop := FrM me me1 ∧ me1.1 102 = me.1 102 ∧ ∀ k, k ≠ 22 → me1.1 91 k = me.1 91 k
theorem FrV.rfl' {me : ME} : FrV me me := ⟨FrM.rfl', rfl, fun _ _ => rfl⟩
theorem FrV.trans {a b c : ME} (h : FrV a b) (h2 : FrV b c) : FrV a c := ⟨h.1.trans h2.1, h2.2.1.trans h.2.1, fun k hk => (h2.2.2 k hk).trans (h.2.2 k hk)⟩
theorem FrV.gr {me me1 : ME} {A : AS} {i : Nat} (h : FrV me me1) (hG : GrM me A i) : GrM me1 A i := ⟨by rw [h.2.2 20 (by decide)]; exact hG.1, fun g hg => by rw [h.2.1]; exact hG.2 g hg⟩
theorem M_rankV {me : ME} {A : AS} (hR : RepM me A) (hA : ASok A) {b : Nat} (hb : b < 512) (hf : fo A b < PN A) : ∃ me1 : ME, mX10_rankOf S1 me 91 (iv b) = some (iv (RK (mR A b) (eR A b)), me1) ∧ RwM me1 (mR A b) (eR A b) ∧ FrV me me1 := by
  obtain ⟨me1, a, b, c, d, e, -⟩ := M_rank hR hA hb hf
  exact ⟨me1, a, b, c, d, e⟩
theorem M_solvesV {me : ME} {m : Nat} {E : Nat → Nat → Int} (h : RwM me m E) (hm : m ≤ 9) (hB : Bd m E) (h3 : N3 m E) : ∃ (me1 : ME) (r s t : Nat), mX10_solves S1 me 91 = some ((), me1) ∧ t < s ∧ s < r ∧ r < m ∧ d3 (E r) (E s) (E t) 0 1 2 ≠ 0 ∧ SvM me1 (sgn (d3 (E r) (E s) (E t) 0 1 2) * d3 (E r) (E s) (E t) 3 1 2) (sgn (d3 (E r) (E s) (E t) 0 1 2) * d3 (E r) (E s) (E t) 0 3 2) (sgn (d3 (E r) (E s) (E t) 0 1 2) * d3 (E r) (E s) (E t) 0 1 3) (sgn (d3 (E r) (E s) (E t) 0 1 2) * d3 (E r) (E s) (E t) 0 1 2) ∧ RwM me1 m E ∧ FrV me me1 := by
  obtain ⟨me1, r, s, t, a1, a2, a3, a4, a5, a6, a7, a8⟩ := M_solves h hm hB h3
  exact ⟨me1, r, s, t, a1, a2, a3, a4, a5, a6, h.keep (by rw [a7]) (a8 103 (by decide)), ⟨fun i _ _ => by rw [a7], fun k _ => by rw [a7], fun i hi => a8 i (by omega)⟩, by rw [a7], fun k _ => by rw [a7]⟩
theorem M_verdict {me : ME} {A : AS} (hR : RepM me A) (hA : ASok A) {b : Nat} (hb : b < 512) (hf : fo A b < PN A) : ∃ me1 : ME, mX10_verdictOf S1 me 91 (iv b) = some (iv (VD A b), me1) ∧ FrV me me1 ∧ (Sure A b → ∃ X Y T D, SvM me1 X Y T D ∧ SvB X Y T D ∧ Sol (mR A b) (eR A b) X Y T D) := by
  have hn : PN A ≤ 9 := hA.2.2.1.1
  have hm : mR A b ≤ 9 := Nat.le_trans mR_lt hn
  have hB := eR_b hA b
  have hk3 := RK_le (mR A b) (eR A b)
  obtain ⟨m1, a1, a2, a3⟩ := M_rankV hR hA hb hf
  unfold mX10_verdictOf
  simp only [ck_s kS_91, bs, a1]
  by_cases c3 : RK (mR A b) (eR A b) = 3
  · obtain ⟨m2, r, s, t, b1, b2, b3, b4, b5, b6, b7, b8⟩ := M_solvesV a2 hm hB (N3_of c3)
    have hs : s < mR A b := by omega
    have ht : t < mR A b := by omega
    have hV := d3_SvB hB b4 hs ht b5
    have hthree : ∀ X Y T D, D ≠ 0 → Sol (mR A b) (eR A b) X Y T D → Sol (mR A b) (eR A b) (sgn (d3 (eR A b r) (eR A b s) (eR A b t) 0 1 2) * d3 (eR A b r) (eR A b s) (eR A b t) 3 1 2) (sgn (d3 (eR A b r) (eR A b s) (eR A b t) 0 1 2) * d3 (eR A b r) (eR A b s) (eR A b t) 0 3 2) (sgn (d3 (eR A b r) (eR A b s) (eR A b t) 0 1 2) * d3 (eR A b r) (eR A b s) (eR A b t) 0 1 3) (sgn (d3 (eR A b r) (eR A b s) (eR A b t) 0 1 2) * d3 (eR A b r) (eR A b s) (eR A b t) 0 1 2) := fun X Y T D hD h => Sol_sg (Sol_three h hD b4 hs ht) _
    have fr := a3.trans b8
    have hR2 := fr.1.rep hR
    have hfi := isFilled_v b7 hm hB b6 hV
    have hdi := differs_v hR2 hA b6 hf
    have hdf := df_b hA hf hV
    have bk := P_b hA hf
    generalize sgn (d3 (eR A b r) (eR A b s) (eR A b t) 0 1 2) * d3 (eR A b r) (eR A b s) (eR A b t) 3 1 2 = X at *
    generalize sgn (d3 (eR A b r) (eR A b s) (eR A b t) 0 1 2) * d3 (eR A b r) (eR A b s) (eR A b t) 0 3 2 = Y at *
    generalize sgn (d3 (eR A b r) (eR A b s) (eR A b t) 0 1 2) * d3 (eR A b r) (eR A b s) (eR A b t) 0 1 3 = T at *
    generalize sgn (d3 (eR A b r) (eR A b s) (eR A b t) 0 1 2) * d3 (eR A b r) (eR A b s) (eR A b t) 0 1 2 = D at *
    have tb := na_mul (a := tmA A (fo A b)) (b := D) (A := 63) (B := 13799808) (by omega) (by have := hV.2.2.2; omega)
    have Tb := hV.2.2.1
    have hD := hV.2.2.2.1
    refine ⟨m2, ?_, fr, fun ⟨_, X', Y', T', D', q1, q2, _⟩ => ⟨X, Y, T, D, b6, hV, hthree X' Y' T' D' (by omega) q2⟩⟩
    rw [if_pos (by rw [c3]; decide)]
    simp only [bs, b1, firstM_v hA hb hf, hfi]
    unfold mX10_verdictOf_j75 mX10_verdictOf_j76 VD
    by_cases cS : Sol (mR A b) (eR A b) X Y T D
    · have hSu := Sure_iff c3 hD cS
      rw [if_pos cS, if_neg (by decide)]
      simp only [bs, hdi, lg_z (show (df A (fo A b) X Y T D).natAbs ≤ 9000000000000000000 by omega), gJ_k kS_91, b6.2.2.1, b6.2.2.2, timeM_v hR2 hA hf]
      by_cases z : df A (fo A b) X Y T D = 0
      · rw [if_pos z, iv_J (by omega) (by omega), jv_mul]
        by_cases c1 : T ≤ tmA A (fo A b) * D
        · rw [if_neg (show ¬ 0 < lg_cmp (jv T) (jv (tmA A (fo A b) * D)) by rw [lg_gt0 (by omega) (by omega) (by omega) (by omega)]; omega), if_pos (hSu.mpr ⟨z, c1⟩)]
          rfl
        · rw [if_pos (show 0 < lg_cmp (jv T) (jv (tmA A (fo A b) * D)) by rw [lg_gt0 (by omega) (by omega) (by omega) (by omega)]; omega), if_neg (fun q => c1 (hSu.mp q).2), if_neg (by omega)]
          rfl
      · rw [if_neg z, if_neg (fun q => z (hSu.mp q).1), if_neg (by omega)]
        rfl
    · rw [if_neg cS, if_pos rfl, if_neg (fun ⟨_, X', Y', T', D', q1, q2, _⟩ => cS (hthree X' Y' T' D' (by omega) q2)), if_neg (by omega)]
      rfl
  · refine ⟨m1, ?_, a3, fun q => absurd q.1 c3⟩
    rw [if_neg (by rw [show (3 : Int32) = iv 3 from rfl, iv_le (by omega) (by omega) (by omega) (by omega)]; omega)]
    simp only [bs, isOpen_v a2 hm hB (show RK (mR A b) (eR A b) < 3 by omega)]
    unfold mX10_verdictOf_j24 VD
    rw [if_neg (show ¬ Sure A b from fun q => c3 q.1)]
    by_cases o : Op (RK (mR A b) (eR A b)) (mR A b) (eR A b)
    · rw [if_pos o, if_neg (by decide), if_pos ⟨by omega, o⟩]; rfl
    · rw [if_neg o, if_pos rfl, if_neg (fun q => o q.2)]; rfl
