/-! ===== the model: rows ===== -/
theorem lpn_Q {σ ρ : Type} {f : (σ → Option ρ) → σ → Option ρ} {Q : Option ρ → Prop} (P : Nat → σ → Prop) (e : Nat) (hstep : ∀ (i : Nat) (s : σ) (k : σ → Option ρ), i < e → P i s → ∃ s', P (i + 1) s' ∧ f k s = k s') (hend : ∀ (s : σ) (k : σ → Option ρ), P e s → Q (f k s)) : ∀ (d i n : Nat) (s : σ), i + d = e → d < n → P i s → Q (lpn f n s) := by
  intro d
  induction d with
  | zero =>
    intro i n s h1 h2 h3
    have hi : i = e := by omega
    subst hi
    obtain ⟨n, rfl⟩ : ∃ m, n = m + 1 := ⟨n - 1, by omega⟩
    exact hend s _ h3
  | succ d ih =>
    intro i n s h1 h2 h3
    obtain ⟨n, rfl⟩ : ∃ m, n = m + 1 := ⟨n - 1, by omega⟩
    obtain ⟨s', h4, h5⟩ := hstep i s (lpn f n) (by omega) h3
    show Q (f (lpn f n) s)
    rw [h5]
    exact ih (i + 1) n s' (by omega) (by omega) h4
theorem lpn_X {σ ρ : Type} {f : (σ → Option ρ) → σ → Option ρ} {Q : Option ρ → Prop} (P : Nat → σ → Prop) (e : Nat) (hstep : ∀ (i : Nat) (s : σ) (k : σ → Option ρ), i ≤ e → P i s → (i < e ∧ ∃ s', P (i + 1) s' ∧ f k s = k s') ∨ Q (f k s)) : ∀ (d i n : Nat) (s : σ), i + d = e → d < n → P i s → Q (lpn f n s) := by
  intro d
  induction d with
  | zero =>
    intro i n s h1 h2 h3
    obtain ⟨n, rfl⟩ : ∃ m, n = m + 1 := ⟨n - 1, by omega⟩
    rcases hstep i s (lpn f n) (by omega) h3 with ⟨h, -⟩ | h
    · omega
    · exact h
  | succ d ih =>
    intro i n s h1 h2 h3
    obtain ⟨n, rfl⟩ : ∃ m, n = m + 1 := ⟨n - 1, by omega⟩
    rcases hstep i s (lpn f n) (by omega) h3 with ⟨-, s', h4, h5⟩ | h
    · show Q (f (lpn f n) s)
      rw [h5]
      exact ih (i + 1) n s' (by omega) (by omega) h4
    · exact h
theorem fo_bit {A : AS} {b : Nat} (h : fo A b < PN A) : b.testBit (fo A b) = true ∧ ∀ j, j < fo A b → ¬ b.testBit j = true := by
  rcases fstN_ok (fun k => b.testBit k = true) (PN A) with ⟨a, c, d⟩ | ⟨a, c⟩
  · exact ⟨c, d⟩
  · unfold fo at h; omega
theorem firstM_v {me : ME} {A : AS} (hA : ASok A) {b : Nat} (hb : b < 512) (hf : fo A b < PN A) : mX10_firstOf S1 me 91 (iv b) = some (iv (fo A b), me) := by
  have hn : PN A ≤ 9 := hA.2.2.1.1
  obtain ⟨f1, f2⟩ := fo_bit hf
  unfold mX10_firstOf
  refine lpn_ix (P := fun i s => s = (me, iv i)) (e := fo A b) ?_ (fo A b) 0 lpF _ (by omega) (by unfold lpF; omega) rfl
  rintro i s kk hi rfl
  unfold mX10_firstOf_L2 mX10_firstOf_j16
  simp only [has_v S1 me (show b < 2147483648 by omega) (show i < 31 by omega), bs]
  by_cases e : i = fo A b
  · right
    rw [if_pos (show b.testBit i = true by rw [e]; exact f1), if_neg (by decide), e]
  · left
    refine ⟨by omega, (me, iv ((i + 1 : Nat) : Int)), rfl, ?_⟩
    rw [if_neg (f2 i (by omega)), if_pos rfl, show (1 : Int32) = iv 1 from rfl, iv_add]
    rfl
def RwM (me : ME) (m : Nat) (R : Nat → Nat → Int) : Prop := me.1 91 22 = iv m ∧ ∀ r j, r < m → j ≤ 3 → me.2 103 (4 * r + j) = jv (R r j)
theorem uJm {me : ME} {i j : Nat} (h : 4 * i + j < 36) (v : Int64) : uJ S1 me 103 (iv (4 * (i : Int) + j)) v = some (me.1, up2 me.2 103 (4 * i + j) v) := by
  have := uJ_k (me := me) (v := v) kS_103 lS_103 (i := 4 * (i : Int) + j) (by omega) (by omega) (by omega)
  rwa [show (4 * (i : Int) + j).toNat = 4 * i + j by omega] at this
theorem up103_4 {m : Nat → Nat → Int64} {i : Nat} (f : Nat → Int) {r j : Nat} (hj : j ≤ 3) : up2 (up2 (up2 (up2 m 103 (4 * i + 0) (jv (f 0))) 103 (4 * i + 1) (jv (f 1))) 103 (4 * i + 2) (jv (f 2))) 103 (4 * i + 3) (jv (f 3)) 103 (4 * r + j) = if r = i then jv (f j) else m 103 (4 * r + j) := by
  by_cases e : r = i
  · subst e
    rw [if_pos rfl]
    rcases (show j = 0 ∨ j = 1 ∨ j = 2 ∨ j = 3 by omega) with rfl | rfl | rfl | rfl
    · rw [up2_k _ _ _ _ (by omega), up2_k _ _ _ _ (by omega), up2_k _ _ _ _ (by omega), up2_s]
    · rw [up2_k _ _ _ _ (by omega), up2_k _ _ _ _ (by omega), up2_s]
    · rw [up2_k _ _ _ _ (by omega), up2_s]
    · rw [up2_s]
  · rw [if_neg e, up2_k _ _ _ _ (by omega), up2_k _ _ _ _ (by omega), up2_k _ _ _ _ (by omega), up2_k _ _ _ _ (by omega)]
theorem FrM.up2M {me : ME} {g : Nat → Nat → Int64} (h : ∀ r, r < 91 → g r = me.2 r) : FrM me (me.1, g) := ⟨fun _ _ _ => rfl, fun _ _ => rfl, h⟩
theorem M_rows {me : ME} {A : AS} (hR : RepM me A) (hA : ASok A) {b : Nat} (hb : b < 512) (hf : fo A b < PN A) : ∃ me1 : ME, mX10_layRows S1 me 91 (iv b) = some ((), me1) ∧ RwM me1 (mR A b) (eR A b) ∧ FrM me me1 ∧ me1.1 102 = me.1 102 ∧ (∀ k, k ≠ 22 → me1.1 91 k = me.1 91 k) ∧ me1.2 91 = me.2 91 := by
  have hn : PN A ≤ 9 := hA.2.2.1.1
  unfold mX10_layRows
  simp only [ck_s kS_91, bs, firstM_v hA hb hf, sI_k kS_91, show (1 : Int32) = iv 1 from rfl, iv_add]
  have key : ∀ (d k n : Nat) (m2 : ME), k + d = PN A → d < n → fo A b < k → FrM me m2 → (m2.1 102 = me.1 102 ∧ (∀ k, k ≠ 22 → m2.1 91 k = me.1 91 k) ∧ m2.2 91 = me.2 91) → RwM m2 (rws A b k).1 (fun r j => eqn A (fo A b) ((rws A b k).2 r) j) → ∃ me1 : ME, lpn (mX10_layRows_L15 S1 91 (iv b)) n (m2, iv (fo A b), iv k) = some ((), me1) ∧ RwM me1 (mR A b) (eR A b) ∧ FrM me me1 ∧ me1.1 102 = me.1 102 ∧ (∀ k, k ≠ 22 → me1.1 91 k = me.1 91 k) ∧ me1.2 91 = me.2 91 := by
    intro d
    induction d with
    | zero =>
      intro k n m2 e1 e2 e3 f1 f3 f2
      obtain ⟨n, rfl⟩ : ∃ z, n = z + 1 := ⟨n - 1, by omega⟩
      have : k = PN A := by omega
      subst this
      refine ⟨m2, ?_, f2, f1, f3⟩
      show mX10_layRows_L15 S1 91 (iv b) _ _ = _
      unfold mX10_layRows_L15 mX10_layRows_j188
      simp only [rS_91_3, bs, show (0 : Int32) = iv 0 from rfl, aI_k kS_94 lS_94 (i := 0) (by omega) (by omega) (by omega), Int.toNat_zero, many_v (f1.rep hR)]
      rw [if_pos (by rw [iv_le (by omega) (by omega) (by omega) (by omega)]; omega)]
    | succ d ih =>
      intro k n m2 e1 e2 e3 f1 f3 f2
      obtain ⟨n, rfl⟩ : ∃ z, n = z + 1 := ⟨n - 1, by omega⟩
      have hk : k < PN A := by omega
      have hR2 := f1.rep hR
      have hc := rws_le A b k
      have bk := P_b hA hk
      have ba := P_b hA hf
      have bq := (eqn_b hA hf hk).2
      let f := eqn A (fo A b) k
      let i := (rws A b k).1
      let m4 : ME := (up2 m2.1 91 22 (iv (i + 1 : Nat)), up2 (up2 (up2 (up2 m2.2 103 (4 * i + 0) (jv (f 0))) 103 (4 * i + 1) (jv (f 1))) 103 (4 * i + 2) (jv (f 2))) 103 (4 * i + 3) (jv (f 3)))
      have hstep : ∀ kk, mX10_layRows_L15 S1 91 (iv b) kk (m2, iv (fo A b), iv k) = kk (if b.testBit k = true then m4 else m2, iv (fo A b), iv ((k + 1 : Nat) : Int)) := by
        intro kk
        unfold mX10_layRows_L15 mX10_layRows_j182
        simp only [rS_91_3, bs, show (0 : Int32) = iv 0 from rfl, aI_k kS_94 lS_94 (i := 0) (by omega) (by omega) (by omega), Int.toNat_zero, many_v hR2]
        rw [if_neg (show ¬ iv (PN A) ≤ iv k by rw [iv_le (by omega) (by omega) (by omega) (by omega)]; omega)]
        simp only [has_v S1 m2 (show b < 2147483648 by omega) (show k < 31 by omega), bs]
        by_cases t : b.testBit k = true
        · rw [if_pos t, if_neg (by decide), if_pos t]
          have rep : ∀ g : Nat → Nat → Int64, RepM (m2.1, g) A := fun g => hR2
          have xk : ∀ g : Nat → Nat → Int64, mX10_xOf S1 (m2.1, g) 91 (iv k) = some (iv (PX A k), (m2.1, g)) := fun g => xM_v (rep g) hA hk
          have xa : ∀ g : Nat → Nat → Int64, mX10_xOf S1 (m2.1, g) 91 (iv (fo A b)) = some (iv (PX A (fo A b)), (m2.1, g)) := fun g => xM_v (rep g) hA hf
          have yk : ∀ g : Nat → Nat → Int64, mX10_yOf S1 (m2.1, g) 91 (iv k) = some (iv (PY A k), (m2.1, g)) := fun g => yM_v (rep g) hA hk
          have ya : ∀ g : Nat → Nat → Int64, mX10_yOf S1 (m2.1, g) 91 (iv (fo A b)) = some (iv (PY A (fo A b)), (m2.1, g)) := fun g => yM_v (rep g) hA hf
          have tk : ∀ g : Nat → Nat → Int64, mX10_timeOf S1 (m2.1, g) 91 (iv k) = some (iv (tmA A k), (m2.1, g)) := fun g => timeM_v (rep g) hA hk
          have ta : ∀ g : Nat → Nat → Int64, mX10_timeOf S1 (m2.1, g) 91 (iv (fo A b)) = some (iv (tmA A (fo A b)), (m2.1, g)) := fun g => timeM_v (rep g) hA hf
          have u0 : ∀ (g : Nat → Nat → Int64) (v : Int64), uJ S1 (m2.1, g) 103 (iv (4 * (i : Int))) v = some (m2.1, up2 g 103 (4 * i + 0) v) := fun g v => by
            have := uJm (me := (m2.1, g)) (i := i) (j := 0) (by show 4 * (rws A b k).1 + 0 < 36; omega) v
            rwa [show (4 * (i : Int) + ((0 : Nat) : Int)) = 4 * (i : Int) by omega] at this
          have u1 : ∀ (g : Nat → Nat → Int64) (v : Int64), uJ S1 (m2.1, g) 103 (iv (4 * (i : Int) + 1)) v = some (m2.1, up2 g 103 (4 * i + 1) v) := fun g v => uJm (me := (m2.1, g)) (i := i) (j := 1) (by show 4 * (rws A b k).1 + 1 < 36; omega) v
          have u2 : ∀ (g : Nat → Nat → Int64) (v : Int64), uJ S1 (m2.1, g) 103 (iv (4 * (i : Int) + 2)) v = some (m2.1, up2 g 103 (4 * i + 2) v) := fun g v => uJm (me := (m2.1, g)) (i := i) (j := 2) (by show 4 * (rws A b k).1 + 2 < 36; omega) v
          have u3 : ∀ (g : Nat → Nat → Int64) (v : Int64), uJ S1 (m2.1, g) 103 (iv (4 * (i : Int) + 3)) v = some (m2.1, up2 g 103 (4 * i + 3) v) := fun g v => uJm (me := (m2.1, g)) (i := i) (j := 3) (by show 4 * (rws A b k).1 + 3 < 36; omega) v
          have w22 : m2.1 91 22 = iv i := f2.1
          have m2e : m2 = (m2.1, m2.2) := rfl
          unfold mX10_square
          rw [m2e]
          simp only [gI_k kS_91, rS_91_23, bs, w22, ck_s kS_91, xk, xa, yk, ya, tk, ta, show (4 : Int32) = iv 4 from rfl, show (1 : Int32) = iv 1 from rfl, show (2 : Int32) = iv 2 from rfl, show (3 : Int32) = iv 3 from rfl, iv_neg, iv_sub, iv_mul, iv_add, u0, u1, u2, u3, sI_k kS_91]
          have hsq : PX A k * PX A k + PY A k * PY A k - tmA A k * tmA A k - PX A (fo A b) * PX A (fo A b) - PY A (fo A b) * PY A (fo A b) + tmA A (fo A b) * tmA A (fo A b) = eqn A (fo A b) k 3 := by
            show _ = sqA A k - sqA A (fo A b)
            unfold sqA
            omega
          rw [hsq, iv_J (by omega) (by omega), iv_J (by omega) (by omega), iv_J (by omega) (by omega), iv_J (by omega) (by omega)]
          rfl
        · rw [if_neg t, if_pos (show (0 : Int32) = iv 0 from rfl), if_neg t, show (1 : Int32) = iv 1 from rfl, iv_add]
          rfl
      rw [show lpn (mX10_layRows_L15 S1 91 (iv b)) (n + 1) (m2, iv (fo A b), iv k) = lpn (mX10_layRows_L15 S1 91 (iv b)) n (if b.testBit k = true then m4 else m2, iv (fo A b), iv ((k + 1 : Nat) : Int)) from hstep _]
      by_cases t : b.testBit k = true
      · rw [if_pos t]
        have er : rws A b (k + 1) = ((rws A b k).1 + 1, va_up (rws A b k).2 (rws A b k).1 k) := by
          show (if fo A b < k ∧ b.testBit k = true then ((rws A b k).1 + 1, va_up (rws A b k).2 (rws A b k).1 k) else rws A b k) = _
          rw [if_pos ⟨e3, t⟩]
        have g2 : ∀ r, r ≠ 103 → m4.2 r = m2.2 r := fun r hr => by
          show up2 (up2 (up2 (up2 m2.2 103 (4 * i + 0) (jv (f 0))) 103 (4 * i + 1) (jv (f 1))) 103 (4 * i + 2) (jv (f 2))) 103 (4 * i + 3) (jv (f 3)) r = _
          rw [up2_r _ _ _ hr, up2_r _ _ _ hr, up2_r _ _ _ hr, up2_r _ _ _ hr]
        refine ih (k + 1) n m4 (by omega) (by omega) (by omega) (f1.trans ⟨fun r hr _ => up2_r _ _ _ hr, fun j hj => up2_k m2.1 91 91 _ (by omega), fun r hr => g2 r (by omega)⟩) ⟨?_, fun j hj => ?_, ?_⟩ ⟨?_, fun r j hr hj => ?_⟩
        · rw [← f3.1]; exact up2_r m2.1 22 (iv ((i + 1 : Nat) : Int)) (show (102 : Nat) ≠ 91 by decide)
        · rw [← f3.2.1 j hj]; exact up2_k m2.1 91 91 _ hj
        · rw [g2 91 (by decide)]; exact f3.2.2
        · rw [er]
          exact up2_s m2.1 91 22 _
        · rw [er] at hr ⊢
          have hr : r < (rws A b k).1 + 1 := hr
          show up2 (up2 (up2 (up2 m2.2 103 (4 * i + 0) (jv (f 0))) 103 (4 * i + 1) (jv (f 1))) 103 (4 * i + 2) (jv (f 2))) 103 (4 * i + 3) (jv (f 3)) 103 (4 * r + j) = jv (eqn A (fo A b) (va_up (rws A b k).2 (rws A b k).1 k r) j)
          rw [up103_4 f hj]
          by_cases e : r = i
          · rw [if_pos e, e]
            show jv (eqn A (fo A b) k j) = jv (eqn A (fo A b) (va_up (rws A b k).2 (rws A b k).1 k (rws A b k).1) j)
            simp [va_up]
          · rw [if_neg e, show va_up (rws A b k).2 (rws A b k).1 k r = (rws A b k).2 r by simp [va_up, show r ≠ (rws A b k).1 from e]]
            have e' : r ≠ (rws A b k).1 := e
            exact f2.2 r j (by omega) hj
      · rw [if_neg t]
        have er : rws A b (k + 1) = rws A b k := by
          show (if fo A b < k ∧ b.testBit k = true then ((rws A b k).1 + 1, va_up (rws A b k).2 (rws A b k).1 k) else rws A b k) = _
          rw [if_neg (fun q => t q.2)]
        refine ih (k + 1) n m2 (by omega) (by omega) (by omega) f1 f3 ?_
        rw [er]
        exact f2
  refine key (PN A - (fo A b + 1)) (fo A b + 1) lpF _ (by omega) (by unfold lpF; omega) (by omega) (FrM.up20 (by omega)) ⟨?_, fun k hk => ?_, rfl⟩ ?_
  · exact up2_r me.1 22 0 (show (102 : Nat) ≠ 91 by decide)
  · exact up2_k me.1 91 91 _ hk
  · rw [rws_0 A b (fo A b + 1) (by omega)]
    exact ⟨up2_s me.1 91 22 0, fun r j hr => absurd hr (Nat.not_lt_zero r)⟩
theorem cell_v {me : ME} {m : Nat} {R : Nat → Nat → Int} (h : RwM me m R) (hm : m ≤ 9) {r j : Nat} (hr : r < m) (hj : j ≤ 3) : mX10_cellAt S1 me 91 (iv r) (iv j) = some (jv (R r j), me) := by
  unfold mX10_cellAt
  have := aJ_k (me := me) kS_103 lS_103 (i := 4 * (r : Int) + j) (by omega) (by omega) (by omega)
  rw [show (4 * (r : Int) + j).toNat = 4 * r + j by omega] at this
  simp only [rS_91_23, bs, show (4 : Int32) = iv 4 from rfl, iv_mul, iv_add, this, h.2 r j hr hj]
theorem two_v {me : ME} {m : Nat} {R : Nat → Nat → Int} (h : RwM me m R) (hm : m ≤ 9) {r s a b : Nat} (hr : r < m) (hs : s < m) (ha : a ≤ 3) (hb : b ≤ 3) : mX10_two S1 me 91 (iv r) (iv s) (iv a) (iv b) = some (jv (d2 (R r) (R s) a b), me) := by
  unfold mX10_two
  simp only [ck_s kS_91, bs, cell_v h hm hr ha, cell_v h hm hr hb, cell_v h hm hs ha, cell_v h hm hs hb, jv_mul, jv_sub]
  rfl
theorem three_v {me : ME} {m : Nat} {R : Nat → Nat → Int} (h : RwM me m R) (hm : m ≤ 9) {r s t a b c : Nat} (hr : r < m) (hs : s < m) (ht : t < m) (ha : a ≤ 3) (hb : b ≤ 3) (hc : c ≤ 3) : mX10_three S1 me 91 (iv r) (iv s) (iv t) (iv a) (iv b) (iv c) = some (jv (d3 (R r) (R s) (R t) a b c), me) := by
  unfold mX10_three
  simp only [ck_s kS_91, bs, cell_v h hm hr ha, cell_v h hm hr hb, cell_v h hm hr hc, cell_v h hm hs ha, cell_v h hm hs hb, cell_v h hm hs hc, cell_v h hm ht ha, cell_v h hm ht hb, cell_v h hm ht hc, jv_mul, jv_sub, jv_add]
  rfl
theorem d2_any {m : Nat} {E : Nat → Nat → Int} (hB : Bd m E) {r s a b : Nat} (hr : r < m) (hs : s < m) (ha : a ≤ 3) (hb : b ≤ 3) : (d2 (E r) (E s) a b).natAbs ≤ 9000000000000000000 := Nat.le_trans (d2_b (hB.any hr ha) (hB.any hs ha) (hB.any hr hb) (hB.any hs hb)) (by decide)
theorem d3_any {m : Nat} {E : Nat → Nat → Int} (hB : Bd m E) {r s t a b c : Nat} (hr : r < m) (hs : s < m) (ht : t < m) (ha : a ≤ 3) (hb : b ≤ 3) (hc : c ≤ 3) : (d3 (E r) (E s) (E t) a b c).natAbs ≤ 9000000000000000000 := Nat.le_trans (d3_b (hB.any hr ha) (hB.any hs ha) (hB.any ht ha) (hB.any hr hb) (hB.any hs hb) (hB.any ht hb) (hB.any hr hc) (hB.any hs hc) (hB.any ht hc)) (by decide)
