/-! ===== the equations of a set ===== -/
noncomputable def fo (A : AS) (b : Nat) : Nat := fstN (fun k => b.testBit k = true) (PN A)
def sqA (A : AS) (k : Nat) : Int := PX A k * PX A k + PY A k * PY A k - tmA A k * tmA A k
def eqn (A : AS) (a k j : Nat) : Int := if j = 0 then 2 * (PX A k - PX A a) else if j = 1 then 2 * (PY A k - PY A a) else if j = 2 then -2 * (tmA A k - tmA A a) else sqA A k - sqA A a
/-- the readings of the set behind the first, below k: how many, which -/
noncomputable def rws (A : AS) (b : Nat) : Nat → Nat × (Nat → Nat)
  | 0 => (0, fun _ => 0)
  | k + 1 => if fo A b < k ∧ b.testBit k = true then ((rws A b k).1 + 1, va_up (rws A b k).2 (rws A b k).1 k) else rws A b k
noncomputable def mR (A : AS) (b : Nat) : Nat := (rws A b (PN A)).1
noncomputable def eR (A : AS) (b : Nat) (r j : Nat) : Int := eqn A (fo A b) ((rws A b (PN A)).2 r) j
theorem rws_le (A : AS) (b k : Nat) : (rws A b k).1 ≤ k := by
  induction k with
  | zero => exact Nat.le_refl 0
  | succ k ih =>
    unfold rws
    split
    · show (rws A b k).1 + 1 ≤ k + 1; omega
    · omega
theorem rws_in (A : AS) (b k : Nat) : ∀ r, r < (rws A b k).1 → fo A b < (rws A b k).2 r ∧ (rws A b k).2 r < k ∧ b.testBit ((rws A b k).2 r) = true := by
  induction k with
  | zero => intro r hr; exact absurd hr (Nat.not_lt_zero r)
  | succ k ih =>
    intro r
    unfold rws
    by_cases c : fo A b < k ∧ b.testBit k = true
    · rw [if_pos c]
      intro hr
      have hr : r < (rws A b k).1 + 1 := hr
      show fo A b < va_up (rws A b k).2 (rws A b k).1 k r ∧ va_up (rws A b k).2 (rws A b k).1 k r < k + 1 ∧ b.testBit (va_up (rws A b k).2 (rws A b k).1 k r) = true
      by_cases e : r = (rws A b k).1
      · rw [show va_up (rws A b k).2 (rws A b k).1 k r = k by simp [va_up, e]]
        exact ⟨c.1, by omega, c.2⟩
      · rw [show va_up (rws A b k).2 (rws A b k).1 k r = (rws A b k).2 r by simp [va_up, e]]
        have := ih r (by omega)
        exact ⟨this.1, by omega, this.2.2⟩
    · rw [if_neg c]
      intro hr
      have := ih r hr
      exact ⟨this.1, by omega, this.2.2⟩
theorem rws_0 (A : AS) (b k : Nat) (h : k ≤ fo A b + 1) : rws A b k = (0, fun _ => 0) := by
  induction k with
  | zero => rfl
  | succ k ih =>
    unfold rws
    rw [if_neg (by omega)]
    exact ih (by omega)
theorem fo_le (A : AS) (b : Nat) : fo A b ≤ PN A := by
  rcases fstN_ok (fun k => b.testBit k = true) (PN A) with ⟨a, -⟩ | ⟨a, -⟩
  · unfold fo; omega
  · unfold fo; omega
theorem mR_lt {A : AS} {b : Nat} : mR A b ≤ PN A := rws_le A b _
theorem rws_stop {A : AS} {b : Nat} (h : fo A b = PN A) : mR A b = 0 := by
  unfold mR
  rw [rws_0 A b (PN A) (by omega)]
theorem mR_pos {A : AS} {b r : Nat} (hr : r < mR A b) : fo A b < PN A := by
  rcases Nat.lt_or_ge (fo A b) (PN A) with q | q
  · exact q
  · have := fo_le A b
    rw [rws_stop (by omega)] at hr
    omega
theorem eqn_b {A : AS} (hA : ASok A) {a k : Nat} (ha : a < PN A) (hk : k < PN A) : (∀ j, j < 3 → (eqn A a k j).natAbs ≤ 132) ∧ (eqn A a k 3).natAbs ≤ 5651 := by
  have ba := P_b hA ha
  have bk := P_b hA hk
  refine ⟨fun j hj => ?_, ?_⟩
  · unfold eqn
    rcases (show j = 0 ∨ j = 1 ∨ j = 2 by omega) with rfl | rfl | rfl
    · rw [if_pos rfl]; omega
    · rw [if_neg (by decide), if_pos rfl]; omega
    · rw [if_neg (by decide), if_neg (by decide), if_pos rfl]; omega
  · unfold eqn sqA
    rw [if_neg (by decide), if_neg (by decide), if_neg (by decide)]
    have a1 := sq_le (x := PX A a) (n := 29) (by omega) (by omega)
    have a2 := sq_le (x := PY A a) (n := 29) (by omega) (by omega)
    have a3 := sq_le (x := tmA A a) (n := 63) (by omega) (by omega)
    have b1 := sq_le (x := PX A k) (n := 29) (by omega) (by omega)
    have b2 := sq_le (x := PY A k) (n := 29) (by omega) (by omega)
    have b3 := sq_le (x := tmA A k) (n := 63) (by omega) (by omega)
    omega
theorem eR_b {A : AS} (hA : ASok A) (b : Nat) : Bd (mR A b) (eR A b) := fun r hr => by
  have h := rws_in A b (PN A) r hr
  exact eqn_b hA (mR_pos hr) h.2.1
theorem row_iv {i : Nat} (h : i < 9) : aR S1 15 72 (iv i) = some (73 + i) := by rw [← iv_nI]; exact row_at i h
theorem firstOf_v {me : ME} {A : AS} (h : PtC me A) (hA : ASok A) {b : Nat} (hb : b < 512) : mX7_firstOf S1 me 71 (iv b) = some (iv (fo A b), me) := by
  have hn : PN A ≤ 9 := hA.2.2.1.1
  unfold mX7_firstOf
  refine lpn_ix (P := fun i s => s = (me, iv i) ∧ ∀ j, j < i → ¬ b.testBit j = true) (e := PN A) ?_ (PN A) 0 lpF _ (by omega) (by unfold lpF; omega) ⟨rfl, fun j h => by omega⟩
  rintro i s kk hi ⟨rfl, hj⟩
  unfold mX7_firstOf_L2 mX7_firstOf_j21 mX7_firstOf_j29
  simp only [rS_71_0, gI_k kS_62, bs, h.1]
  by_cases e : i = PN A
  · right
    rw [if_pos (by rw [iv_le (by omega) (by omega) (by omega) (by omega)]; omega)]
    unfold fo
    rw [fstN_eq (r := PN A) (Or.inr ⟨rfl, fun g hg => hj g (by omega)⟩)]
  · rw [if_neg (show ¬ iv (PN A) ≤ iv i by rw [iv_le (by omega) (by omega) (by omega) (by omega)]; omega)]
    simp only [holds_v S1 me (show b < 2147483648 by omega) (show i < 31 by omega), bs]
    by_cases t : b.testBit i = true
    · right
      rw [if_pos t, if_neg (by decide)]
      unfold fo
      rw [fstN_eq (r := i) (Or.inl ⟨by omega, t, fun g hg => hj g (by omega)⟩)]
    · left
      refine ⟨by omega, (me, iv ((i + 1 : Nat) : Int)), ⟨rfl, fun j h1 => ?_⟩, ?_⟩
      · by_cases e2 : j = i
        · subst e2; exact t
        · exact hj j (by omega)
      · rw [if_neg t, if_pos rfl, show (1 : Int32) = iv 1 from rfl, iv_add]
        rfl
theorem squares_v {me : ME} {A : AS} (h : PtC me A) (hA : ASok A) {k : Nat} (hk : k < PN A) : mX7_squares S1 me 71 (iv k) = some (iv (sqA A k), me) := by
  have hn : PN A ≤ 9 := hA.2.2.1.1
  obtain ⟨p1, p2, p3, p4⟩ := h.2 k hk
  unfold mX7_squares
  simp only [rS_71_0, rS_62_1, rS_62_2, rS_62_3, bs, aI_k kS_64 lS_64 (i := (k : Int)) (by omega) (by omega) (by omega), aI_k kS_65 lS_65 (i := (k : Int)) (by omega) (by omega) (by omega), aI_k kS_66 lS_66 (i := (k : Int)) (by omega) (by omega) (by omega), Int.toNat_natCast, p2, p3, p4, iv_mul, iv_add, iv_sub]
  rfl
/-- one row of longs is written -/
def upR (m : Nat → Nat → Int64) (q : Nat) (f : Nat → Int) : Nat → Nat → Int64 := fun r j => if r = q ∧ j ≤ 3 then jv (f j) else m r j
theorem upR_4 (m : Nat → Nat → Int64) (q : Nat) (f : Nat → Int) : up2 (up2 (up2 (up2 m q 0 (jv (f 0))) q 1 (jv (f 1))) q 2 (jv (f 2))) q 3 (jv (f 3)) = upR m q f := by
  funext r j
  unfold upR
  by_cases e : r = q
  · subst e
    rcases (show j = 0 ∨ j = 1 ∨ j = 2 ∨ j = 3 ∨ 3 < j by omega) with rfl | rfl | rfl | rfl | h
    · rw [up2_k _ _ _ _ (by decide), up2_k _ _ _ _ (by decide), up2_k _ _ _ _ (by decide), up2_s, if_pos ⟨rfl, by decide⟩]
    · rw [up2_k _ _ _ _ (by decide), up2_k _ _ _ _ (by decide), up2_s, if_pos ⟨rfl, by decide⟩]
    · rw [up2_k _ _ _ _ (by decide), up2_s, if_pos ⟨rfl, by decide⟩]
    · rw [up2_s, if_pos ⟨rfl, by decide⟩]
    · rw [up2_k _ _ _ _ (by omega), up2_k _ _ _ _ (by omega), up2_k _ _ _ _ (by omega), up2_k _ _ _ _ (by omega), if_neg (by omega)]
  · rw [up2_r _ _ _ e, up2_r _ _ _ e, up2_r _ _ _ e, up2_r _ _ _ e, if_neg (fun q => e q.1)]
theorem upR_r (m : Nat → Nat → Int64) {q r : Nat} (f : Nat → Int) (h : r ≠ q) : upR m q f r = m r := by
  funext j
  unfold upR
  rw [if_neg (fun q => h q.1)]
theorem upR_s (m : Nat → Nat → Int64) (q : Nat) (f : Nat → Int) {j : Nat} (h : j ≤ 3) : upR m q f q j = jv (f j) := by
  unfold upR
  rw [if_pos ⟨rfl, h⟩]
theorem loadEq_v {me : ME} {A : AS} (h : PtC me A) (hA : ASok A) {a k i : Nat} (ha : a < PN A) (hk : k < PN A) (hi : i < 9) : mX7_loadEquation S1 me 71 (73 + i) (iv a) (iv k) = some ((), (me.1, upR me.2 (73 + i) (eqn A a k))) := by
  have hn : PN A ≤ 9 := hA.2.2.1.1
  obtain ⟨p1, p2, p3, p4⟩ := h.2 k hk
  obtain ⟨q1, q2, q3, q4⟩ := h.2 a ha
  have ba := P_b hA ha
  have bk := P_b hA hk
  have bq := (eqn_b hA ha hk).2
  have hsq : eqn A a k 3 = sqA A k - sqA A a := rfl
  rw [hsq] at bq
  have sq : ∀ m2 : Nat → Nat → Int64, ∀ {k}, k < PN A → mX7_squares S1 (me.1, m2) 71 (iv k) = some (iv (sqA A k), (me.1, m2)) := fun m2 k hk => squares_v (me := (me.1, m2)) h hA hk
  obtain ⟨rk, rl⟩ := row_k i hi
  have u0 : ∀ (me : ME) (v : Int64), uJ S1 me (73 + i) (iv 0) v = some (me.1, up2 me.2 (73 + i) 0 v) := fun me v => uJ_k rk rl (i := 0) (by omega) (by omega) (by omega)
  have u1 : ∀ (me : ME) (v : Int64), uJ S1 me (73 + i) (iv 1) v = some (me.1, up2 me.2 (73 + i) 1 v) := fun me v => uJ_k rk rl (i := 1) (by omega) (by omega) (by omega)
  have u2 : ∀ (me : ME) (v : Int64), uJ S1 me (73 + i) (iv 2) v = some (me.1, up2 me.2 (73 + i) 2 v) := fun me v => uJ_k rk rl (i := 2) (by omega) (by omega) (by omega)
  have u3 : ∀ (me : ME) (v : Int64), uJ S1 me (73 + i) (iv 3) v = some (me.1, up2 me.2 (73 + i) 3 v) := fun me v => uJ_k rk rl (i := 3) (by omega) (by omega) (by omega)
  unfold mX7_loadEquation
  simp only [show (0 : Int32) = iv 0 from rfl, show (1 : Int32) = iv 1 from rfl, show (2 : Int32) = iv 2 from rfl, show (-2 : Int32) = iv (-2) from rfl, show (3 : Int32) = iv 3 from rfl, rS_71_0, rS_62_1, rS_62_2, rS_62_3, bs, ck_s kS_71, aI_k kS_64 lS_64 (i := (k : Int)) (by omega) (by omega) (by omega), aI_k kS_65 lS_65 (i := (k : Int)) (by omega) (by omega) (by omega), aI_k kS_66 lS_66 (i := (k : Int)) (by omega) (by omega) (by omega), aI_k kS_64 lS_64 (i := (a : Int)) (by omega) (by omega) (by omega), aI_k kS_65 lS_65 (i := (a : Int)) (by omega) (by omega) (by omega), aI_k kS_66 lS_66 (i := (a : Int)) (by omega) (by omega) (by omega), Int.toNat_natCast, p2, p3, p4, q2, q3, q4, iv_neg, iv_sub, iv_mul, u0, u1, u2, u3, sq _ hk, sq _ ha]
  rw [iv_J (by omega) (by omega), iv_J (by omega) (by omega), iv_J (by omega) (by omega), iv_J (by omega) (by omega), ← upR_4]
  rfl
/-- what the solver leaves alone -/
def FrS (me me1 : ME) : Prop := (∀ r, r ≠ 71 → me1.1 r = me.1 r) ∧ ∀ r, ¬ (71 ≤ r ∧ r ≤ 81) → me1.2 r = me.2 r
theorem FrS.rfl' {me : ME} : FrS me me := ⟨fun _ _ => rfl, fun _ _ => rfl⟩
theorem FrS.trans {a b c : ME} (h : FrS a b) (h2 : FrS b c) : FrS a c := ⟨fun r hr => (h2.1 r hr).trans (h.1 r hr), fun r hr => (h2.2 r hr).trans (h.2 r hr)⟩
theorem FrS.frC {me me1 : ME} (h : FrS me me1) : FrC me me1 := fun r hr => ⟨h.1 r (by omega), h.2 r (by omega)⟩
theorem FrS.pt {me me1 : ME} {A : AS} (h : FrS me me1) (hP : PtC me A) : PtC me1 A := hP.keep (fun r r1 r2 => h.1 r (by omega))
/-- the rows in the class's memory -/
def RwC (me : ME) (m : Nat) (R : Nat → Nat → Int) : Prop := me.1 71 2 = iv m ∧ ∀ r j, r < m → j ≤ 3 → me.2 (73 + r) j = jv (R r j)
theorem C_load {me : ME} {A : AS} (h : PtC me A) (hA : ASok A) {b : Nat} (hb : b < 512) : ∃ me1 : ME, mX7_load S1 me 71 (iv b) = some ((), me1) ∧ RwC me1 (mR A b) (eR A b) ∧ FrS me me1 := by
  have hn : PN A ≤ 9 := hA.2.2.1.1
  have hfo := fo_le A b
  unfold mX7_load
  simp only [ck_s kS_71, bs, firstOf_v h hA hb, sI_k kS_71, show (1 : Int32) = iv 1 from rfl, iv_add]
  have key : ∀ (d k n : Nat) (m2 : ME), k + d = PN A → d < n → fo A b < k → FrS me m2 → RwC m2 (rws A b k).1 (fun r j => eqn A (fo A b) ((rws A b k).2 r) j) → ∃ me1 : ME, lpn (mX7_load_L15 S1 71 (iv b)) n (m2, iv (fo A b), iv k) = some ((), me1) ∧ RwC me1 (mR A b) (eR A b) ∧ FrS me me1 := by
    intro d
    induction d with
    | zero =>
      intro k n m2 e1 e2 e3 f1 f2
      obtain ⟨n, rfl⟩ : ∃ z, n = z + 1 := ⟨n - 1, by omega⟩
      have : k = PN A := by omega
      subst this
      refine ⟨m2, ?_, f2, f1⟩
      show mX7_load_L15 S1 71 (iv b) _ _ = _
      unfold mX7_load_L15 mX7_load_j65
      simp only [rS_71_0, gI_k kS_62, bs, (f1.pt h).1]
      rw [if_pos (by rw [iv_le (by omega) (by omega) (by omega) (by omega)]; omega)]
    | succ d ih =>
      intro k n m2 e1 e2 e3 f1 f2
      obtain ⟨n, rfl⟩ : ∃ z, n = z + 1 := ⟨n - 1, by omega⟩
      have hk : k < PN A := by omega
      have hP := f1.pt h
      have hc := rws_le A b k
      have hstep : ∀ kk, mX7_load_L15 S1 71 (iv b) kk (m2, iv (fo A b), iv k) = kk (if b.testBit k = true then (up2 m2.1 71 2 (iv ((rws A b k).1 + 1 : Nat)), upR m2.2 (73 + (rws A b k).1) (eqn A (fo A b) k)) else m2, iv (fo A b), iv ((k + 1 : Nat) : Int)) := by
        intro kk
        unfold mX7_load_L15 mX7_load_j59
        simp only [rS_71_0, gI_k kS_62, bs, hP.1]
        rw [if_neg (show ¬ iv (PN A) ≤ iv k by rw [iv_le (by omega) (by omega) (by omega) (by omega)]; omega)]
        simp only [holds_v S1 m2 (show b < 2147483648 by omega) (show k < 31 by omega), bs]
        by_cases t : b.testBit k = true
        · rw [if_pos t, if_neg (by decide), if_pos t]
          simp only [rS_71_1, gI_k kS_71, bs, f2.1, row_iv (show (rws A b k).1 < 9 by omega), ck_s kS_71, loadEq_v hP hA (show fo A b < PN A by omega) hk (show (rws A b k).1 < 9 by omega), sI_k kS_71, show (1 : Int32) = iv 1 from rfl, iv_add]
          rfl
        · rw [if_neg t, if_pos rfl, if_neg t, show (1 : Int32) = iv 1 from rfl, iv_add]
          rfl
      rw [show lpn (mX7_load_L15 S1 71 (iv b)) (n + 1) (m2, iv (fo A b), iv k) = lpn (mX7_load_L15 S1 71 (iv b)) n (if b.testBit k = true then (up2 m2.1 71 2 (iv ((rws A b k).1 + 1 : Nat)), upR m2.2 (73 + (rws A b k).1) (eqn A (fo A b) k)) else m2, iv (fo A b), iv ((k + 1 : Nat) : Int)) from hstep _]
      by_cases t : b.testBit k = true
      · rw [if_pos t]
        have er : rws A b (k + 1) = ((rws A b k).1 + 1, va_up (rws A b k).2 (rws A b k).1 k) := by
          show (if fo A b < k ∧ b.testBit k = true then ((rws A b k).1 + 1, va_up (rws A b k).2 (rws A b k).1 k) else rws A b k) = _
          rw [if_pos ⟨e3, t⟩]
        refine ih (k + 1) n _ (by omega) (by omega) (by omega) (f1.trans ⟨fun r hr => up2_r _ _ _ hr, fun r hr => upR_r _ _ (by omega)⟩) ⟨?_, fun r j hr hj => ?_⟩
        · rw [er]
          exact up2_s m2.1 71 2 _
        · rw [er] at hr ⊢
          have hr : r < (rws A b k).1 + 1 := hr
          show upR m2.2 (73 + (rws A b k).1) (eqn A (fo A b) k) (73 + r) j = jv (eqn A (fo A b) (va_up (rws A b k).2 (rws A b k).1 k r) j)
          by_cases e : r = (rws A b k).1
          · rw [e, upR_s _ _ _ hj]; simp [va_up]
          · rw [upR_r _ _ (by omega), show va_up (rws A b k).2 (rws A b k).1 k r = (rws A b k).2 r by simp [va_up, e]]
            exact f2.2 r j (by omega) hj
      · rw [if_neg t]
        have er : rws A b (k + 1) = rws A b k := by
          show (if fo A b < k ∧ b.testBit k = true then ((rws A b k).1 + 1, va_up (rws A b k).2 (rws A b k).1 k) else rws A b k) = _
          rw [if_neg (fun q => t q.2)]
        refine ih (k + 1) n m2 (by omega) (by omega) (by omega) f1 ?_
        rw [er]
        exact f2
  have fr0 : FrS me (up2 me.1 71 2 0, me.2) := ⟨fun r hr => up2_r _ _ _ hr, fun _ _ => rfl⟩
  by_cases c : fo A b = PN A
  · refine ⟨(up2 me.1 71 2 0, me.2), ?_, ⟨?_, fun r j hr => ?_⟩, fr0⟩
    · show mX7_load_L15 S1 71 (iv b) _ _ = _
      unfold mX7_load_L15 mX7_load_j65
      simp only [rS_71_0, gI_k kS_62, bs, up2_r me.1 2 0 (show (62 : Nat) ≠ 71 by decide), h.1]
      rw [if_pos (by rw [iv_le (by omega) (by omega) (by omega) (by omega)]; omega)]
    · rw [rws_stop c]; exact up2_s me.1 71 2 0
    · rw [rws_stop c] at hr; omega
  · refine key (PN A - (fo A b + 1)) (fo A b + 1) lpF _ (by omega) (by unfold lpF; omega) (by omega) fr0 ?_
    rw [rws_0 A b (fo A b + 1) (by omega)]
    exact ⟨up2_s me.1 71 2 0, fun r j hr => absurd hr (Nat.not_lt_zero r)⟩
