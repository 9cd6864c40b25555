/-! ===== odds, pure part ===== -/
theorem lpn_mq {σ ρ : Type} {f : (σ → Option ρ) → σ → Option ρ} {Q : Option ρ → Prop} (P : Nat → σ → Prop) (hstep : ∀ (j : Nat) (s : σ) (k : σ → Option ρ), P j s → (∃ j' s', j' < j ∧ P j' s' ∧ f k s = k s') ∨ Q (f k s)) : ∀ (n j : Nat) (s : σ), j < n → P j s → Q (lpn f n s) := by
  intro n
  induction n with
  | zero => intro j s h; omega
  | succ n ih =>
    intro j s h1 h2
    show Q (f (lpn f n) s)
    rcases hstep j s (lpn f n) h2 with ⟨j', s', h3, h4, h5⟩ | h5
    · rw [h5]
      exact ih j' s' (by omega) h4
    · exact h5
theorem cnt_sub {s g : Nat} (h : s &&& g = s) : ∀ k, cntB s k ≤ cntB g k := by
  intro k
  induction k with
  | zero => exact Nat.le_refl 0
  | succ k ih =>
    show cntB s k + (if s.testBit k = true then 1 else 0) ≤ cntB g k + (if g.testBit k = true then 1 else 0)
    by_cases c : s.testBit k = true
    · rw [if_pos c, if_pos (sub_bit h c)]; omega
    · rw [if_neg c]; omega
theorem pc_sub {s g : Nat} (h : s &&& g = s) (hg : g < 512) : pc s ≤ pc g := by
  have hs : s < 512 := Nat.lt_of_le_of_lt (sub_le h) hg
  rw [← cnt_pc s hs, ← cnt_pc g hg]
  exact cnt_sub h 9
theorem Sure_pc {A : AS} (hA : ASok A) {s : Nat} (hs : s < 2 ^ PN A) (h : Sure A s) : 4 ≤ pc s := by
  have h0 : s ≠ 0 := fun e => Sure_0 A (e ▸ h)
  have h1 := mR_pc hA hs h0
  obtain ⟨r, t, u, q1, q2, q3, -⟩ := N3_sort (N3_of h.1)
  omega
def odW (y g s : Nat) : Nat := (10 - y) ^ pc s * y ^ (pc g - pc s)
theorem odW_b {y g s : Nat} (hy : y ≤ 10) (h : s &&& g = s) (hg : g < 512) : odW y g s ≤ 1000000000 := by
  have h1 := pc_sub h hg
  have h2 := pc_le g
  have h3 : odW y g s ≤ 10 ^ pc s * 10 ^ (pc g - pc s) := Nat.mul_le_mul (Nat.pow_le_pow_left (by omega) _) (Nat.pow_le_pow_left hy _)
  rw [← Nat.pow_add] at h3
  have h4 : 10 ^ (pc s + (pc g - pc s)) ≤ 10 ^ 9 := Nat.pow_le_pow_right (by decide) (by omega)
  exact Nat.le_trans h3 h4
noncomputable def sumS (A : AS) (y g : Nat) : Nat → Nat
  | 0 => 0
  | s + 1 => sumS A y g s + @ite _ (s &&& g = s ∧ Sure A s) (Classical.propDecidable _) (odW y g s) 0
theorem sumS_succ (A : AS) (y g s : Nat) : sumS A y g (s + 1) = sumS A y g s + @ite _ (s &&& g = s ∧ Sure A s) (Classical.propDecidable _) (odW y g s) 0 := rfl
theorem sumS_b (A : AS) {y g : Nat} (hy : y ≤ 10) (hg : g < 512) : ∀ s, sumS A y g s ≤ 1000000000 * s := by
  intro s
  induction s with
  | zero => exact Nat.le_refl 0
  | succ s ih =>
    rw [sumS_succ]
    by_cases c : s &&& g = s ∧ Sure A s
    · rw [if_pos c]
      have := odW_b hy c.1 hg
      omega
    · rw [if_neg c]; omega
theorem sumS_gap (A : AS) (y g a : Nat) : ∀ b, a ≤ b → (∀ s, a ≤ s → s < b → ¬ s &&& g = s) → sumS A y g b = sumS A y g a := by
  intro b
  induction b with
  | zero => intro h _; rw [show a = 0 by omega]
  | succ b ih =>
    intro h1 h2
    by_cases e : a = b + 1
    · rw [e]
    · rw [sumS_succ, if_neg (fun q => h2 b (by omega) (by omega) q.1), ih (by omega) (fun s s1 s2 => h2 s s1 (by omega))]
      rfl
theorem sub_gap : ∀ (n g l s : Nat), g < 2 ^ n → s &&& g = s → l &&& g = l → s < l → s ≤ (l - 1) &&& g := by
  intro n
  induction n with
  | zero =>
    intro g l s hg hs hl h
    have e : g = 0 := by omega
    rw [e, Nat.and_zero] at hl
    omega
  | succ n ih =>
    intro g l s hg hs hl h
    have s2 : s / 2 &&& g / 2 = s / 2 := by rw [← Nat.and_div_two, hs]
    have l2 : l / 2 &&& g / 2 = l / 2 := by rw [← Nat.and_div_two, hl]
    have sm : s % 2 = 1 → g % 2 = 1 := fun q => by
      rw [← hs] at q
      exact (Nat.and_mod_two_eq_one.mp q).2
    have e1 : ((l - 1) &&& g) / 2 = (l - 1) / 2 &&& g / 2 := Nat.and_div_two
    have e2 : ((l - 1) &&& g) % 2 = 1 ↔ (l - 1) % 2 = 1 ∧ g % 2 = 1 := Nat.and_mod_two_eq_one
    generalize (l - 1) &&& g = z at *
    by_cases b : l % 2 = 1
    · rw [show (l - 1) / 2 = l / 2 by omega, l2] at e1
      omega
    · have i := ih (g / 2) (l / 2) (s / 2) (by rw [Nat.pow_succ] at hg; omega) s2 l2 (by omega)
      rw [show (l - 1) / 2 = l / 2 - 1 by omega] at e1
      rw [← e1] at i
      have : s % 2 ≤ z % 2 := by
        by_cases c : s % 2 = 1
        · rw [e2.mpr ⟨by omega, sm c⟩]; omega
        · omega
      omega
def prd (y g s : Nat) : Nat → Nat
  | 0 => 1
  | k + 1 => prd y g s k * (if g.testBit k = true then (if s.testBit k = true then 10 - y else y) else 1)
theorem prd_eq {y g s : Nat} (h : s &&& g = s) : ∀ k, prd y g s k = (10 - y) ^ cntB s k * y ^ (cntB g k - cntB s k) := by
  intro k
  induction k with
  | zero => rfl
  | succ k ih =>
    have hc := cnt_sub h k
    show prd y g s k * _ = (10 - y) ^ (cntB s k + (if s.testBit k = true then 1 else 0)) * y ^ (cntB g k + (if g.testBit k = true then 1 else 0) - (cntB s k + (if s.testBit k = true then 1 else 0)))
    rw [ih]
    by_cases c : g.testBit k = true
    · rw [if_pos c, if_pos c]
      by_cases d : s.testBit k = true
      · rw [if_pos d, if_pos d, show cntB g k + 1 - (cntB s k + 1) = cntB g k - cntB s k by omega, Nat.pow_succ]
        grind
      · rw [if_neg d, if_neg d, Nat.add_zero, show cntB g k + 1 - cntB s k = (cntB g k - cntB s k) + 1 by omega, Nat.pow_succ]
        grind
    · rw [if_neg c, if_neg c, if_neg (fun d => c (sub_bit h d)), Nat.mul_one, Nat.add_zero, Nat.add_zero]
theorem prd_W {A : AS} (hA : ASok A) {y g s : Nat} (h : s &&& g = s) (hg : g < 2 ^ PN A) : prd y g s (PN A) = odW y g s := by
  have hn : PN A ≤ 9 := hA.2.2.1.1
  have hp := pw_le hA
  have hs : s < 2 ^ PN A := Nat.lt_of_le_of_lt (sub_le h) hg
  rw [prd_eq h, ← cnt_stop hs 9 hn, ← cnt_stop hg 9 hn, cnt_pc s (by omega), cnt_pc g (by omega)]
  rfl
/-! ===== odds of the class ===== -/
theorem power_v (S : SH) (me : ME) {b e : Nat} (hb : b ≤ 10) (he : e ≤ 9) : mX9_power S me (iv b) (iv e) = some (jv ((b ^ e : Nat) : Int), me) := by
  unfold mX9_power
  refine lpn_up (P := fun i s => s = (me, jv ((b ^ i : Nat) : Int), iv i)) (e := e) ?_ ?_ e 0 lpF _ (by omega) (by unfold lpF; omega) rfl
  · rintro i s k hi rfl
    refine ⟨_, rfl, ?_⟩
    unfold mX9_power_L5
    simp only []
    rw [if_neg (show ¬ iv e ≤ iv i by rw [iv_le (by omega) (by omega) (by omega) (by omega)]; omega), iv_J (by omega) (by omega), jv_mul, show (1 : Int32) = iv 1 from rfl, iv_add, Nat.pow_succ, Int.natCast_mul]
    rfl
  · rintro s k rfl
    unfold mX9_power_L5 mX9_power_j22
    simp only []
    rw [if_pos (Int32.le_refl _)]
theorem C_cases {me : ME} {A : AS} (h : PtC me A) (hA : ASok A) {g y : Nat} (hg2 : g < 2 ^ PN A) (hy : y ≤ 10) : ∃ me1 : ME, mX0_sureCases S1 me 82 (iv g) (iv y) = some (jv ((sumS A y g 512 : Nat) : Int), me1) ∧ FrS me me1 := by
  have hp := pw_le hA
  have hg : g < 512 := by omega
  unfold mX0_sureCases
  simp only [bitCount_v S1 me hg, bs]
  refine lpn_Q (Q := fun X => ∃ me1 : ME, X = some (jv ((sumS A y g 512 : Nat) : Int), me1) ∧ FrS me me1) (P := fun s x => ∃ m2 : ME, x = (m2, iv (pc g), jv ((sumS A y g s : Nat) : Int), iv s) ∧ FrS me m2) (e := 512) ?_ ?_ 512 0 lpF _ (by omega) (by unfold lpF; omega) ⟨me, rfl, FrS.rfl'⟩
  · rintro s x kk hs ⟨m2, rfl, f1⟩
    have hpc := pc_le s
    have hpg := pc_le g
    have hd : dm s g < 512 := dm_le s g (n := 9) hs
    unfold mX0_sureCases_L11 mX0_sureCases_j76
    simp only [show (512 : Int32) = iv 512 from rfl, show (1 : Int32) = iv 1 from rfl, iv_add]
    rw [if_neg (show ¬ iv 512 ≤ iv s by rw [iv_le (by omega) (by omega) (by omega) (by omega)]; omega)]
    simp only [bitCount_v S1 m2 hs, bs, dm_v1]
    rw [sumS_succ]
    have skip : ¬ (s &&& g = s ∧ Sure A s) → ∀ m3, FrS me m3 → ∃ s', (∃ m2 : ME, s' = (m2, iv (pc g), jv ((sumS A y g s + @ite _ (s &&& g = s ∧ Sure A s) (Classical.propDecidable _) (odW y g s) 0 : Nat) : Int), iv ((s + 1 : Nat) : Int)) ∧ FrS me m2) ∧ kk (m3, iv (pc g), jv ((sumS A y g s : Nat) : Int), iv ((s : Int) + 1)) = kk s' := fun q m3 f3 => by
      rw [if_neg q, Nat.add_zero]
      exact ⟨_, ⟨m3, rfl, f3⟩, rfl⟩
    by_cases c4 : pc s < 4
    · rw [if_pos (show iv (pc s) < (4 : Int32) by rw [show (4 : Int32) = iv 4 from rfl, iv_lt (by omega) (by omega) (by omega) (by omega)]; omega)]
      exact skip (fun q => by
        have := Sure_pc hA (Nat.lt_of_le_of_lt (sub_le q.1) hg2) q.2
        omega) m2 f1
    · rw [if_neg (show ¬ iv (pc s) < (4 : Int32) by rw [show (4 : Int32) = iv 4 from rfl, iv_lt (by omega) (by omega) (by omega) (by omega)]; omega)]
      by_cases c : s &&& g = s
      · rw [if_pos (show iv ((dm s g : Nat) : Int) = 0 by rw [(dm_0 s g).mpr c]; rfl)]
        obtain ⟨m3, b1, b2, -⟩ := C_judge (f1.pt h) hA (b := s) hs
        simp only [rS_82_1, bs, ck_s kS_71, b1]
        by_cases su : Sure A s
        · rw [if_pos (show iv (VD A s) = 0 by rw [VD_0]; exact su), if_pos ⟨c, su⟩]
          have hle := pc_sub c hg
          have e1 : (10 : Int32) - iv y = iv ((10 - y : Nat) : Int) := by
            rw [show (10 : Int32) = iv 10 from rfl, iv_sub]
            exact congrArg iv (by omega)
          have e2 : iv (pc g : Int) - iv (pc s : Int) = iv ((pc g - pc s : Nat) : Int) := by
            rw [iv_sub]
            exact congrArg iv (by omega)
          simp only [e1, e2, power_v S1 m3 (show 10 - y ≤ 10 by omega) hpc, power_v S1 m3 hy (show pc g - pc s ≤ 9 by omega), bs, jv_mul, jv_add, ← Int.natCast_mul, ← Int.natCast_add]
          exact ⟨_, ⟨m3, rfl, f1.trans b2⟩, rfl⟩
        · rw [if_neg (show ¬ iv (VD A s) = 0 by rw [VD_0]; exact su)]
          exact skip (fun q => su q.2) m3 (f1.trans b2)
      · rw [if_neg (show ¬ iv ((dm s g : Nat) : Int) = 0 from fun q => c ((dm_0 s g).mp (by
          rw [show (0 : Int32) = iv 0 from rfl, iv_eq (by omega) (by omega) (by omega) (by omega)] at q
          omega)))]
        exact skip (fun q => c q.1) m2 f1
  · rintro x kk ⟨m2, rfl, f1⟩
    exact ⟨m2, rfl, f1⟩
noncomputable def odV (A : AS) (s y : Nat) (w : Int) : Int := if w = 0 then lowU ((sumS A y s 512 : Nat) : Int) ((10 ^ pc s : Nat) : Int) else lowL ((sumS A y s 512 : Nat) : Int) ((10 ^ pc s : Nat) : Int)
noncomputable def spOdds (g x w : Int) (A : AS) : Int × AS := (if (0 ≤ g ∧ g ≤ (gN A : Int) - 1) ∧ (0 ≤ x ∧ x ≤ 10) ∧ (0 ≤ w ∧ w ≤ 1) then odV A (gT A g.toNat) x.toNat w else -1, A)
theorem ok_odds (g x w : Int) : OpOK (spOdds g x w) := fun A h => h
theorem od_b {A : AS} {y s : Nat} (hy : y ≤ 10) (hs : s < 512) : ((sumS A y s 512 : Nat) : Int).natAbs ≤ 2 ^ 40 ∧ (0 : Int) < ((10 ^ pc s : Nat) : Int) ∧ ((10 ^ pc s : Nat) : Int) ≤ 2 ^ 40 := by
  have h1 := sumS_b A hy hs 512
  have h2 : 10 ^ pc s ≤ 10 ^ 9 := Nat.pow_le_pow_right (by decide) (pc_le s)
  have h3 : 0 < 10 ^ pc s := Nat.pow_pos (by decide)
  generalize 10 ^ pc s = z at *
  omega
theorem C_odds {g x w : Int} (h1 : -2147483648 ≤ g) (h2 : g ≤ 2147483647) (h3 : -2147483648 ≤ x) (h4 : x ≤ 2147483647) (h5 : -2147483648 ≤ w) (h6 : w ≤ 2147483647) : OpC (fun me => mX9_odds S1 me 0 (iv g) (iv x) (iv w)) (spOdds g x w) := by
  intro me A hR hA
  have hg9 := gN_le hA
  obtain ⟨m1, a1, a2, a3⟩ := C_reg hR hA
  have key : ∃ (v : Int) (m : ME), mX9_odds S1 me 0 (iv g) (iv x) (iv w) = some (iv v, m) ∧ FrC me m ∧ v = (spOdds g x w A).1 := by
    have m1g : iv (gN A : Int) - 1 = iv ((gN A : Int) - 1) := by rw [show (1 : Int32) = iv 1 from rfl, iv_sub]
    have one0 : ¬ (1 : Int32) = 0 := by decide
    by_cases cg : 0 ≤ g ∧ g ≤ (gN A : Int) - 1
    · have wg : mX9_within S1 m1 (iv g) (iv ((gN A : Int) - 1)) = some (1, m1) := within_t S1 m1 cg (by omega)
      by_cases cx : 0 ≤ x ∧ x ≤ 10
      · have wx : mX9_within S1 m1 (iv x) (10 : Int32) = some (1, m1) := within_t S1 m1 (y := 10) cx (by omega)
        by_cases cw : 0 ≤ w ∧ w ≤ 1
        · have ww : mX9_within S1 m1 (iv w) (1 : Int32) = some (1, m1) := within_t S1 m1 (y := 1) cw (by omega)
          have hg : g.toNat < gN A := by omega
          have hset : m1.1 68 g.toNat = iv (gT A g.toNat) := gc_set a2 hg
          have hs2 := gT_lt hA hg
          have hs5 := gT_512 hA hg
          have hsp : (spOdds g x w A).1 = odV A (gT A g.toNat) x.toNat w := if_pos ⟨cg, cx, cw⟩
          rw [hsp]
          unfold mX9_odds mX9_odds_j95
          simp only [ck_s kS_0, bs, a1, rS_0_8, rS_67_0, gI_k kS_67, gc_many a2, m1g, wg, wx, ww, if_neg one0, aI_k kS_68 lS_68 (i := g) (by omega) (by omega) (by omega), hset]
          generalize gT A g.toNat = s at *
          obtain ⟨m2, b1, b2⟩ := C_cases a2.1 hA hs2 (y := x.toNat) (by omega)
          rw [show ((x.toNat : Nat) : Int) = x by omega] at b1
          obtain ⟨o1, o2, o3⟩ := od_b (A := A) (y := x.toNat) (show x.toNat ≤ 10 by omega) hs5
          have pw : mX9_power S1 m1 (10 : Int32) (iv (pc s)) = some (jv ((10 ^ pc s : Nat) : Int), m1) := power_v S1 m1 (b := 10) (by omega) (pc_le s)
          simp only [bitCount_v S1 m1 hs5, bs, pw, rS_0_10, ck_s kS_82, b1, upper_v S1 m2 o1 o2 o3, lower_v S1 m2 o1 o2 o3]
          refine ⟨_, m2, ?_, a3.trans b2.frC, rfl⟩
          unfold odV
          rcases (show w = 0 ∨ w = 1 by omega) with rfl | rfl
          · rw [if_pos (show iv 0 = (0 : Int32) from rfl), if_pos rfl]
          · rw [if_neg (show ¬ iv 1 = (0 : Int32) by decide), if_neg (by decide)]
        · have ww : mX9_within S1 m1 (iv w) (1 : Int32) = some (0, m1) := within_f S1 m1 (y := 1) cw (by omega) (by omega) (by omega) (by omega)
          refine ⟨-1, m1, ?_, a3, (if_neg (fun q => cw q.2.2)).symm⟩
          unfold mX9_odds mX9_odds_j37
          simp only [ck_s kS_0, bs, a1, rS_0_8, gI_k kS_67, gc_many a2, m1g, wg, wx, ww, if_neg one0]
          rw [if_pos trivial]
          rfl
      · have wx : mX9_within S1 m1 (iv x) (10 : Int32) = some (0, m1) := within_f S1 m1 (y := 10) cx (by omega) (by omega) (by omega) (by omega)
        refine ⟨-1, m1, ?_, a3, (if_neg (fun q => cx q.2.1)).symm⟩
        unfold mX9_odds mX9_odds_j37
        simp only [ck_s kS_0, bs, a1, rS_0_8, gI_k kS_67, gc_many a2, m1g, wg, wx, if_neg one0]
        rw [if_pos trivial]
        rfl
    · have wg : mX9_within S1 m1 (iv g) (iv ((gN A : Int) - 1)) = some (0, m1) := within_f S1 m1 cg (by omega) (by omega) (by omega) (by omega)
      refine ⟨-1, m1, ?_, a3, (if_neg (fun q => cg q.1)).symm⟩
      unfold mX9_odds mX9_odds_j37
      simp only [ck_s kS_0, bs, a1, rS_0_8, gI_k kS_67, gc_many a2, m1g, wg]
      rw [if_pos trivial]
      rfl
  obtain ⟨v, m, e, f, q⟩ := key
  exact ⟨m, by show mX9_odds S1 me 0 (iv g) (iv x) (iv w) = _; rw [e, q], f.rep hR, f.eqM⟩
