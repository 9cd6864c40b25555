/-! ===== odds of the model ===== -/
theorem part_v {me : ME} {A : AS} (hR : RepM me A) (hA : ASok A) {g l y : Nat} (hg : g < 512) (hl : l < 512) (hy : y ≤ 10) (k84 : ME × Int32 × Int64 × Int64 × Int32 → Option (Int32 × ME)) (x5 x7 : Int64) (a0 a2 : Int32) : lpn (mX10_odds_L95 S1 91 a0 (iv y) a2 k84) lpF (me, iv g, x5, x7, iv l, 1, 0) = mX10_odds_j151 S1 91 a0 (iv y) a2 k84 me (iv g) x5 x7 (iv l) (jv ((prd y g l (PN A) : Nat) : Int)) := by
  have hn : PN A ≤ 9 := hA.2.2.1.1
  refine lpn_up (P := fun k s => s = (me, iv g, x5, x7, iv l, jv ((prd y g l k : Nat) : Int), iv k)) (e := PN A) ?_ ?_ (PN A) 0 lpF _ (by omega) (by unfold lpF; omega) rfl
  · rintro k s kk hk rfl
    refine ⟨_, rfl, ?_⟩
    have e1 : (10 : Int32) - iv y = iv ((10 - y : Nat) : Int) := by
      rw [show (10 : Int32) = iv 10 from rfl, iv_sub]
      exact congrArg iv (by omega)
    unfold mX10_odds_L95 mX10_odds_j142
    simp only [rS_91_3, bs, many0 hR]
    rw [if_neg (show ¬ iv (PN A) ≤ iv k by rw [iv_le (by omega) (by omega) (by omega) (by omega)]; omega)]
    simp only [has_v S1 me (show g < 2147483648 by omega) (show k < 31 by omega), has_v S1 me (show l < 2147483648 by omega) (show k < 31 by omega), bs, e1]
    rw [show iv (k : Int) + 1 = iv ((k + 1 : Nat) : Int) by rw [show (1 : Int32) = iv 1 from rfl, iv_add]; rfl]
    show _ = kk (me, iv g, x5, x7, iv l, jv ((prd y g l k * (if g.testBit k = true then (if l.testBit k = true then 10 - y else y) else 1) : Nat) : Int), iv ((k + 1 : Nat) : Int))
    rw [Int.natCast_mul, ← jv_mul]
    by_cases c : g.testBit k = true
    · rw [if_pos c, if_pos c, if_neg (show ¬ (1 : Int32) = 0 by decide)]
      by_cases d : l.testBit k = true
      · rw [if_pos d, if_pos d, if_neg (show ¬ (1 : Int32) = 0 by decide), iv_J (by omega) (by omega)]
      · rw [if_neg d, if_neg d, if_pos (show (0 : Int32) = 0 from rfl), iv_J (by omega) (by omega)]
    · rw [if_neg c, if_neg c, if_pos (show (0 : Int32) = 0 from rfl)]
      rfl
  · rintro s kk rfl
    unfold mX10_odds_L95
    simp only [rS_91_3, bs, many0 hR]
    rw [if_pos (Int32.le_refl _)]
theorem M_oddsL {me : ME} {A : AS} (hR : RepM me A) (hA : ASok A) {g y : Nat} (hg2 : g < 2 ^ PN A) (hy : y ≤ 10) {w : Int} (hw : 0 ≤ w ∧ w ≤ 1) (a0 : Int32) : ∃ me1 : ME, mX10_odds_j80 S1 91 a0 (iv y) (iv w) me (iv g) (jv ((10 ^ pc g : Nat) : Int)) 0 = some (iv (odV A g y w), me1) ∧ FrM me me1 := by
  have hn : PN A ≤ 9 := hA.2.2.1.1
  have hp := pw_le hA
  have hg : g < 512 := by omega
  unfold mX10_odds_j80
  refine lpn_mq (Q := fun X => ∃ me1 : ME, X = some (iv (odV A g y w), me1) ∧ FrM me me1) (P := fun l s => (l < 512 ∧ l &&& g = l) ∧ ∃ (m2 : ME) (v : Nat), s = (m2, iv g, jv ((10 ^ pc g : Nat) : Int), jv (v : Int), iv l) ∧ FrM me m2 ∧ v + sumS A y g (l + 1) = sumS A y g 512) ?_ lpF g _ (by unfold lpF; omega) ⟨⟨hg, Nat.and_self g⟩, me, 0, rfl, FrM.rfl', ?_⟩
  · rintro l s kk ⟨⟨hl, hlg⟩, m2, v, rfl, f1, f2⟩
    have hR2 := f1.rep hR
    by_cases e : l = 0
    · right
      subst e
      rw [sumS_succ, if_neg (fun q => Sure_0 A q.2)] at f2
      have f3 : v = sumS A y g 512 := by
        rw [← f2]
        show v = v + (0 + 0)
        omega
      subst f3
      obtain ⟨o1, o2, o3⟩ := od_b (A := A) (y := y) hy hg
      refine ⟨m2, ?_, f1⟩
      unfold mX10_odds_L84 mX10_odds_j190 mX10_odds_j203
      simp only [lowest_v S1 m2 o1 o2 o3, bs]
      rw [if_pos (show iv ((0 : Nat) : Int) ≤ 0 by decide)]
      unfold odV
      rcases (show w = 0 ∨ w = 1 by omega) with rfl | rfl
      · rw [if_pos (show iv 0 = (0 : Int32) from rfl), if_neg (show ¬ (1 : Int32) = 0 by decide), if_pos rfl]
      · rw [if_neg (show ¬ iv 1 = (0 : Int32) by decide), if_pos trivial, if_neg (by decide)]
    · left
      have hsub : (l - 1) &&& g ≤ l - 1 := Nat.and_le_left
      have hgap : sumS A y g l = sumS A y g (((l - 1) &&& g) + 1) := sumS_gap A y g _ l (by omega) (fun s s1 s2 q => by
        have := sub_gap (PN A) g l s hg2 q hlg s2
        omega)
      have hW := odW_b hy hlg hg
      have hPW := prd_W (y := y) hA hlg hg2
      have fl : fo A l < PN A := fo_lt e (Nat.lt_of_le_of_lt (sub_le hlg) hg2)
      have nx : (iv (l : Int) - 1) &&& iv (g : Int) = iv (((l - 1) &&& g : Nat) : Int) := by
        rw [show (1 : Int32) = iv 1 from rfl, iv_sub, show (l : Int) - 1 = ((l - 1 : Nat) : Int) by omega, and_v]
      have st : ∀ (m3 : ME) (z : Nat), FrM me m3 → z = @ite _ (l &&& g = l ∧ Sure A l) (Classical.propDecidable _) (odW y g l) 0 → ∃ j' s', j' < l ∧ ((j' < 512 ∧ j' &&& g = j') ∧ ∃ (m2 : ME) (v : Nat), s' = (m2, iv g, jv ((10 ^ pc g : Nat) : Int), jv (v : Int), iv j') ∧ FrM me m2 ∧ v + sumS A y g (j' + 1) = sumS A y g 512) ∧ mX10_odds_j175 S1 91 a0 (iv y) (iv w) kk m3 (iv g) (jv ((10 ^ pc g : Nat) : Int)) (iv l) (jv (v : Int)) (jv (z : Int)) = kk s' := fun m3 z f3 hz => by
        refine ⟨(l - 1) &&& g, _, by omega, ⟨⟨by omega, by rw [Nat.and_assoc, Nat.and_self]⟩, m3, v + z, rfl, f3, ?_⟩, ?_⟩
        · rw [← hgap, ← f2, sumS_succ, ← hz]
          omega
        · unfold mX10_odds_j175
          rw [nx, jv_add, ← Int.natCast_add]
      unfold mX10_odds_L84
      simp only []
      rw [if_neg (show ¬ iv (l : Int) ≤ 0 by rw [show (0 : Int32) = iv 0 from rfl, iv_le (by omega) (by omega) (by omega) (by omega)]; omega), part_v hR2 hA hg hl hy, hPW]
      unfold mX10_odds_j151 mX10_odds_j174
      by_cases c0 : odW y g l = 0
      · rw [if_pos (show lg_cmp (jv ((odW y g l : Nat) : Int)) 0 ≤ 0 by rw [show (0 : Int64) = jv 0 from rfl, lg_le0 (by omega) (by omega) (by omega) (by omega)]; omega)]
        exact st m2 0 f1 (by rw [c0]; split <;> rfl)
      · rw [if_neg (show ¬ lg_cmp (jv ((odW y g l : Nat) : Int)) 0 ≤ 0 by rw [show (0 : Int64) = jv 0 from rfl, lg_le0 (by omega) (by omega) (by omega) (by omega)]; omega)]
        obtain ⟨m3, b1, b2, -⟩ := M_verdict hR2 hA hl fl
        simp only [ck_s kS_91, bs, b1]
        by_cases su : Sure A l
        · rw [if_pos (show iv (VD A l) = 0 by rw [VD_0]; exact su)]
          exact st m3 (odW y g l) (f1.trans b2.1) (by rw [if_pos ⟨hlg, su⟩])
        · rw [if_neg (show ¬ iv (VD A l) = 0 by rw [VD_0]; exact su)]
          exact st m3 0 (f1.trans b2.1) (by rw [if_neg (fun q => su q.2)])
  · rw [Nat.zero_add]
    exact (sumS_gap A y g (g + 1) 512 (by omega) (fun s s1 s2 q => by
      have := sub_le q
      omega)).symm
theorem M_odds {g x w : Int} (h1 : -2147483648 ≤ g) (h2 : g ≤ 2147483647) (h3 : -2147483648 ≤ x) (h4 : x ≤ 2147483647) (h5 : -2147483648 ≤ w) (h6 : w ≤ 2147483647) : OpM (fun me => mX10_odds S1 me 91 (iv g) (iv x) (iv w)) (spOdds g x w) := by
  intro me A hR hA
  have hg9 := gN_le hA
  obtain ⟨m1, a1, a2, a3⟩ := M_lay hR hA
  have hR1 := a3.rep hR
  have key : ∃ (v : Int) (m : ME), mX10_odds S1 me 91 (iv g) (iv x) (iv w) = some (iv v, m) ∧ FrM me m ∧ v = (spOdds g x w A).1 := by
    have m1g : iv (gN A : Int) - 1 = iv ((gN A : Int) - 1) := by rw [show (1 : Int32) = iv 1 from rfl, iv_sub]
    have one0 : ¬ (1 : Int32) = 0 := by decide
    by_cases cg : 0 ≤ g ∧ g ≤ (gN A : Int) - 1
    · have wg : mX10_in S1 m1 (iv g) (0 : Int32) (iv ((gN A : Int) - 1)) = some (1, m1) := in_t S1 m1 (y := 0) cg (by omega) (by omega)
      by_cases cx : 0 ≤ x ∧ x ≤ 10
      · have wx : mX10_in S1 m1 (iv x) (0 : Int32) (10 : Int32) = some (1, m1) := in_t S1 m1 (y := 0) (z := 10) cx (by omega) (by omega)
        by_cases cw : 0 ≤ w ∧ w ≤ 1
        · have ww : mX10_in S1 m1 (iv w) (0 : Int32) (1 : Int32) = some (1, m1) := in_t S1 m1 (y := 0) (z := 1) cw (by omega) (by omega)
          have hg : g.toNat < gN A := by omega
          have hset : m1.1 102 g.toNat = iv (gT A g.toNat) := gm_set a2 hg
          have hs2 := gT_lt hA hg
          have hs5 := gT_512 hA hg
          have hsp : (spOdds g x w A).1 = odV A (gT A g.toNat) x.toNat w := if_pos ⟨cg, cx, cw⟩
          rw [hsp]
          unfold mX10_odds
          simp only [ck_s kS_91, bs, a1, rS_91_21, gI_k kS_91, gm_many a2, m1g, wg, wx, ww, if_neg one0, aI_k kS_102 lS_102 (i := g) (by omega) (by omega) (by omega), hset]
          generalize gT A g.toNat = s at *
          have hpc := pc_le s
          obtain ⟨m2, b1, b2⟩ := M_oddsL hR1 hA hs2 (y := x.toNat) (by omega) cw (iv g)
          rw [show ((x.toNat : Nat) : Int) = x by omega] at b1
          refine ⟨_, m2, ?_, a3.trans b2, rfl⟩
          rw [← b1]
          refine lpn_up (P := fun i z => z = (m1, iv s, jv ((10 ^ i : Nat) : Int), 0, iv i)) (e := pc s) ?_ ?_ (pc s) 0 lpF _ (by omega) (by unfold lpF; omega) rfl
          · rintro i z k hi rfl
            refine ⟨_, rfl, ?_⟩
            unfold mX10_odds_L56
            simp only [bits_v S1 m1 hs5, bs]
            rw [if_neg (show ¬ iv (pc s) ≤ iv i by rw [iv_le (by omega) (by omega) (by omega) (by omega)]; omega), show (10 : Int64) = jv 10 from rfl, jv_mul, show (1 : Int32) = iv 1 from rfl, iv_add, Nat.pow_succ, Int.natCast_mul]
            rfl
          · rintro z k rfl
            unfold mX10_odds_L56
            simp only [bits_v S1 m1 hs5, bs]
            rw [if_pos (Int32.le_refl _)]
        · have ww : mX10_in S1 m1 (iv w) (0 : Int32) (1 : Int32) = some (0, m1) := in_f S1 m1 (y := 0) (z := 1) cw (by omega) (by omega) (by omega) (by omega) (by omega) (by omega)
          refine ⟨-1, m1, ?_, a3, (if_neg (fun q => cw q.2.2)).symm⟩
          unfold mX10_odds mX10_odds_j37
          simp only [ck_s kS_91, bs, a1, gI_k kS_91, gm_many a2, m1g, wg, wx, ww, if_neg one0]
          rw [if_pos trivial]
          rfl
      · have wx : mX10_in S1 m1 (iv x) (0 : Int32) (10 : Int32) = some (0, m1) := in_f S1 m1 (y := 0) (z := 10) cx (by omega) (by omega) (by omega) (by omega) (by omega) (by omega)
        refine ⟨-1, m1, ?_, a3, (if_neg (fun q => cx q.2.1)).symm⟩
        unfold mX10_odds mX10_odds_j37
        simp only [ck_s kS_91, bs, a1, gI_k kS_91, gm_many a2, m1g, wg, wx, if_neg one0]
        rw [if_pos trivial]
        rfl
    · have wg : mX10_in S1 m1 (iv g) (0 : Int32) (iv ((gN A : Int) - 1)) = some (0, m1) := in_f S1 m1 (y := 0) cg (by omega) (by omega) (by omega) (by omega) (by omega) (by omega)
      refine ⟨-1, m1, ?_, a3, (if_neg (fun q => cg q.1)).symm⟩
      unfold mX10_odds mX10_odds_j37
      simp only [ck_s kS_91, bs, a1, gI_k kS_91, gm_many a2, m1g, wg]
      rw [if_pos trivial]
      rfl
  obtain ⟨v, m, e, f, q⟩ := key
  exact ⟨m, by show mX10_odds S1 me 91 (iv g) (iv x) (iv w) = _; rw [e, q], f.rep hR, f.eqC⟩
