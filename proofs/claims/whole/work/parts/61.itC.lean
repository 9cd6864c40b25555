/-! ===== items of the class ===== -/
theorem ive {n m : Nat} (hn : n ≤ 1000) (hm : m ≤ 1000) : (iv (n : Int) = iv (m : Int)) = (n = m) := by
  rw [iv_eq (by omega) (by omega) (by omega) (by omega)]
  exact propext ⟨fun h => by omega, fun h => by omega⟩
theorem tnum_v {me : ME} {t : TX} (hT : TxC me t) (ht : t.1 ≤ 110) {p : Nat} (hp : p ≤ t.1) (h3 : me.1 3 3 = iv p) {m : Int} (m1 : -1 ≤ m) (m2 : m ≤ 60) : ∃ me1 : ME, mX3_takeNumber S1 me 3 1 (iv m) = some (if isN t p m then 1 else 0, me1) ∧ AdvP t p me1 ∧ FrP me me1 := by
  obtain ⟨me1, a1, a2, a3⟩ := adv_v hT ht hp h3
  refine ⟨me1, ?_, a2, a3⟩
  have hk := (tok_b hp).2.2.2.1
  unfold mX3_takeNumber mX3_takeNumber_j25 mX3_takeNumber_j26
  simp only [ck_s kS_3, bs, a1, gI_k kS_3, a2.2.2.1]
  by_cases c : (tok t p).1 = 2
  · rw [if_pos (show iv ((tok t p).1 : Int) = (2 : Int32) by rw [c]; rfl), a2.2.2.2 (Or.inr c)]
    have hv := (tok_v hp).1 c
    by_cases d : (tok t p).2.1 ≤ m
    · rw [if_neg (show ¬ iv m < iv (tok t p).2.1 by rw [iv_lt (by omega) (by omega) (by omega) (by omega)]; omega), if_pos (show isN t p m from ⟨c, d⟩)]
      rw [if_pos (Or.inr trivial)]
    · rw [if_pos (show iv m < iv (tok t p).2.1 by rw [iv_lt (by omega) (by omega) (by omega) (by omega)]; omega), if_neg (show ¬ isN t p m from fun q => d q.2)]
      rw [if_pos (Or.inl trivial)]
  · rw [if_neg (show ¬ iv ((tok t p).1 : Int) = (2 : Int32) by rw [show (2 : Int32) = iv ((2 : Nat) : Int) from rfl, ive (by omega) (by omega)]; exact c), if_neg (show ¬ isN t p m from fun q => c q.1)]
    rw [if_pos (Or.inl trivial)]
theorem tsemi_v {me : ME} {t : TX} (hT : TxC me t) (ht : t.1 ≤ 110) {p : Nat} (hp : p ≤ t.1) (h3 : me.1 3 3 = iv p) : ∃ me1 : ME, mX3_takeSemicolon S1 me 3 1 = some (if (tok t p).1 = 3 then 1 else 0, me1) ∧ AdvP t p me1 ∧ FrP me me1 := by
  obtain ⟨me1, a1, a2, a3⟩ := adv_v hT ht hp h3
  refine ⟨me1, ?_, a2, a3⟩
  have hk := (tok_b hp).2.2.2.1
  unfold mX3_takeSemicolon mX3_takeSemicolon_j18
  simp only [ck_s kS_3, bs, a1, gI_k kS_3, a2.2.2.1]
  by_cases c : (tok t p).1 = 3
  · rw [if_pos (show iv ((tok t p).1 : Int) = (3 : Int32) by rw [c]; rfl), if_pos c, if_pos (Or.inr trivial)]
  · rw [if_neg (show ¬ iv ((tok t p).1 : Int) = (3 : Int32) by rw [show (3 : Int32) = iv ((3 : Nat) : Int) from rfl, ive (by omega) (by omega)]; exact c), if_neg c, if_pos (Or.inl trivial)]
theorem clkC_v (S : SH) (me : ME) {v : Int} (h1 : 97 ≤ v) (h2 : v ≤ 122) : mX3_clockOf S me (iv v) = some (iv (clkI v), me) := by
  have e : ∀ n : Int, 97 ≤ n → n ≤ 122 → (iv v = iv n) = (v = n) := fun n g1 g2 => iv_eq (by omega) (by omega) (by omega) (by omega)
  unfold mX3_clockOf clkI
  simp only [show (98 : Int32) = iv 98 from rfl, show (99 : Int32) = iv 99 from rfl, show (100 : Int32) = iv 100 from rfl, show (101 : Int32) = iv 101 from rfl, show (102 : Int32) = iv 102 from rfl, show (103 : Int32) = iv 103 from rfl, show (104 : Int32) = iv 104 from rfl, show (105 : Int32) = iv 105 from rfl, show (106 : Int32) = iv 106 from rfl, show (107 : Int32) = iv 107 from rfl, show (108 : Int32) = iv 108 from rfl, show (109 : Int32) = iv 109 from rfl, show (110 : Int32) = iv 110 from rfl, show (111 : Int32) = iv 111 from rfl, show (112 : Int32) = iv 112 from rfl, e 98 (by omega) (by omega), e 99 (by omega) (by omega), e 100 (by omega) (by omega), e 101 (by omega) (by omega), e 102 (by omega) (by omega), e 103 (by omega) (by omega), e 104 (by omega) (by omega), e 105 (by omega) (by omega), e 106 (by omega) (by omega), e 107 (by omega) (by omega), e 108 (by omega) (by omega), e 109 (by omega) (by omega), e 110 (by omega) (by omega), e 111 (by omega) (by omega), e 112 (by omega) (by omega)]
  by_cases a1 : v = 98
  · subst a1; rfl
  by_cases a2 : v = 100
  · subst a2; rfl
  by_cases a3 : v = 101
  · subst a3; rfl
  by_cases a4 : v = 108
  · subst a4; rfl
  by_cases a5 : v = 112
  · subst a5; rfl
  simp only [if_neg a1, if_neg a2, if_neg a3, if_neg a4, if_neg a5, ite_self]
  exact congrArg (fun z : Int32 => some (z, me)) (show (-1 : Int32) = iv (-1) by decide)
/-- what the parser has taken in so far -/
def PrC (me : ME) (st : PS) : Prop := (me.1 4 2 = iv st.1.1 ∧ ∀ j, j < st.1.1 → me.1 5 j = iv (st.1.2.1 j) ∧ me.1 6 j = iv (st.1.2.2 j)) ∧ LogC me 7 st.1.1 st.2
theorem PrC.keep {me m : ME} {st : PS} (h : PrC me st) (F : ∀ r, 4 ≤ r → r ≤ 10 → m.1 r = me.1 r) : PrC m st := by
  obtain ⟨⟨h1, h2⟩, h3⟩ := h
  exact ⟨⟨by rw [F 4 (by omega) (by omega)]; exact h1, fun j hj => by rw [F 5 (by omega) (by omega), F 6 (by omega) (by omega)]; exact h2 j hj⟩, h3.keep (F _ (by omega) (by omega)) (F _ (by omega) (by omega)) (F _ (by omega) (by omega)) (F _ (by omega) (by omega))⟩
theorem FrP.pr {me m : ME} {st : PS} (h : FrP me m) (hP : PrC me st) : PrC m st := hP.keep (fun r r1 r2 => h.2.1 r (by omega))
def FrQ (me me1 : ME) : Prop := me1.1 3 2 = me.1 3 2 ∧ (∀ r, ¬ (3 ≤ r ∧ r ≤ 10) → me1.1 r = me.1 r) ∧ me1.2 = me.2
theorem FrP.q {me m : ME} (h : FrP me m) : FrQ me m := ⟨h.1, fun r hr => h.2.1 r (by omega), h.2.2⟩
theorem FrQ.trans {a b c : ME} (h : FrQ a b) (h2 : FrQ b c) : FrQ a c := ⟨h2.1.trans h.1, fun r hr => (h2.2.1 r hr).trans (h.2.1 r hr), h2.2.2.trans h.2.2⟩
theorem FrQ.tx {me m : ME} {t : TX} (h : FrQ me m) (hT : TxC me t) : TxC m t := hT.keep (h.2.1 1 (by omega)) (h.2.1 2 (by omega))
/-- how an item of the class ends -/
def RC (X : Sum Nat (Nat × PS)) (b : Int32) (me1 : ME) : Prop := (∃ f, X = .inl f ∧ b = 0 ∧ me1.1 3 4 = iv f) ∨ ∃ (p' : Nat) (st' : PS), X = .inr (p', st') ∧ b = 1 ∧ me1.1 3 3 = iv p' ∧ PrC me1 st'
theorem site_app {me : ME} {n : Nat} (h : me.1 4 2 = iv n) (hn : n < 6) (x y : Int32) : mX6_append S1 me 4 x y = some ((), (up2 (up2 (up2 me.1 5 n x) 6 n y) 4 2 (iv ((n + 1 : Nat) : Int)), me.2)) := by
  unfold mX6_append mX6_append_j39
  simp only [gI_k kS_4, bs, h, show (6 : Int32) = iv 6 from rfl]
  rw [if_neg (show ¬ iv 6 ≤ iv (n : Int) by rw [iv_le (by omega) (by omega) (by omega) (by omega)]; omega)]
  simp only [rS_4_0, rS_4_1, bs, uI_k kS_5 lS_5 (i := (n : Int)) (by omega) (by omega) (by omega), Int.toNat_natCast, up2_r me.1 _ _ (show (4 : Nat) ≠ 5 by decide), h, uI_k kS_6 lS_6 (i := (n : Int)) (by omega) (by omega) (by omega), up2_r _ _ _ (show (4 : Nat) ≠ 6 by decide), sI_k kS_4, show (1 : Int32) = iv 1 from rfl, iv_add]
  rfl
theorem PrC_add {m : ME} {st : PS} (h : PrC m st) (x y c : Nat) : PrC (up2 (up2 (up2 (up2 m.1 10 st.1.1 (iv c)) 5 st.1.1 (iv x)) 6 st.1.1 (iv y)) 4 2 (iv ((st.1.1 + 1 : Nat) : Int)), m.2) (addSt st x y c) := by
  obtain ⟨⟨h1, h2⟩, h3, h4, h5⟩ := h
  refine ⟨⟨rfl, fun j hj => ⟨?_, ?_⟩⟩, ?_, fun k hk => ⟨?_, ?_⟩, fun s hs => ?_⟩
  · have hj : j < st.1.1 + 1 := hj
    show up2 (up2 (up2 (up2 m.1 10 st.1.1 (iv c)) 5 st.1.1 (iv x)) 6 st.1.1 (iv y)) 4 2 (iv ((st.1.1 + 1 : Nat) : Int)) 5 j = iv ((va_up st.1.2.1 st.1.1 x j : Nat) : Int)
    rw [up2_r _ _ _ (by decide), up2_r _ _ _ (by decide)]
    by_cases e : j = st.1.1
    · subst e; rw [up2_s]; simp [va_up]
    · rw [up2_k _ _ _ _ e, up2_r _ _ _ (by decide), (h2 j (by omega)).1]; simp [va_up, e]
  · have hj : j < st.1.1 + 1 := hj
    show up2 (up2 (up2 (up2 m.1 10 st.1.1 (iv c)) 5 st.1.1 (iv x)) 6 st.1.1 (iv y)) 4 2 (iv ((st.1.1 + 1 : Nat) : Int)) 6 j = iv ((va_up st.1.2.2 st.1.1 y j : Nat) : Int)
    rw [up2_r _ _ _ (by decide)]
    by_cases e : j = st.1.1
    · subst e; rw [up2_s]; simp [va_up]
    · rw [up2_k _ _ _ _ e, up2_r _ _ _ (by decide), up2_r _ _ _ (by decide), (h2 j (by omega)).2]; simp [va_up, e]
  · show up2 (up2 (up2 (up2 m.1 10 st.1.1 (iv c)) 5 st.1.1 (iv x)) 6 st.1.1 (iv y)) 4 2 (iv ((st.1.1 + 1 : Nat) : Int)) 7 3 = _
    rw [up2_r _ _ _ (by decide), up2_r _ _ _ (by decide), up2_r _ _ _ (by decide), up2_r _ _ _ (by decide)]
    exact h3
  · show up2 (up2 (up2 (up2 m.1 10 st.1.1 (iv c)) 5 st.1.1 (iv x)) 6 st.1.1 (iv y)) 4 2 (iv ((st.1.1 + 1 : Nat) : Int)) 8 k = _
    rw [up2_r _ _ _ (by decide), up2_r _ _ _ (by decide), up2_r _ _ _ (by decide), up2_r _ _ _ (by decide)]
    exact (h4 k hk).1
  · show up2 (up2 (up2 (up2 m.1 10 st.1.1 (iv c)) 5 st.1.1 (iv x)) 6 st.1.1 (iv y)) 4 2 (iv ((st.1.1 + 1 : Nat) : Int)) 9 k = _
    rw [up2_r _ _ _ (by decide), up2_r _ _ _ (by decide), up2_r _ _ _ (by decide), up2_r _ _ _ (by decide)]
    exact (h4 k hk).2
  · have hs : s < st.1.1 + 1 := hs
    show up2 (up2 (up2 (up2 m.1 10 st.1.1 (iv c)) 5 st.1.1 (iv x)) 6 st.1.1 (iv y)) 4 2 (iv ((st.1.1 + 1 : Nat) : Int)) 10 s = iv ((va_up st.2.2.2.2 st.1.1 c s : Nat) : Int)
    rw [up2_r _ _ _ (by decide), up2_r _ _ _ (by decide), up2_r _ _ _ (by decide)]
    by_cases e : s = st.1.1
    · subst e; rw [up2_s]; simp [va_up]
    · rw [up2_k _ _ _ _ e]
      have := h5 s (by omega)
      rw [show (7 + 3 : Nat) = 10 from rfl] at this
      rw [this]; simp [va_up, e]
theorem tst_v {me : ME} {t : TX} (hT : TxC me t) (ht : t.1 ≤ 110) {p q : Nat} (hp : p ≤ t.1) (h3 : me.1 3 3 = iv p) (h4 : me.1 3 4 = iv q) {st : PS} (hP : PrC me st) (hst : PSok st) : ∃ (b : Int32) (me1 : ME), mX3_takeStation S1 me 3 1 = some (b, me1) ∧ FrQ me me1 ∧ RC (spSt t q p st) b me1 := by
  have b1 := tE_le hp
  have b2 := tE_le b1.2.1
  have b3 := tE_le b2.2.1
  have n6 := hst.1.1
  unfold mX3_takeStation spSt
  simp only [rS_3_0, bs, gI_k kS_4, hP.1.1]
  by_cases c0 : st.1.1 < 6
  · rw [if_neg (show ¬ (6 : Int32) ≤ iv (st.1.1 : Int) by rw [show (6 : Int32) = iv 6 from rfl, iv_le (by omega) (by omega) (by omega) (by omega)]; omega), if_pos c0]
    obtain ⟨m1, d1, d2, d3⟩ := tnum_v hT ht hp h3 (m := 29) (by omega) (by omega)
    simp only [ck_s kS_3, bs, show (29 : Int32) = iv 29 from rfl, d1]
    by_cases c1 : isN t p 29
    · rw [if_pos c1, if_pos c1, if_neg i10]
      obtain ⟨m2, e1, e2, e3⟩ := tnum_v (d3.tx hT) ht b1.2.1 d2.1 (m := 29) (by omega) (by omega)
      simp only [gI_k kS_3, bs, e1, d2.2.2.2 (Or.inr c1.1)]
      have f2 := d3.trans e3
      by_cases c2 : isN t (tE t p) 29
      · rw [if_pos c2, if_pos c2, if_neg i10]
        obtain ⟨m3, g1, g2, g3⟩ := adv_v (f2.tx hT) ht b2.2.1 e2.1
        simp only [bs, g1, e2.2.2.2 (Or.inr c2.1), g2.2.2.1]
        have f3 := f2.trans g3
        have hk := (tok_b b2.2.1).2.2.2.1
        have fail : ∀ m : ME, FrP me m → m.1 3 4 = iv (tS t (tE t (tE t p))) → ¬ isK t (tE t (tE t p)) → ∃ (b : Int32) (me1 : ME), mX3_takeStation_j85 S1 3 1 m = some (b, me1) ∧ FrQ me me1 ∧ RC (if isK t (tE t (tE t p)) then if (tok t (tE t (tE t (tE t p)))).1 = 3 then .inr (tE t (tE t (tE t (tE t p))), addSt st (tok t p).2.1.toNat (tok t (tE t p)).2.1.toNat (clkI (tok t (tE t (tE t p))).2.1).toNat) else .inl (tS t (tE t (tE t (tE t p)))) else .inl (tS t (tE t (tE t p)))) b me1 := fun m hm hs hn => by
          rw [if_neg hn]
          exact ⟨0, m, rfl, hm.q, Or.inl ⟨_, rfl, rfl, hs⟩⟩
        by_cases c3 : (tok t (tE t (tE t p))).1 = 1
        · rw [if_pos (show iv ((tok t (tE t (tE t p))).1 : Int) = (1 : Int32) by rw [c3]; rfl)]
          have hv := (tok_v b2.2.1).2 c3
          have hcb := clkI_b (tok t (tE t (tE t p))).2.1
          simp only [g2.2.2.2 (Or.inl c3), clkC_v S1 m3 hv.1 hv.2, bs]
          unfold mX3_takeStation_j70
          by_cases c4 : 0 ≤ clkI (tok t (tE t (tE t p))).2.1
          · rw [if_neg (show ¬ iv (clkI (tok t (tE t (tE t p))).2.1) < 0 by rw [show (0 : Int32) = iv 0 from rfl, iv_lt (by omega) (by omega) (by omega) (by omega)]; omega), if_pos (show isK t (tE t (tE t p)) from ⟨c3, c4⟩)]
            obtain ⟨m4, k1, k2, k3⟩ := tsemi_v (f3.tx hT) ht b3.2.1 g2.1
            have f4 := f3.trans k3
            simp only [ck_s kS_3, bs, k1]
            by_cases c5 : (tok t (tE t (tE t (tE t p)))).1 = 3
            · rw [if_pos c5, if_pos c5, if_neg i10]
              have hP4 := f4.pr hP
              have v1 := isN_v hp c1
              have v2 := isN_v b1.2.1 c2
              have hS : (up2 m4.1 10 st.1.1 (iv (clkI (tok t (tE t (tE t p))).2.1)), m4.2).1 4 2 = iv st.1.1 := hP4.1.1
              simp only [rS_3_0, rS_3_1, rS_7_2, bs, gI_k kS_4, hP4.1.1, uI_k kS_10 lS_10 (i := (st.1.1 : Int)) (by omega) (by omega) (by omega), Int.toNat_natCast, ck_s kS_4, site_app hS c0]
              have hA := PrC_add hP4 (tok t p).2.1.toNat (tok t (tE t p)).2.1.toNat (clkI (tok t (tE t (tE t p))).2.1).toNat
              rw [show (((tok t p).2.1.toNat : Nat) : Int) = (tok t p).2.1 by omega, show (((tok t (tE t p)).2.1.toNat : Nat) : Int) = (tok t (tE t p)).2.1 by omega, show (((clkI (tok t (tE t (tE t p))).2.1).toNat : Nat) : Int) = clkI (tok t (tE t (tE t p))).2.1 by omega] at hA
              refine ⟨1, _, rfl, ⟨?_, fun r hr => ?_, ?_⟩, Or.inr ⟨_, _, rfl, rfl, ?_, hA⟩⟩
              · exact f4.1
              · show up2 (up2 (up2 (up2 m4.1 10 st.1.1 _) 5 st.1.1 _) 6 st.1.1 _) 4 2 _ r = me.1 r
                rw [up2_r _ _ _ (by omega), up2_r _ _ _ (by omega), up2_r _ _ _ (by omega), up2_r _ _ _ (by omega)]
                exact f4.2.1 r (by omega)
              · exact f4.2.2
              · exact k2.1
            · rw [if_neg c5, if_neg c5, if_pos i00]
              exact ⟨0, m4, rfl, f4.q, Or.inl ⟨_, rfl, rfl, k2.2.1⟩⟩
          · rw [if_pos (show iv (clkI (tok t (tE t (tE t p))).2.1) < 0 by rw [show (0 : Int32) = iv 0 from rfl, iv_lt (by omega) (by omega) (by omega) (by omega)]; omega)]
            exact fail m3 f3 g2.2.1 (fun q => c4 q.2)
        · rw [if_neg (show ¬ iv ((tok t (tE t (tE t p))).1 : Int) = (1 : Int32) by rw [show (1 : Int32) = iv ((1 : Nat) : Int) from rfl, ive (by omega) (by omega)]; exact c3)]
          unfold mX3_takeStation_j70
          rw [if_pos (show (-1 : Int32) < 0 by decide)]
          exact fail m3 f3 g2.2.1 (fun q => c3 q.1)
      · rw [if_neg c2, if_neg c2, if_pos i00]
        exact ⟨0, m2, rfl, f2.q, Or.inl ⟨_, rfl, rfl, e2.2.1⟩⟩
    · rw [if_neg c1, if_neg c1, if_pos i00]
      exact ⟨0, m1, rfl, d3.q, Or.inl ⟨_, rfl, rfl, d2.2.1⟩⟩
  · rw [if_pos (show (6 : Int32) ≤ iv (st.1.1 : Int) by rw [show (6 : Int32) = iv 6 from rfl, iv_le (by omega) (by omega) (by omega) (by omega)]; omega), if_neg c0]
    exact ⟨0, me, rfl, FrP.rfl'.q, Or.inl ⟨_, rfl, rfl, h4⟩⟩
theorem trd_v {me : ME} {t : TX} (hT : TxC me t) (ht : t.1 ≤ 110) {p q : Nat} (hp : p ≤ t.1) (h3 : me.1 3 3 = iv p) (h4 : me.1 3 4 = iv q) {st : PS} (hP : PrC me st) (hst : PSok st) : ∃ (b : Int32) (me1 : ME), mX3_takeReading S1 me 3 1 = some (b, me1) ∧ FrQ me me1 ∧ RC (spRd t q p st) b me1 := by
  have b1 := tE_le hp
  have b2 := tE_le b1.2.1
  have b3 := tE_le b2.2.1
  have n6 := hst.1.1
  have n9 := hst.2.1
  unfold mX3_takeReading spRd
  simp only [rS_3_1, bs, gI_k kS_7, hP.2.1]
  by_cases c0 : st.2.1 < 9
  · rw [if_neg (show ¬ (9 : Int32) ≤ iv (st.2.1 : Int) by rw [show (9 : Int32) = iv 9 from rfl, iv_le (by omega) (by omega) (by omega) (by omega)]; omega), if_pos c0]
    obtain ⟨m1, d1, d2, d3⟩ := tnum_v hT ht hp h3 (m := (st.1.1 : Int) - 1) (by omega) (by omega)
    simp only [ck_s kS_3, bs, rS_3_0, gI_k kS_4, hP.1.1, show (1 : Int32) = iv 1 from rfl, iv_sub, d1]
    by_cases c1 : isN t p ((st.1.1 : Int) - 1)
    · rw [if_pos c1, if_pos c1, if_neg (show ¬ iv 1 = 0 by decide)]
      obtain ⟨m2, e1, e2, e3⟩ := tnum_v (d3.tx hT) ht b1.2.1 d2.1 (m := 60) (by omega) (by omega)
      simp only [gI_k kS_3, bs, show (60 : Int32) = iv 60 from rfl, e1, d2.2.2.2 (Or.inr c1.1)]
      have f2 := d3.trans e3
      by_cases c2 : isN t (tE t p) 60
      · rw [if_pos c2, if_pos c2, if_neg i10]
        obtain ⟨m4, k1, k2, k3⟩ := tsemi_v (f2.tx hT) ht b2.2.1 e2.1
        have f4 := f2.trans k3
        simp only [bs, k1, e2.2.2.2 (Or.inr c2.1)]
        by_cases c5 : (tok t (tE t (tE t p))).1 = 3
        · rw [if_pos c5, if_pos c5, if_neg i10]
          have hP4 := f4.pr hP
          have v1 := isN_v hp c1
          have v2 := isN_v b1.2.1 c2
          obtain ⟨m5, q1, q2, q3, q4⟩ := L_append (o := 7) isLog_7 hP4.2 c0 (tok t p).2.1.toNat (tok t (tE t p)).2.1.toNat
          rw [show (((tok t p).2.1.toNat : Nat) : Int) = (tok t p).2.1 by omega, show (((tok t (tE t p)).2.1.toNat : Nat) : Int) = (tok t (tE t p)).2.1 by omega] at q1
          simp only [bs, ck_s kS_7, q1]
          refine ⟨1, m5, rfl, ⟨?_, fun r hr => ?_, ?_⟩, Or.inr ⟨_, _, rfl, rfl, ?_, ⟨⟨?_, fun j hj => ?_⟩, q2⟩⟩⟩
          · rw [q3 3 (by omega)]; exact f4.1
          · rw [q3 r (by omega)]; exact f4.2.1 r (by omega)
          · rw [q4]; exact f4.2.2
          · rw [q3 3 (by omega)]; exact k2.1
          · rw [q3 4 (by omega)]; exact hP4.1.1
          · rw [q3 5 (by omega), q3 6 (by omega)]; exact hP4.1.2 j hj
        · rw [if_neg c5, if_neg c5, if_pos i00]
          exact ⟨0, m4, rfl, f4.q, Or.inl ⟨_, rfl, rfl, k2.2.1⟩⟩
      · rw [if_neg c2, if_neg c2, if_pos i00]
        exact ⟨0, m2, rfl, f2.q, Or.inl ⟨_, rfl, rfl, e2.2.1⟩⟩
    · rw [if_neg c1, if_neg c1, if_pos i00]
      exact ⟨0, m1, rfl, d3.q, Or.inl ⟨_, rfl, rfl, d2.2.1⟩⟩
  · rw [if_pos (show (9 : Int32) ≤ iv (st.2.1 : Int) by rw [show (9 : Int32) = iv 9 from rfl, iv_le (by omega) (by omega) (by omega) (by omega)]; omega), if_neg c0]
    exact ⟨0, me, rfl, FrP.rfl'.q, Or.inl ⟨_, rfl, rfl, h4⟩⟩
