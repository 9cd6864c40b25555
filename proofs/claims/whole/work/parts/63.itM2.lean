theorem PrM.u99 {m : ME} {st : PS} (h : PrM m st) (v : Int32) : PrM (up2 m.1 99 st.1.1 v, m.2) st :=
  ⟨⟨h.1.1, fun j hj => ⟨(up2_k m.1 99 99 v (by omega)).trans (h.1.2 j hj).1, (h.1.2 j hj).2⟩⟩, h.2.keep' (up2_r m.1 (r := 99) (a := 101) st.1.1 v (by decide))⟩
theorem PrM.u100 {m : ME} {st : PS} (h : PrM m st) (v : Int32) : PrM (up2 m.1 100 st.1.1 v, m.2) st :=
  ⟨⟨h.1.1, fun j hj => ⟨(h.1.2 j hj).1, (up2_k m.1 100 100 v (by omega)).trans (h.1.2 j hj).2⟩⟩, h.2.keep' (up2_r m.1 (r := 100) (a := 101) st.1.1 v (by decide))⟩
theorem PrM_add {m : ME} {st : PS} (h6 : st.1.1 < 6) (h : PrM m st) {x y : Nat} (c : Nat) (hx : m.1 99 st.1.1 = iv x) (hy : m.1 100 st.1.1 = iv y) : PrM (up2 (up2 m.1 101 (1 + st.1.1) (iv c)) 91 16 (iv ((st.1.1 + 1 : Nat) : Int)), m.2) (addSt st x y c) := by
  obtain ⟨⟨h1, h2⟩, h3, h4, h5⟩ := h
  refine ⟨⟨rfl, fun j hj => ⟨?_, ?_⟩⟩, ?_, fun k hk => ⟨?_, ?_⟩, fun s hs => ?_⟩
  · have hj : j < st.1.1 + 1 := hj
    show m.1 99 j = iv ((va_up st.1.2.1 st.1.1 x j : Nat) : Int)
    by_cases e : j = st.1.1
    · subst e; rw [hx]; simp [va_up]
    · rw [(h2 j (by omega)).1]; simp [va_up, e]
  · have hj : j < st.1.1 + 1 := hj
    show m.1 100 j = iv ((va_up st.1.2.2 st.1.1 y j : Nat) : Int)
    by_cases e : j = st.1.1
    · subst e; rw [hy]; simp [va_up]
    · rw [(h2 j (by omega)).2]; simp [va_up, e]
  · show up2 m.1 101 (1 + st.1.1) (iv c) 101 0 = _
    rw [up2_k _ _ _ _ (by omega)]
    exact h3
  · show up2 m.1 101 (1 + st.1.1) (iv c) 101 (0 + 7 + k) = _
    rw [up2_k _ _ _ _ (by omega)]
    exact (h4 k hk).1
  · show up2 m.1 101 (1 + st.1.1) (iv c) 101 (0 + 16 + k) = _
    rw [up2_k _ _ _ _ (by omega)]
    exact (h4 k hk).2
  · have hs : s < st.1.1 + 1 := hs
    show up2 m.1 101 (1 + st.1.1) (iv c) 101 (0 + 1 + s) = iv ((va_up st.2.2.2.2 st.1.1 c s : Nat) : Int)
    by_cases e : s = st.1.1
    · subst e; rw [show 0 + 1 + st.1.1 = 1 + st.1.1 by omega, up2_s]; simp [va_up]
    · rw [up2_k _ _ _ _ (by omega), h5 s (by omega)]; simp [va_up, e]
theorem rst_v {me : ME} {t : TX} (hT : TxM me t) (ht : t.1 ≤ 110) {p q : Nat} (hp : p ≤ t.1) (h11 : me.1 91 11 = iv p) (h12 : me.1 91 12 = iv q) {st : PS} (hP : PrM me st) (hst : PSok st) : ∃ (b : Int32) (me1 : ME), mX10_readsStation S1 me 91 = some (b, me1) ∧ FrI me me1 ∧ RM (spSt t q p st) b me1 := by
  have b1 := tE_le hp
  have b2 := tE_le b1.2.1
  have b3 := tE_le b2.2.1
  have n6 := hst.1.1
  unfold mX10_readsStation spSt
  simp only [gI_k kS_91, bs, hP.1.1]
  by_cases c0 : st.1.1 < 6
  · rw [if_neg (show ¬ iv (st.1.1 : Int) = (6 : Int32) by rw [show (6 : Int32) = iv ((6 : Nat) : Int) from rfl, ive (by omega) (by omega)]; omega), if_pos c0]
    obtain ⟨m1, d1, d2, d3, d4⟩ := mnum_v hT ht hp h11 (m := 29) (by omega) (by omega)
    simp only [ck_s kS_91, bs, show (29 : Int32) = iv 29 from rfl, d1]
    by_cases c1 : isN t p 29
    · rw [if_pos c1, if_pos c1, if_neg i10]
      have hP1 := d3.pr hP
      have v1 := isN_v hp c1
      simp only [rS_91_17, bs, hP1.1.1, d2.2.2.2 c1.1, uI_k kS_99 lS_99 (i := (st.1.1 : Int)) (by omega) (by omega) (by omega), Int.toNat_natCast]
      have g1 : FrI me (up2 m1.1 99 st.1.1 (iv (tok t p).2.1), m1.2) := d3.i.up (by omega) _ _
      obtain ⟨m2, e1, e2, e3, e4⟩ := mnum_v (me := (up2 m1.1 99 st.1.1 (iv (tok t p).2.1), m1.2)) (g1.tx hT) ht b1.2.1 d2.1 (m := 29) (by omega) (by omega)
      simp only [bs, e1]
      have f2 := g1.trans e3.i
      by_cases c2 : isN t (tE t p) 29
      · rw [if_pos c2, if_pos c2, if_neg i10]
        have hP2 := e3.pr (hP1.u99 (iv (tok t p).2.1))
        have v2 := isN_v b1.2.1 c2
        have x2 : m2.1 99 st.1.1 = iv (tok t p).2.1 := (congrFun (e3.2.1 99 (by decide)) st.1.1).trans (up2_s m1.1 99 st.1.1 _)
        simp only [rS_91_18, bs, hP2.1.1, e2.2.2.2 c2.1, uI_k kS_100 lS_100 (i := (st.1.1 : Int)) (by omega) (by omega) (by omega), Int.toNat_natCast]
        have g2 : FrI me (up2 m2.1 100 st.1.1 (iv (tok t (tE t p)).2.1), m2.2) := f2.up (by omega) _ _
        obtain ⟨m3, k1, k2, k3⟩ := next_v (me := (up2 m2.1 100 st.1.1 (iv (tok t (tE t p)).2.1), m2.2)) (g2.tx hT) ht b2.2.1 e2.1
        have f3 := g2.trans k3.i
        have hP3 := k3.pr (hP2.u100 (iv (tok t (tE t p)).2.1))
        have x3 : m3.1 99 st.1.1 = iv (tok t p).2.1 := (congrFun (k3.2.1 99 (by decide)) st.1.1).trans x2
        have y3 : m3.1 100 st.1.1 = iv (tok t (tE t p)).2.1 := (congrFun (k3.2.1 100 (by decide)) st.1.1).trans (up2_s m2.1 100 st.1.1 _)
        have hz : -100 ≤ tkc (tok t (tE t (tE t p))) ∧ tkc (tok t (tE t (tE t p))) ≤ 1000 := by
          rcases tkc_c b2.2.1 with ⟨f, e⟩ | ⟨f, e, e1, e2⟩ | ⟨f, e⟩ | ⟨f, e⟩ | ⟨f, e⟩ <;> omega
        simp only [bs, k1, k2.2.2.1, clkM_v S1 m3 hz.1 hz.2, rS_91_19, hP3.1.1, fails_v k2.2.1]
        by_cases c3 : isK t (tE t (tE t p))
        · have hcb := clkI_b (tok t (tE t (tE t p))).2.1
          have hc0 := c3.2
          rw [clkM_K b2.2.1 c3, if_neg (show ¬ iv (clkI (tok t (tE t (tE t p))).2.1) = (-9 : Int32) by rw [show (-9 : Int32) = iv (-9) by decide, iv_eq (by omega) (by omega) (by omega) (by omega)]; omega), if_pos c3]
          have hA := PrM_add c0 hP3 (x := (tok t p).2.1.toNat) (y := (tok t (tE t p)).2.1.toNat) (clkI (tok t (tE t (tE t p))).2.1).toNat (by rw [x3, show (((tok t p).2.1.toNat : Nat) : Int) = (tok t p).2.1 by omega]) (by rw [y3, show (((tok t (tE t p)).2.1.toNat : Nat) : Int) = (tok t (tE t p)).2.1 by omega])
          rw [show (((clkI (tok t (tE t (tE t p))).2.1).toNat : Nat) : Int) = clkI (tok t (tE t (tE t p))).2.1 by omega] at hA
          have ei : (1 + (st.1.1 : Int)).toNat = 1 + st.1.1 := by omega
          have em : up2 m3.1 101 (1 + st.1.1) (iv (clkI (tok t (tE t (tE t p))).2.1)) 91 16 = iv st.1.1 := hP3.1.1
          simp only [show (1 : Int32) = iv 1 from rfl, iv_add, uI_k kS_101 lS_101 (i := 1 + (st.1.1 : Int)) (by omega) (by omega) (by omega), ei, bs, em, sI_k kS_91]
          have es : iv ((st.1.1 : Int) + 1) = iv ((st.1.1 + 1 : Nat) : Int) := rfl
          rw [es]
          have g5 : FrI me (up2 (up2 m3.1 101 (1 + st.1.1) (iv (clkI (tok t (tE t (tE t p))).2.1))) 91 16 (iv ((st.1.1 + 1 : Nat) : Int)), m3.2) := by
            have f5 := f3.up (r := 101) (by omega) (1 + st.1.1) (iv (clkI (tok t (tE t (tE t p))).2.1))
            exact ⟨fun k hk => (up2_k _ 91 91 _ (by omega)).trans (f5.1 k hk), fun r r1 r2 => (up2_r _ _ _ r1).trans (f5.2.1 r r1 r2), f5.2.2⟩
          obtain ⟨m6, w1, w2, w3, w4⟩ := mend_v (me := (up2 (up2 m3.1 101 (1 + st.1.1) (iv (clkI (tok t (tE t (tE t p))).2.1))) 91 16 (iv ((st.1.1 + 1 : Nat) : Int)), m3.2)) (g5.tx hT) ht b3.2.1 k2.1
          simp only [w1, bs]
          by_cases c5 : (tok t (tE t (tE t (tE t p)))).1 = 3
          · rw [if_pos c5, if_pos c5, if_pos (show (1 : Int32) = 0 ∨ (1 : Int32) = iv 1 from Or.inr rfl)]
            exact ⟨1, m6, rfl, g5.trans w3.i, Or.inr ⟨_, _, rfl, rfl, w2.1, w3.pr hA⟩⟩
          · rw [if_neg c5, if_neg c5, if_pos (Or.inl rfl)]
            exact ⟨0, m6, rfl, g5.trans w3.i, Or.inl ⟨_, rfl, rfl, w4 c5⟩⟩
        · rw [clkM_n b2.2.1 c3, if_pos (show iv (-9) = (-9 : Int32) by decide), if_pos (Or.inl trivial), if_neg c3]
          exact ⟨0, _, rfl, (f3.trans (FrT.rfl'.up (k := 15) (by omega) _).i), Or.inl ⟨_, rfl, rfl, rfl⟩⟩
      · rw [if_neg c2, if_neg c2, if_pos i00]
        exact ⟨0, m2, rfl, f2, Or.inl ⟨_, rfl, rfl, e4 c2⟩⟩
    · rw [if_neg c1, if_neg c1, if_pos i00]
      exact ⟨0, m1, rfl, d3.i, Or.inl ⟨_, rfl, rfl, d4 c1⟩⟩
  · rw [if_pos (show iv (st.1.1 : Int) = (6 : Int32) by rw [show st.1.1 = 6 by omega]; rfl), if_neg c0]
    simp only [ck_s kS_91, bs, fails_v h12]
    rw [if_pos (Or.inl trivial)]
    exact ⟨0, _, rfl, (FrT.rfl'.up (k := 15) (by omega) _).i, Or.inl ⟨_, rfl, rfl, rfl⟩⟩
theorem rrd_v {me : ME} {t : TX} (hT : TxM me t) (ht : t.1 ≤ 110) {p q : Nat} (hp : p ≤ t.1) (h11 : me.1 91 11 = iv p) (h12 : me.1 91 12 = iv q) {st : PS} (hP : PrM me st) (hst : PSok st) : ∃ (b : Int32) (me1 : ME), mX10_readsReading S1 me 91 = some (b, me1) ∧ FrI me me1 ∧ RM (spRd t q p st) b me1 := by
  have b1 := tE_le hp
  have b2 := tE_le b1.2.1
  have b3 := tE_le b2.2.1
  have n6 := hst.1.1
  have n9 := hst.2.1
  have l0 : ∀ {m : ME}, PrM m st → aI S1 m 11 101 (0 : Int32) = some (iv (st.2.1 : Int)) := fun {m} h => (aI_k (me := m) kS_101 lS_101 (i := 0) (by omega) (by omega) (by omega)).trans (congrArg some h.2.1)
  unfold mX10_readsReading spRd
  simp only [rS_91_19, bs, l0 hP]
  by_cases c0 : st.2.1 < 9
  · rw [if_neg (show ¬ iv (st.2.1 : Int) = (9 : Int32) by rw [show (9 : Int32) = iv ((9 : Nat) : Int) from rfl, ive (by omega) (by omega)]; omega), if_pos c0]
    obtain ⟨m1, d1, d2, d3, d4⟩ := mnum_v hT ht hp h11 (m := (st.1.1 : Int) - 1) (by omega) (by omega)
    simp only [ck_s kS_91, bs, gI_k kS_91, hP.1.1, show (1 : Int32) = iv 1 from rfl, iv_sub, d1]
    by_cases c1 : isN t p ((st.1.1 : Int) - 1)
    · rw [if_pos c1, if_pos c1, if_neg (show ¬ iv 1 = 0 by decide)]
      have hP1 := d3.pr hP
      have v1 := isN_v hp c1
      have ei : (7 + (st.2.1 : Int)).toNat = 7 + st.2.1 := by omega
      simp only [l0 hP1, bs, d2.2.2.2 c1.1, show (7 : Int32) = iv 7 from rfl, iv_add, uI_k kS_101 lS_101 (i := 7 + (st.2.1 : Int)) (by omega) (by omega) (by omega), ei]
      have g1 : FrI me (up2 m1.1 101 (7 + st.2.1) (iv (tok t p).2.1), m1.2) := d3.i.up (by omega) _ _
      have hP1' : PrM (up2 m1.1 101 (7 + st.2.1) (iv (tok t p).2.1), m1.2) st := by
        refine ⟨hP1.1, ?_, fun k hk => ⟨?_, ?_⟩, fun s hs => ?_⟩
        · exact (up2_k m1.1 101 101 _ (by omega)).trans hP1.2.1
        · exact (up2_k m1.1 101 101 _ (by omega)).trans (hP1.2.2.1 k hk).1
        · exact (up2_k m1.1 101 101 _ (by omega)).trans (hP1.2.2.1 k hk).2
        · exact (up2_k m1.1 101 101 _ (by omega)).trans (hP1.2.2.2 s hs)
      obtain ⟨m2, e1, e2, e3, e4⟩ := mnum_v (me := (up2 m1.1 101 (7 + st.2.1) (iv (tok t p).2.1), m1.2)) (g1.tx hT) ht b1.2.1 d2.1 (m := 60) (by omega) (by omega)
      simp only [bs, show (60 : Int32) = iv 60 from rfl, e1]
      have f2 := g1.trans e3.i
      by_cases c2 : isN t (tE t p) 60
      · rw [if_pos c2, if_pos c2, if_neg i10]
        have hP2 := e3.pr hP1'
        have v2 := isN_v b1.2.1 c2
        have x2 : m2.1 101 (7 + st.2.1) = iv (tok t p).2.1 := (congrFun (e3.2.1 101 (by decide)) _).trans (up2_s m1.1 101 (7 + st.2.1) _)
        have ej : (16 + (st.2.1 : Int)).toNat = 16 + st.2.1 := by omega
        have l2 : aI S1 (up2 m2.1 101 (16 + st.2.1) (iv (tok t (tE t p)).2.1), m2.2) 11 101 (0 : Int32) = some (iv (st.2.1 : Int)) := (aI_k kS_101 lS_101 (i := 0) (by omega) (by omega) (by omega)).trans (congrArg some ((up2_k m2.1 101 101 _ (by show (0 : Nat) ≠ 16 + st.2.1; omega)).trans hP2.2.1))
        have u0 : ∀ (m : ME) (v : Int32), uI S1 m 101 (0 : Int32) v = some (up2 m.1 101 0 v, m.2) := fun m v => uI_k (me := m) kS_101 lS_101 (i := 0) (by omega) (by omega) (by omega)
        simp only [l0 hP2, bs, e2.2.2.2 c2.1, show (16 : Int32) = iv 16 from rfl, iv_add, uI_k kS_101 lS_101 (i := 16 + (st.2.1 : Int)) (by omega) (by omega) (by omega), ej, l2, u0]
        have es : iv ((st.2.1 : Int) + 1) = iv ((st.2.1 + 1 : Nat) : Int) := rfl
        rw [es]
        have g5 : FrI me (up2 (up2 m2.1 101 (16 + st.2.1) (iv (tok t (tE t p)).2.1)) 101 0 (iv ((st.2.1 + 1 : Nat) : Int)), m2.2) := (f2.up (r := 101) (by omega) _ _).up (r := 101) (by omega) _ _
        have hA : PrM (up2 (up2 m2.1 101 (16 + st.2.1) (iv (tok t (tE t p)).2.1)) 101 0 (iv ((st.2.1 + 1 : Nat) : Int)), m2.2) (addRd st (tok t p).2.1.toNat (tok t (tE t p)).2.1.toNat) := by
          refine ⟨hP2.1, rfl, fun k hk => ⟨?_, ?_⟩, fun s hs => ?_⟩
          · have hk : k < st.2.1 + 1 := hk
            show up2 (up2 m2.1 101 (16 + st.2.1) (iv (tok t (tE t p)).2.1)) 101 0 (iv ((st.2.1 + 1 : Nat) : Int)) 101 (0 + 7 + k) = iv ((va_up st.2.2.1 st.2.1 (tok t p).2.1.toNat k : Nat) : Int)
            rw [up2_k _ _ _ _ (by omega), up2_k _ _ _ _ (by omega)]
            by_cases e : k = st.2.1
            · subst e
              rw [show 0 + 7 + st.2.1 = 7 + st.2.1 by omega, x2]
              simp only [va_up, if_true]
              rw [show (((tok t p).2.1.toNat : Nat) : Int) = (tok t p).2.1 by omega]
            · rw [(hP2.2.2.1 k (by omega)).1]; simp [va_up, e]
          · have hk : k < st.2.1 + 1 := hk
            show up2 (up2 m2.1 101 (16 + st.2.1) (iv (tok t (tE t p)).2.1)) 101 0 (iv ((st.2.1 + 1 : Nat) : Int)) 101 (0 + 16 + k) = iv ((va_up st.2.2.2.1 st.2.1 (tok t (tE t p)).2.1.toNat k : Nat) : Int)
            rw [up2_k _ _ _ _ (by omega)]
            by_cases e : k = st.2.1
            · subst e
              rw [show 0 + 16 + st.2.1 = 16 + st.2.1 by omega, up2_s]
              simp only [va_up, if_true]
              rw [show (((tok t (tE t p)).2.1.toNat : Nat) : Int) = (tok t (tE t p)).2.1 by omega]
            · rw [up2_k _ _ _ _ (by omega), (hP2.2.2.1 k (by omega)).2]; simp [va_up, e]
          · have hs : s < st.1.1 := hs
            show up2 (up2 m2.1 101 (16 + st.2.1) (iv (tok t (tE t p)).2.1)) 101 0 (iv ((st.2.1 + 1 : Nat) : Int)) 101 (0 + 1 + s) = _
            rw [up2_k _ _ _ _ (by omega), up2_k _ _ _ _ (by omega)]
            exact hP2.2.2.2 s hs
        obtain ⟨m6, w1, w2, w3, w4⟩ := mend_v (me := (up2 (up2 m2.1 101 (16 + st.2.1) (iv (tok t (tE t p)).2.1)) 101 0 (iv ((st.2.1 + 1 : Nat) : Int)), m2.2)) (g5.tx hT) ht b2.2.1 e2.1
        simp only [w1, bs]
        by_cases c5 : (tok t (tE t (tE t p))).1 = 3
        · rw [if_pos c5, if_pos c5, if_pos (show (1 : Int32) = 0 ∨ (1 : Int32) = iv 1 from Or.inr rfl)]
          exact ⟨1, m6, rfl, g5.trans w3.i, Or.inr ⟨_, _, rfl, rfl, w2.1, w3.pr hA⟩⟩
        · rw [if_neg c5, if_neg c5, if_pos (Or.inl rfl)]
          exact ⟨0, m6, rfl, g5.trans w3.i, Or.inl ⟨_, rfl, rfl, w4 c5⟩⟩
      · rw [if_neg c2, if_neg c2, if_pos i00]
        exact ⟨0, m2, rfl, f2, Or.inl ⟨_, rfl, rfl, e4 c2⟩⟩
    · rw [if_neg c1, if_neg c1, if_pos i00]
      exact ⟨0, m1, rfl, d3.i, Or.inl ⟨_, rfl, rfl, d4 c1⟩⟩
  · rw [if_pos (show iv (st.2.1 : Int) = (9 : Int32) by rw [show st.2.1 = 9 by omega]; rfl), if_neg c0]
    simp only [ck_s kS_91, bs, fails_v h12]
    rw [if_pos (Or.inl trivial)]
    exact ⟨0, _, rfl, (FrT.rfl'.up (k := 15) (by omega) _).i, Or.inl ⟨_, rfl, rfl, rfl⟩⟩
