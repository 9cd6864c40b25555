/-! ===== items of the model ===== -/
theorem tkc_c {t : TX} {p : Nat} (hp : p ≤ t.1) : ((tok t p).1 = 0 ∧ tkc (tok t p) = -1) ∨ ((tok t p).1 = 1 ∧ tkc (tok t p) = (tok t p).2.1 ∧ 97 ≤ (tok t p).2.1 ∧ (tok t p).2.1 ≤ 122) ∨ ((tok t p).1 = 2 ∧ tkc (tok t p) = 0) ∨ ((tok t p).1 = 3 ∧ tkc (tok t p) = 59) ∨ ((tok t p).1 = 4 ∧ tkc (tok t p) = -2) := by
  have hk := (tok_b hp).2.2.2.1
  have hv := (tok_v hp).2
  unfold tkc
  rcases (show (tok t p).1 = 0 ∨ (tok t p).1 = 1 ∨ (tok t p).1 = 2 ∨ (tok t p).1 = 3 ∨ (tok t p).1 = 4 by omega) with e | e | e | e | e
  · exact Or.inl ⟨e, by rw [e]; rfl⟩
  · exact Or.inr (Or.inl ⟨e, by rw [e]; rfl, hv e⟩)
  · exact Or.inr (Or.inr (Or.inl ⟨e, by rw [e]; rfl⟩))
  · exact Or.inr (Or.inr (Or.inr (Or.inl ⟨e, by rw [e]; rfl⟩)))
  · exact Or.inr (Or.inr (Or.inr (Or.inr ⟨e, by rw [e]; rfl⟩)))
theorem tkc_e {t : TX} {p : Nat} (hp : p ≤ t.1) {z : Int} (h1 : -100 ≤ z) (h2 : z ≤ 1000) : (iv (tkc (tok t p)) = iv z) = (tkc (tok t p) = z) := by
  rcases tkc_c hp with ⟨-, e⟩ | ⟨-, e, e1, e2⟩ | ⟨-, e⟩ | ⟨-, e⟩ | ⟨-, e⟩ <;> exact iv_eq (by omega) (by omega) (by omega) (by omega)
def clkM (v : Int) : Int := if v = 112 then 0 else if v = 108 then 1 else if v = 101 then 2 else if v = 100 then 3 else if v = 98 then 4 else -9
theorem clkM_v (S : SH) (me : ME) {v : Int} (h1 : -100 ≤ v) (h2 : v ≤ 1000) : mX10_clockOf S me (iv v) = some (iv (clkM v), me) := by
  have e : ∀ n : Int, 97 ≤ n → n ≤ 122 → (iv v = iv n) = (v = n) := fun n g1 g2 => iv_eq (by omega) (by omega) (by omega) (by omega)
  unfold mX10_clockOf mX10_clockOf_j52 clkM
  simp only [show (98 : Int32) = iv 98 from rfl, show (100 : Int32) = iv 100 from rfl, show (101 : Int32) = iv 101 from rfl, show (108 : Int32) = iv 108 from rfl, show (112 : Int32) = iv 112 from rfl, e 98 (by omega) (by omega), e 100 (by omega) (by omega), e 101 (by omega) (by omega), e 108 (by omega) (by omega), e 112 (by omega) (by omega)]
  by_cases a1 : v = 98
  · subst a1; rfl
  by_cases a2 : v = 100
  · subst a2; rfl
  by_cases a3 : v = 101
  · subst a3; rfl
  by_cases a4 : v = 108
  · subst a4; rfl
  by_cases a5 : v = 112
  · subst a5; rfl
  simp only [if_neg a1, if_neg a2, if_neg a3, if_neg a4, if_neg a5]
  exact congrArg (fun z : Int32 => some (z, me)) (show (-9 : Int32) = iv (-9) by decide)
theorem clkM_I (v : Int) : (0 ≤ clkI v ∧ clkM v = clkI v) ∨ (clkI v < 0 ∧ clkM v = -9) := by
  unfold clkM clkI
  repeat' split
  all_goals omega
theorem clkM_K {t : TX} {p : Nat} (hp : p ≤ t.1) (h : isK t p) : clkM (tkc (tok t p)) = clkI (tok t p).2.1 := by
  obtain ⟨h1, h2⟩ := h
  rcases tkc_c hp with ⟨f, e⟩ | ⟨f, e, e1, e2⟩ | ⟨f, e⟩ | ⟨f, e⟩ | ⟨f, e⟩
  · omega
  · rw [e]
    rcases clkM_I (tok t p).2.1 with g | g <;> omega
  · omega
  · omega
  · omega
theorem clkM_n {t : TX} {p : Nat} (hp : p ≤ t.1) (h : ¬ isK t p) : clkM (tkc (tok t p)) = -9 := by
  rcases tkc_c hp with ⟨f, e⟩ | ⟨f, e, e1, e2⟩ | ⟨f, e⟩ | ⟨f, e⟩ | ⟨f, e⟩
  · rw [e]; rfl
  · rw [e]
    rcases clkM_I (tok t p).2.1 with g | g
    · exact absurd ⟨f, g.1⟩ h
    · exact g.2
  · rw [e]; rfl
  · rw [e]; rfl
  · rw [e]; rfl
theorem fails_v {m : ME} {q : Nat} (h : m.1 91 12 = iv q) : mX10_fails S1 m 91 = some (0, (up2 m.1 91 15 (iv q), m.2)) := by
  unfold mX10_fails
  simp only [gI_k kS_91, bs, h, sI_k kS_91]
theorem AdvM.f {t : TX} {p : Nat} {m : ME} (h : AdvM t p m) (v : Int32) : AdvM t p (up2 m.1 91 15 v, m.2) := ⟨h.1, h.2.1, h.2.2.1, h.2.2.2⟩
theorem mnum_v {me : ME} {t : TX} (hT : TxM me t) (ht : t.1 ≤ 110) {p : Nat} (hp : p ≤ t.1) (h : me.1 91 11 = iv p) {m : Int} (m1 : -1 ≤ m) (m2 : m ≤ 60) : ∃ me1 : ME, mX10_number S1 me 91 (iv m) = some (if isN t p m then 1 else 0, me1) ∧ AdvM t p me1 ∧ FrT me me1 ∧ (¬ isN t p m → me1.1 91 15 = iv (tS t p)) := by
  obtain ⟨me1, a1, a2, a3⟩ := next_v hT ht hp h
  unfold mX10_number
  simp only [ck_s kS_91, bs, a1, gI_k kS_91, a2.2.2.1]
  have fail : ¬ isN t p m → ∃ me2 : ME, mX10_number_j19 S1 91 (iv m) me1 = some (if isN t p m then 1 else 0, me2) ∧ AdvM t p me2 ∧ FrT me me2 ∧ (¬ isN t p m → me2.1 91 15 = iv (tS t p)) := fun hn => by
    unfold mX10_number_j19 mX10_number_j31
    simp only [ck_s kS_91, bs, fails_v a2.2.1]
    rw [if_neg hn, if_pos trivial, if_pos (Or.inl trivial)]
    exact ⟨_, rfl, a2.f _, a3.up (k := 15) (by omega) _, fun _ => rfl⟩
  by_cases c : (tok t p).1 = 2
  · have ez : tkc (tok t p) = 0 := by rcases tkc_c hp with ⟨f, e⟩ | ⟨f, e, e1, e2⟩ | ⟨f, e⟩ | ⟨f, e⟩ | ⟨f, e⟩ <;> omega
    rw [if_pos (show iv (tkc (tok t p)) = 0 by rw [ez]; rfl), a2.2.2.2 c]
    have hv := (tok_v hp).1 c
    by_cases d : (tok t p).2.1 ≤ m
    · rw [if_pos (show iv (tok t p).2.1 ≤ iv m by rw [iv_le (by omega) (by omega) (by omega) (by omega)]; omega)]
      unfold mX10_number_j26 mX10_number_j31
      rw [if_pos (Or.inr rfl), if_pos (show isN t p m from ⟨c, d⟩)]
      exact ⟨me1, rfl, a2, a3, fun q => absurd ⟨c, d⟩ q⟩
    · rw [if_neg (show ¬ iv (tok t p).2.1 ≤ iv m by rw [iv_le (by omega) (by omega) (by omega) (by omega)]; omega)]
      exact fail (fun q => d q.2)
  · have ez : ¬ tkc (tok t p) = 0 := by rcases tkc_c hp with ⟨f, e⟩ | ⟨f, e, e1, e2⟩ | ⟨f, e⟩ | ⟨f, e⟩ | ⟨f, e⟩ <;> omega
    rw [if_neg (show ¬ iv (tkc (tok t p)) = 0 by rw [show (0 : Int32) = iv 0 from rfl, tkc_e hp (by omega) (by omega)]; exact ez)]
    exact fail (fun q => c q.1)
theorem mend_v {me : ME} {t : TX} (hT : TxM me t) (ht : t.1 ≤ 110) {p : Nat} (hp : p ≤ t.1) (h : me.1 91 11 = iv p) : ∃ me1 : ME, mX10_ends S1 me 91 = some (if (tok t p).1 = 3 then 1 else 0, me1) ∧ AdvM t p me1 ∧ FrT me me1 ∧ (¬ (tok t p).1 = 3 → me1.1 91 15 = iv (tS t p)) := by
  obtain ⟨me1, a1, a2, a3⟩ := next_v hT ht hp h
  unfold mX10_ends mX10_ends_j20 mX10_ends_j25
  simp only [ck_s kS_91, bs, a1, gI_k kS_91, a2.2.2.1, fails_v a2.2.1]
  by_cases c : (tok t p).1 = 3
  · have ez : tkc (tok t p) = 59 := by rcases tkc_c hp with ⟨f, e⟩ | ⟨f, e, e1, e2⟩ | ⟨f, e⟩ | ⟨f, e⟩ | ⟨f, e⟩ <;> omega
    rw [if_pos (show iv (tkc (tok t p)) = 59 by rw [ez]; rfl), if_pos (Or.inr trivial), if_pos c]
    exact ⟨me1, rfl, a2, a3, fun q => absurd c q⟩
  · have ez : ¬ tkc (tok t p) = 59 := by rcases tkc_c hp with ⟨f, e⟩ | ⟨f, e, e1, e2⟩ | ⟨f, e⟩ | ⟨f, e⟩ | ⟨f, e⟩ <;> omega
    rw [if_neg (show ¬ iv (tkc (tok t p)) = 59 by rw [show (59 : Int32) = iv 59 from rfl, tkc_e hp (by omega) (by omega)]; exact ez), if_pos trivial, if_pos (Or.inl trivial), if_neg c]
    exact ⟨_, rfl, a2.f _, a3.up (k := 15) (by omega) _, fun _ => rfl⟩
/-- what the model has read so far -/
def PrM (me : ME) (st : PS) : Prop := (me.1 91 16 = iv st.1.1 ∧ ∀ j, j < st.1.1 → me.1 99 j = iv (st.1.2.1 j) ∧ me.1 100 j = iv (st.1.2.2 j)) ∧ LogM me 101 0 st.1.1 st.2
theorem FrT.pr {me m : ME} {st : PS} (h : FrT me m) (hP : PrM me st) : PrM m st := by
  obtain ⟨⟨h1, h2⟩, h3⟩ := hP
  exact ⟨⟨by rw [h.1 16 (by omega)]; exact h1, fun j hj => by rw [h.2.1 99 (by decide), h.2.1 100 (by decide)]; exact h2 j hj⟩, h3.keep' (h.2.1 101 (by decide))⟩
def FrI (me me1 : ME) : Prop := (∀ k, ¬ (11 ≤ k ∧ k ≤ 16) → me1.1 91 k = me.1 91 k) ∧ (∀ r, r ≠ 91 → ¬ (99 ≤ r ∧ r ≤ 101) → me1.1 r = me.1 r) ∧ me1.2 = me.2
theorem FrI.rfl' {me : ME} : FrI me me := ⟨fun _ _ => rfl, fun _ _ _ => rfl, rfl⟩
theorem FrT.i {me m : ME} (h : FrT me m) : FrI me m := ⟨fun k hk => h.1 k (by omega), fun r hr _ => h.2.1 r hr, h.2.2⟩
theorem FrI.trans {a b c : ME} (h : FrI a b) (h2 : FrI b c) : FrI a c := ⟨fun k hk => (h2.1 k hk).trans (h.1 k hk), fun r hr hr2 => (h2.2.1 r hr hr2).trans (h.2.1 r hr hr2), h2.2.2.trans h.2.2⟩
theorem FrI.up {me m : ME} (h : FrI me m) {r : Nat} (hr : 99 ≤ r ∧ r ≤ 101) (k : Nat) (v : Int32) : FrI me (up2 m.1 r k v, m.2) := ⟨fun j hj => (up2_rn m.1 k j v (by omega)).trans (h.1 j hj), fun a h1 h2 => (up2_r m.1 k v (by omega)).trans (h.2.1 a h1 h2), h.2.2⟩
theorem FrI.tx {me m : ME} {t : TX} (h : FrI me m) (hT : TxM me t) : TxM m t := hT.keep (h.1 9 (by omega)) (h.2.1 98 (by decide) (by decide))
/-- how an item of the model ends -/
def RM (X : Sum Nat (Nat × PS)) (b : Int32) (me1 : ME) : Prop := (∃ f, X = .inl f ∧ b = 0 ∧ me1.1 91 15 = iv f) ∨ ∃ (p' : Nat) (st' : PS), X = .inr (p', st') ∧ b = 1 ∧ me1.1 91 11 = iv p' ∧ PrM me1 st'
