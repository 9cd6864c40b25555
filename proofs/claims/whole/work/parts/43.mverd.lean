/-! ===== the model: open, solves, verdict ===== -/
theorem O76_v {me : ME} {m : Nat} {E : Nat → Nat → Int} (h : RwM me m E) (hm : m ≤ 9) (hB : Bd m E) {k r s t a : Nat} (hk : k < 3) (hr : r < m) (hs : s < m) (ht : t < m) (ha : a < 3) (k2 : ME × Int32 → Option (Int32 × ME)) (k29 : ME × Int32 × Int32 → Option (Int32 × ME)) (k37 : ME × Int32 × Int32 × Int32 → Option (Int32 × ME)) (k67 : ME × Int32 × Int32 × Int32 × Int32 → Option (Int32 × ME)) : lpn (mX10_isOpen_L76 S1 91 (iv k) k2 k29 k37 k67) lpF (me, iv r, iv s, iv a, iv t, 0) = @ite _ (∃ b, b < a ∧ k = 2 ∧ d3 (E r) (E s) (E t) b a 3 ≠ 0) (Classical.propDecidable _) (some (0, me)) (k67 (me, iv r, iv s, iv a, iv ((t + 1 : Nat) : Int))) := by
  refine lpn_ix (P := fun b x => x = (me, iv r, iv s, iv a, iv t, iv b) ∧ ∀ b', b' < b → ¬ (k = 2 ∧ d3 (E r) (E s) (E t) b' a 3 ≠ 0)) (e := a) ?_ a 0 lpF _ (by omega) (by unfold lpF; omega) ⟨rfl, fun b' hb => by omega⟩
  rintro b x kk hb ⟨rfl, hz⟩
  unfold mX10_isOpen_L76 mX10_isOpen_j114 mX10_isOpen_j108 mX10_isOpen_j106
  simp only [show (1 : Int32) = iv 1 from rfl, show (2 : Int32) = iv 2 from rfl, show (3 : Int32) = iv 3 from rfl, iv_add]
  by_cases e : b = a
  · right
    subst e
    rw [if_pos (show iv b ≤ iv b by rw [iv_le (by omega) (by omega) (by omega) (by omega)]; omega), if_neg (fun ⟨b', q1, q2⟩ => hz b' q1 q2)]
    rfl
  · rw [if_neg (show ¬ iv a ≤ iv b by rw [iv_le (by omega) (by omega) (by omega) (by omega)]; omega)]
    have t3 : mX10_three S1 me 91 (iv r) (iv s) (iv t) (iv b) (iv a) (iv 3) = some (jv (d3 (E r) (E s) (E t) b a 3), me) := three_v h hm hr hs ht (by omega) (by omega) (c := 3) (by omega)
    simp only [ck_s kS_91, bs, t3, lg_z (d3_any hB hr hs ht (show b ≤ 3 by omega) (show a ≤ 3 by omega) (show 3 ≤ 3 by omega))]
    have cont : ¬ (k = 2 ∧ d3 (E r) (E s) (E t) b a 3 ≠ 0) → ∀ b', b' < b + 1 → ¬ (k = 2 ∧ d3 (E r) (E s) (E t) b' a 3 ≠ 0) := fun q b' hb' => by
      by_cases e2 : b' = b
      · subst e2; exact q
      · exact hz b' (by omega)
    by_cases c2 : k = 2
    · rw [if_pos (by rw [c2]; rfl)]
      by_cases z : d3 (E r) (E s) (E t) b a 3 = 0
      · left
        rw [if_pos z]
        exact ⟨by omega, _, ⟨rfl, cont (fun q => q.2 z)⟩, rfl⟩
      · right
        rw [if_neg z, if_pos (⟨b, by omega, c2, z⟩ : ∃ b, b < a ∧ k = 2 ∧ d3 (E r) (E s) (E t) b a 3 ≠ 0)]
    · left
      rw [if_neg (show ¬ iv k = iv 2 by rw [iv_eq (by omega) (by omega) (by omega) (by omega)]; omega)]
      exact ⟨by omega, _, ⟨rfl, cont (fun q => c2 q.1)⟩, rfl⟩
theorem O67_v {me : ME} {m : Nat} {E : Nat → Nat → Int} (h : RwM me m E) (hm : m ≤ 9) (hB : Bd m E) {k r s a : Nat} (hk : k < 3) (hr : r < m) (hs : s < m) (ha : a < 3) (k2 : ME × Int32 → Option (Int32 × ME)) (k29 : ME × Int32 × Int32 → Option (Int32 × ME)) (k37 : ME × Int32 × Int32 × Int32 → Option (Int32 × ME)) : lpn (mX10_isOpen_L67 S1 91 (iv k) k2 k29 k37) lpF (me, iv r, iv s, iv a, 0) = @ite _ (∃ t b, t < s ∧ b < a ∧ k = 2 ∧ d3 (E r) (E s) (E t) b a 3 ≠ 0) (Classical.propDecidable _) (some (0, me)) (k37 (me, iv r, iv s, iv ((a + 1 : Nat) : Int))) := by
  refine lpn_ix (P := fun t x => x = (me, iv r, iv s, iv a, iv t) ∧ ∀ t' b, t' < t → b < a → ¬ (k = 2 ∧ d3 (E r) (E s) (E t') b a 3 ≠ 0)) (e := s) ?_ s 0 lpF _ (by omega) (by unfold lpF; omega) ⟨rfl, fun t' b hb => by omega⟩
  rintro t x kk ht ⟨rfl, hz⟩
  unfold mX10_isOpen_L67 mX10_isOpen_j120
  simp only [show (1 : Int32) = iv 1 from rfl, iv_add]
  by_cases e : t = s
  · right
    subst e
    rw [if_pos (show iv t ≤ iv t by rw [iv_le (by omega) (by omega) (by omega) (by omega)]; omega), if_neg (fun ⟨t', b, q1, q2, q3⟩ => hz t' b q1 q2 q3)]
    rfl
  · rw [if_neg (show ¬ iv s ≤ iv t by rw [iv_le (by omega) (by omega) (by omega) (by omega)]; omega), O76_v h hm hB hk hr hs (show t < m by omega) ha]
    by_cases c : ∃ b, b < a ∧ k = 2 ∧ d3 (E r) (E s) (E t) b a 3 ≠ 0
    · right
      obtain ⟨b, q1, q2⟩ := id c
      rw [if_pos c, if_pos (⟨t, b, by omega, q1, q2⟩ : ∃ t b, t < s ∧ b < a ∧ k = 2 ∧ d3 (E r) (E s) (E t) b a 3 ≠ 0)]
    · left
      rw [if_neg c]
      refine ⟨by omega, _, ⟨rfl, fun t' b h1 h2 q => ?_⟩, rfl⟩
      by_cases e2 : t' = t
      · subst e2; exact c ⟨b, h2, q⟩
      · exact hz t' b (by omega) h2 q
def B37 (E : Nat → Nat → Int) (k r s a : Nat) : Prop := (k = 1 ∧ d2 (E r) (E s) a 3 ≠ 0) ∨ ∃ t b, t < s ∧ b < a ∧ k = 2 ∧ d3 (E r) (E s) (E t) b a 3 ≠ 0
theorem O37_v {me : ME} {m : Nat} {E : Nat → Nat → Int} (h : RwM me m E) (hm : m ≤ 9) (hB : Bd m E) {k r s : Nat} (hk : k < 3) (hr : r < m) (hs : s < m) (k2 : ME × Int32 → Option (Int32 × ME)) (k29 : ME × Int32 × Int32 → Option (Int32 × ME)) : lpn (mX10_isOpen_L37 S1 91 (iv k) k2 k29) lpF (me, iv r, iv s, 0) = @ite _ (∃ a, a < 3 ∧ B37 E k r s a) (Classical.propDecidable _) (some (0, me)) (k29 (me, iv r, iv ((s + 1 : Nat) : Int))) := by
  refine lpn_ix (P := fun a x => x = (me, iv r, iv s, iv a) ∧ ∀ a', a' < a → ¬ B37 E k r s a') (e := 3) ?_ 3 0 lpF _ (by omega) (by unfold lpF; omega) ⟨rfl, fun a' hb => by omega⟩
  rintro a x kk ha ⟨rfl, hz⟩
  unfold mX10_isOpen_L37 mX10_isOpen_j126 mX10_isOpen_j62 mX10_isOpen_j64
  simp only []
  by_cases e : a = 3
  · right
    subst e
    rw [if_pos (by decide), if_neg (fun ⟨a', q1, q2⟩ => hz a' q1 q2), show (1 : Int32) = iv 1 from rfl, iv_add]
    rfl
  · have ha3 : a < 3 := by omega
    rw [if_neg (show ¬ (3 : Int32) ≤ iv a by rw [show (3 : Int32) = iv 3 from rfl, iv_le (by omega) (by omega) (by omega) (by omega)]; omega)]
    have t3 : mX10_two S1 me 91 (iv r) (iv s) (iv a) 3 = some (jv (d2 (E r) (E s) a 3), me) := two_v h hm hr hs (by omega) (b := 3) (by omega)
    simp only [ck_s kS_91, bs, t3, lg_z (d2_any hB hr hs (show a ≤ 3 by omega) (show 3 ≤ 3 by omega)), O67_v h hm hB hk hr hs ha3]
    have cont : ¬ B37 E k r s a → ∀ a', a' < a + 1 → ¬ B37 E k r s a' := fun q a' ha' => by
      by_cases e2 : a' = a
      · subst e2; exact q
      · exact hz a' (by omega)
    by_cases c1 : k = 1 ∧ d2 (E r) (E s) a 3 ≠ 0
    · right
      rw [if_pos (show iv k = 1 by rw [c1.1]; rfl), if_neg c1.2, if_pos (⟨a, ha3, Or.inl c1⟩ : ∃ a, a < 3 ∧ B37 E k r s a)]
    · have e1 : ∀ X : Option (Int32 × ME), (if iv k = 1 then if d2 (E r) (E s) a 3 = 0 then X else some (0, me) else X) = X := fun X => by
        by_cases q : k = 1
        · rw [if_pos (show iv k = 1 by rw [q]; rfl)]
          by_cases z : d2 (E r) (E s) a 3 = 0
          · rw [if_pos z]
          · exact absurd ⟨q, z⟩ c1
        · rw [if_neg (show ¬ iv k = 1 by rw [show (1 : Int32) = iv 1 from rfl, iv_eq (by omega) (by omega) (by omega) (by omega)]; omega)]
      rw [e1]
      by_cases c : ∃ t b, t < s ∧ b < a ∧ k = 2 ∧ d3 (E r) (E s) (E t) b a 3 ≠ 0
      · right
        rw [if_pos c, if_pos (⟨a, ha3, Or.inr c⟩ : ∃ a, a < 3 ∧ B37 E k r s a)]
      · left
        rw [if_neg c]
        exact ⟨by omega, _, ⟨rfl, cont (fun q => q.elim c1 c)⟩, rfl⟩
theorem O29_v {me : ME} {m : Nat} {E : Nat → Nat → Int} (h : RwM me m E) (hm : m ≤ 9) (hB : Bd m E) {k r : Nat} (hk : k < 3) (hr : r < m) (k2 : ME × Int32 → Option (Int32 × ME)) : lpn (mX10_isOpen_L29 S1 91 (iv k) k2) lpF (me, iv r, 0) = @ite _ (∃ s a, s < r ∧ a < 3 ∧ B37 E k r s a) (Classical.propDecidable _) (some (0, me)) (k2 (me, iv ((r + 1 : Nat) : Int))) := by
  refine lpn_ix (P := fun s x => x = (me, iv r, iv s) ∧ ∀ s' a, s' < s → a < 3 → ¬ B37 E k r s' a) (e := r) ?_ r 0 lpF _ (by omega) (by unfold lpF; omega) ⟨rfl, fun s' a hb => by omega⟩
  rintro s x kk hs ⟨rfl, hz⟩
  unfold mX10_isOpen_L29 mX10_isOpen_j132
  simp only [show (1 : Int32) = iv 1 from rfl, iv_add]
  by_cases e : s = r
  · right
    subst e
    rw [if_pos (show iv s ≤ iv s by rw [iv_le (by omega) (by omega) (by omega) (by omega)]; omega), if_neg (fun ⟨s', a, q1, q2, q3⟩ => hz s' a q1 q2 q3)]
    rfl
  · rw [if_neg (show ¬ iv r ≤ iv s by rw [iv_le (by omega) (by omega) (by omega) (by omega)]; omega), O37_v h hm hB hk hr (show s < m by omega)]
    by_cases c : ∃ a, a < 3 ∧ B37 E k r s a
    · right
      obtain ⟨a, q1, q2⟩ := id c
      rw [if_pos c, if_pos (⟨s, a, by omega, q1, q2⟩ : ∃ s a, s < r ∧ a < 3 ∧ B37 E k r s a)]
    · left
      rw [if_neg c]
      refine ⟨by omega, _, ⟨rfl, fun s' a h1 h2 q => ?_⟩, rfl⟩
      by_cases e2 : s' = s
      · subst e2; exact c ⟨a, h2, q⟩
      · exact hz s' a (by omega) h2 q
def B2 (E : Nat → Nat → Int) (k r : Nat) : Prop := (k = 0 ∧ E r 3 ≠ 0) ∨ ∃ s a, s < r ∧ a < 3 ∧ B37 E k r s a
theorem B2_Op {m k : Nat} {E : Nat → Nat → Int} (hk : k < 3) : (∀ r, r < m → ¬ B2 E k r) ↔ Op k m E := by
  constructor
  · intro hz
    rcases (show k = 0 ∨ k = 1 ∨ k = 2 by omega) with rfl | rfl | rfl
    · exact Or.inl ⟨rfl, fun r hr => Classical.byContradiction fun q => hz r hr (Or.inl ⟨rfl, q⟩)⟩
    · refine Or.inr (Or.inl ⟨rfl, fun r s a hr hs ha => Classical.byContradiction fun q => ?_⟩)
      rcases Nat.lt_trichotomy s r with c | c | c
      · exact hz r hr (Or.inr ⟨s, a, c, ha, Or.inl ⟨rfl, q⟩⟩)
      · rw [c] at q; exact q (d2_uu _ _ _)
      · refine hz s hs (Or.inr ⟨r, a, c, ha, Or.inl ⟨rfl, ?_⟩⟩)
        have : d2 (E s) (E r) a 3 = -d2 (E r) (E s) a 3 := by unfold d2; grind
        omega
    · refine Or.inr (Or.inr ⟨rfl, fun r s t a b hr hs ht ha hb => Classical.byContradiction fun q => ?_⟩)
      have key : ∀ r s t a b, t < s → s < r → r < m → b < a → a < 3 → d3 (E r) (E s) (E t) b a 3 = 0 := fun r s t a b q1 q2 q3 q4 q5 => Classical.byContradiction fun q => hz r q3 (Or.inr ⟨s, a, q2, q5, Or.inr ⟨t, b, q1, q4, rfl, q⟩⟩)
      have key2 : ∀ r s t a b, t < s → s < r → r < m → a < 3 → b < 3 → d3 (E r) (E s) (E t) b a 3 = 0 := fun r s t a b q1 q2 q3 q4 q5 => by
        rcases Nat.lt_trichotomy b a with c | c | c
        · exact key r s t a b q1 q2 q3 c q4
        · rw [c]; unfold d3; grind
        · have e : d3 (E r) (E s) (E t) b a 3 = -d3 (E r) (E s) (E t) a b 3 := by unfold d3; grind
          rw [e, key r s t b a q1 q2 q3 c q5]; rfl
      have sw1 : ∀ u v w : Nat → Int, d3 v u w b a 3 = -d3 u v w b a 3 := fun u v w => by unfold d3; grind
      have sw2 : ∀ u v w : Nat → Int, d3 u w v b a 3 = -d3 u v w b a 3 := fun u v w => by unfold d3; grind
      have n1 : r ≠ s := fun e => q (by rw [e]; unfold d3; grind)
      have n2 : r ≠ t := fun e => q (by rw [e]; unfold d3; grind)
      have n3 : s ≠ t := fun e => q (by rw [e]; unfold d3; grind)
      apply q
      by_cases c1 : s < r
      · by_cases c2 : t < s
        · exact key2 r s t a b c2 c1 hr ha hb
        · by_cases c3 : t < r
          · rw [sw2 (E r) (E t) (E s), key2 r t s a b (by omega) c3 hr ha hb]; rfl
          · rw [sw2 (E r) (E t) (E s), sw1 (E t) (E r) (E s), key2 t r s a b (by omega) (by omega) ht ha hb]; rfl
      · by_cases c2 : t < r
        · rw [sw1 (E s) (E r) (E t), key2 s r t a b c2 (by omega) hs ha hb]; rfl
        · by_cases c3 : t < s
          · rw [sw1 (E s) (E r) (E t), sw2 (E s) (E t) (E r), key2 s t r a b (by omega) (by omega) hs ha hb]; rfl
          · rw [sw1 (E s) (E r) (E t), sw2 (E s) (E t) (E r), sw1 (E t) (E s) (E r), key2 t s r a b (by omega) (by omega) ht ha hb]; rfl
  · rintro (⟨e, hz⟩ | ⟨e, hz⟩ | ⟨e, hz⟩)
    · subst e
      rintro r hr (⟨-, q⟩ | ⟨s, a, q1, q2, ⟨q3, -⟩ | ⟨t, b, -, -, q3, -⟩⟩)
      · exact q (hz r hr)
      · omega
      · omega
    · subst e
      rintro r hr (⟨q, -⟩ | ⟨s, a, q1, q2, ⟨-, q3⟩ | ⟨t, b, -, -, q3, -⟩⟩)
      · omega
      · exact q3 (hz r s a hr (by omega) q2)
      · omega
    · subst e
      rintro r hr (⟨q, -⟩ | ⟨s, a, q1, q2, ⟨q3, -⟩ | ⟨t, b, q3, q4, -, q5⟩⟩)
      · omega
      · omega
      · exact q5 (hz r s t a b hr (by omega) (by omega) q2 (by omega))
theorem isOpen_v {me : ME} {m : Nat} {E : Nat → Nat → Int} (h : RwM me m E) (hm : m ≤ 9) (hB : Bd m E) {k : Nat} (hk : k < 3) : mX10_isOpen S1 me 91 (iv k) = some (@ite _ (Op k m E) (Classical.propDecidable _) 1 0, me) := by
  unfold mX10_isOpen
  refine lpn_ix (P := fun r x => x = (me, iv r) ∧ ∀ r', r' < r → ¬ B2 E k r') (e := m) ?_ m 0 lpF _ (by omega) (by unfold lpF; omega) ⟨rfl, fun r' hb => by omega⟩
  rintro r x kk hr ⟨rfl, hz⟩
  unfold mX10_isOpen_L2 mX10_isOpen_j138 mX10_isOpen_j25 mX10_isOpen_j27
  simp only [gI_k kS_91, bs, h.1]
  by_cases e : r = m
  · right
    subst e
    rw [if_pos (show iv r ≤ iv r by rw [iv_le (by omega) (by omega) (by omega) (by omega)]; omega), if_pos ((B2_Op hk).mp hz)]
  · have hr2 : r < m := by omega
    have no : B2 E k r → ¬ Op k m E := fun q o => (B2_Op hk).mpr o r hr2 q
    rw [if_neg (show ¬ iv m ≤ iv r by rw [iv_le (by omega) (by omega) (by omega) (by omega)]; omega)]
    have t3 : mX10_cellAt S1 me 91 (iv r) 3 = some (jv (E r 3), me) := cell_v h hm hr2 (j := 3) (by omega)
    have hb := hB.any hr2 (show 3 ≤ 3 by omega)
    simp only [ck_s kS_91, bs, t3, lg_z (show (E r 3).natAbs ≤ 9000000000000000000 by omega), O29_v h hm hB hk hr2]
    by_cases c1 : k = 0 ∧ E r 3 ≠ 0
    · right
      rw [if_pos (show iv k = 0 by rw [c1.1]; rfl), if_neg c1.2, if_neg (no (Or.inl c1))]
    · have e1 : ∀ X : Option (Int32 × ME), (if iv k = 0 then if E r 3 = 0 then X else some (0, me) else X) = X := fun X => by
        by_cases q : k = 0
        · rw [if_pos (show iv k = 0 by rw [q]; rfl)]
          by_cases z : E r 3 = 0
          · rw [if_pos z]
          · exact absurd ⟨q, z⟩ c1
        · rw [if_neg (show ¬ iv k = 0 by rw [show (0 : Int32) = iv 0 from rfl, iv_eq (by omega) (by omega) (by omega) (by omega)]; omega)]
      rw [e1]
      by_cases c : ∃ s a, s < r ∧ a < 3 ∧ B37 E k r s a
      · right
        rw [if_pos c, if_neg (no (Or.inr c))]
      · left
        rw [if_neg c]
        refine ⟨by omega, _, ⟨rfl, fun r' h1 q => ?_⟩, rfl⟩
        by_cases e2 : r' = r
        · subst e2; exact q.elim c1 c
        · exact hz r' (by omega) q
def SvM (me : ME) (X Y T D : Int) : Prop := me.2 91 24 = jv X ∧ me.2 91 25 = jv Y ∧ me.2 91 26 = jv T ∧ me.2 91 27 = jv D
theorem RwM.keep {me me1 : ME} {m : Nat} {E : Nat → Nat → Int} (h : RwM me m E) (h1 : me1.1 91 22 = me.1 91 22) (h2 : me1.2 103 = me.2 103) : RwM me1 m E := ⟨by rw [h1]; exact h.1, fun r j hr hj => by rw [h2]; exact h.2 r j hr hj⟩
theorem M_solves {me : ME} {m : Nat} {E : Nat → Nat → Int} (h : RwM me m E) (hm : m ≤ 9) (hB : Bd m E) (h3 : N3 m E) : ∃ (me1 : ME) (r s t : Nat), mX10_solves S1 me 91 = some ((), me1) ∧ t < s ∧ s < r ∧ r < m ∧ d3 (E r) (E s) (E t) 0 1 2 ≠ 0 ∧ SvM me1 (sgn (d3 (E r) (E s) (E t) 0 1 2) * d3 (E r) (E s) (E t) 3 1 2) (sgn (d3 (E r) (E s) (E t) 0 1 2) * d3 (E r) (E s) (E t) 0 3 2) (sgn (d3 (E r) (E s) (E t) 0 1 2) * d3 (E r) (E s) (E t) 0 1 3) (sgn (d3 (E r) (E s) (E t) 0 1 2) * d3 (E r) (E s) (E t) 0 1 2) ∧ me1.1 = me.1 ∧ ∀ i, i ≠ 91 → me1.2 i = me.2 i := by
  let Q : Option (Unit × ME) → Prop := fun X => ∃ (me1 : ME) (r s t : Nat), X = some ((), me1) ∧ t < s ∧ s < r ∧ r < m ∧ d3 (E r) (E s) (E t) 0 1 2 ≠ 0 ∧ SvM me1 (sgn (d3 (E r) (E s) (E t) 0 1 2) * d3 (E r) (E s) (E t) 3 1 2) (sgn (d3 (E r) (E s) (E t) 0 1 2) * d3 (E r) (E s) (E t) 0 3 2) (sgn (d3 (E r) (E s) (E t) 0 1 2) * d3 (E r) (E s) (E t) 0 1 3) (sgn (d3 (E r) (E s) (E t) 0 1 2) * d3 (E r) (E s) (E t) 0 1 2) ∧ me1.1 = me.1 ∧ ∀ i, i ≠ 91 → me1.2 i = me.2 i
  show Q (mX10_solves S1 me 91)
  have fin : ∀ r s t, t < s → s < r → r < m → d3 (E r) (E s) (E t) 0 1 2 ≠ 0 → Q (mX10_solves_j43 S1 91 me (iv r) (iv s) (iv t) (jv (d3 (E r) (E s) (E t) 0 1 2))) := fun r s t q1 q2 q3 q4 => by
    have hs : s < m := by omega
    have ht : t < m := by omega
    have b0 := d3_any hB q3 hs ht (show 0 ≤ 3 by omega) (show 1 ≤ 3 by omega) (show 2 ≤ 3 by omega)
    let g := sgn (d3 (E r) (E s) (E t) 0 1 2)
    refine ⟨(me.1, up2 (up2 (up2 (up2 me.2 91 27 (jv (g * d3 (E r) (E s) (E t) 0 1 2))) 91 24 (jv (g * d3 (E r) (E s) (E t) 3 1 2))) 91 25 (jv (g * d3 (E r) (E s) (E t) 0 3 2))) 91 26 (jv (g * d3 (E r) (E s) (E t) 0 1 3))), r, s, t, ?_, q1, q2, q3, q4, ⟨?_, ?_, ?_, ?_⟩, rfl, fun i hi => ?_⟩
    · have j57 : mX10_solves_j57 S1 91 me (iv r) (iv s) (iv t) (jv (d3 (E r) (E s) (E t) 0 1 2)) (jv g) = some ((), (me.1, up2 (up2 (up2 (up2 me.2 91 27 (jv (g * d3 (E r) (E s) (E t) 0 1 2))) 91 24 (jv (g * d3 (E r) (E s) (E t) 3 1 2))) 91 25 (jv (g * d3 (E r) (E s) (E t) 0 3 2))) 91 26 (jv (g * d3 (E r) (E s) (E t) 0 1 3)))) := by
        have rw' : ∀ f : Nat → Nat → Int64, f 103 = me.2 103 → RwM (me.1, f) m E := fun f hf => h.keep rfl hf
        have T1 : ∀ f : Nat → Nat → Int64, f 103 = me.2 103 → mX10_three S1 (me.1, f) 91 (iv r) (iv s) (iv t) 3 1 2 = some (jv (d3 (E r) (E s) (E t) 3 1 2), (me.1, f)) := fun f hf => three_v (rw' f hf) hm q3 hs ht (a := 3) (b := 1) (c := 2) (by omega) (by omega) (by omega)
        have T2 : ∀ f : Nat → Nat → Int64, f 103 = me.2 103 → mX10_three S1 (me.1, f) 91 (iv r) (iv s) (iv t) 0 3 2 = some (jv (d3 (E r) (E s) (E t) 0 3 2), (me.1, f)) := fun f hf => three_v (rw' f hf) hm q3 hs ht (a := 0) (b := 3) (c := 2) (by omega) (by omega) (by omega)
        have T3 : ∀ f : Nat → Nat → Int64, f 103 = me.2 103 → mX10_three S1 (me.1, f) 91 (iv r) (iv s) (iv t) 0 1 3 = some (jv (d3 (E r) (E s) (E t) 0 1 3), (me.1, f)) := fun f hf => three_v (rw' f hf) hm q3 hs ht (a := 0) (b := 1) (c := 3) (by omega) (by omega) (by omega)
        unfold mX10_solves_j57
        simp only [sJ_k kS_91, bs, ck_s kS_91, jv_mul]
        rw [T1 _ (up2_r _ _ _ (by decide))]
        simp only [bs, sJ_k kS_91, ck_s kS_91, jv_mul]
        rw [T2 _ (by rw [up2_r _ _ _ (by decide), up2_r _ _ _ (by decide)])]
        simp only [bs, sJ_k kS_91, ck_s kS_91, jv_mul]
        rw [T3 _ (by rw [up2_r _ _ _ (by decide), up2_r _ _ _ (by decide), up2_r _ _ _ (by decide)])]
        simp only [bs, sJ_k kS_91, jv_mul]
      rw [← j57]
      unfold mX10_solves_j43
      by_cases cs : d3 (E r) (E s) (E t) 0 1 2 < 0
      · rw [if_neg (by rw [show (0 : Int64) = jv 0 from rfl, lg_ge0 (by omega) (by omega) (by omega) (by omega)]; omega), show g = -1 from if_pos cs]; rfl
      · rw [if_pos (by rw [show (0 : Int64) = jv 0 from rfl, lg_ge0 (by omega) (by omega) (by omega) (by omega)]; omega), show g = 1 from if_neg cs]; rfl
    · show up2 (up2 (up2 (up2 me.2 91 27 (jv (g * d3 (E r) (E s) (E t) 0 1 2))) 91 24 (jv (g * d3 (E r) (E s) (E t) 3 1 2))) 91 25 (jv (g * d3 (E r) (E s) (E t) 0 3 2))) 91 26 (jv (g * d3 (E r) (E s) (E t) 0 1 3)) 91 24 = _
      rw [up2_k _ _ _ _ (by decide), up2_k _ _ _ _ (by decide), up2_s]
    · show up2 (up2 (up2 (up2 me.2 91 27 (jv (g * d3 (E r) (E s) (E t) 0 1 2))) 91 24 (jv (g * d3 (E r) (E s) (E t) 3 1 2))) 91 25 (jv (g * d3 (E r) (E s) (E t) 0 3 2))) 91 26 (jv (g * d3 (E r) (E s) (E t) 0 1 3)) 91 25 = _
      rw [up2_k _ _ _ _ (by decide), up2_s]
    · show up2 (up2 (up2 (up2 me.2 91 27 (jv (g * d3 (E r) (E s) (E t) 0 1 2))) 91 24 (jv (g * d3 (E r) (E s) (E t) 3 1 2))) 91 25 (jv (g * d3 (E r) (E s) (E t) 0 3 2))) 91 26 (jv (g * d3 (E r) (E s) (E t) 0 1 3)) 91 26 = _
      rw [up2_s]
    · show up2 (up2 (up2 (up2 me.2 91 27 (jv (g * d3 (E r) (E s) (E t) 0 1 2))) 91 24 (jv (g * d3 (E r) (E s) (E t) 3 1 2))) 91 25 (jv (g * d3 (E r) (E s) (E t) 0 3 2))) 91 26 (jv (g * d3 (E r) (E s) (E t) 0 1 3)) 91 27 = _
      rw [up2_k _ _ _ _ (by decide), up2_k _ _ _ _ (by decide), up2_k _ _ _ _ (by decide), up2_s]
    · show up2 (up2 (up2 (up2 me.2 91 27 (jv (g * d3 (E r) (E s) (E t) 0 1 2))) 91 24 (jv (g * d3 (E r) (E s) (E t) 3 1 2))) 91 25 (jv (g * d3 (E r) (E s) (E t) 0 3 2))) 91 26 (jv (g * d3 (E r) (E s) (E t) 0 1 3)) i = _
      rw [up2_r _ _ _ hi, up2_r _ _ _ hi, up2_r _ _ _ hi, up2_r _ _ _ hi]
  have t012 : ∀ r s t, r < m → s < m → t < m → mX10_three S1 me 91 (iv r) (iv s) (iv t) 0 1 2 = some (jv (d3 (E r) (E s) (E t) 0 1 2), me) := fun r s t hr hs ht => three_v h hm hr hs ht (a := 0) (b := 1) (c := 2) (by omega) (by omega) (by omega)
  -- the innermost
  have i19 : ∀ r s, s < r → r < m → ∀ k2 k12, (lpn (mX10_solves_L19 S1 91 k2 k12) lpF (me, iv r, iv s, 0) = k12 (me, iv r, iv ((s + 1 : Nat) : Int)) ∧ ∀ t, t < s → d3 (E r) (E s) (E t) 0 1 2 = 0) ∨ Q (lpn (mX10_solves_L19 S1 91 k2 k12) lpF (me, iv r, iv s, 0)) := by
    intro r s hsr hr k2 k12
    refine lpn_X (Q := fun X => (X = k12 (me, iv r, iv ((s + 1 : Nat) : Int)) ∧ ∀ t, t < s → d3 (E r) (E s) (E t) 0 1 2 = 0) ∨ Q X) (P := fun t x => x = (me, iv r, iv s, iv t) ∧ ∀ t', t' < t → d3 (E r) (E s) (E t') 0 1 2 = 0) (e := s) ?_ s 0 lpF _ (by omega) (by unfold lpF; omega) ⟨rfl, fun t' h' => by omega⟩
    rintro t x kk ht ⟨rfl, hz⟩
    unfold mX10_solves_L19 mX10_solves_j126
    simp only [show (1 : Int32) = iv 1 from rfl, iv_add]
    by_cases e : t = s
    · right; left
      subst e
      rw [if_pos (show iv t ≤ iv t by rw [iv_le (by omega) (by omega) (by omega) (by omega)]; omega)]
      exact ⟨rfl, hz⟩
    · rw [if_neg (show ¬ iv s ≤ iv t by rw [iv_le (by omega) (by omega) (by omega) (by omega)]; omega), show iv 1 = (1 : Int32) from rfl]
      simp only [ck_s kS_91, bs, t012 r s t hr (by omega) (by omega), lg_z (d3_any hB hr (show s < m by omega) (show t < m by omega) (show 0 ≤ 3 by omega) (show 1 ≤ 3 by omega) (show 2 ≤ 3 by omega))]
      by_cases z : d3 (E r) (E s) (E t) 0 1 2 = 0
      · left
        rw [if_pos z]
        refine ⟨by omega, _, ⟨rfl, fun t' h' => ?_⟩, rfl⟩
        by_cases e2 : t' = t
        · subst e2; exact z
        · exact hz t' (by omega)
      · right; right
        rw [if_neg z]
        exact fin r s t (by omega) hsr hr z
  have i12 : ∀ r, r < m → ∀ k2, (lpn (mX10_solves_L12 S1 91 k2) lpF (me, iv r, 0) = k2 (me, iv ((r + 1 : Nat) : Int)) ∧ ∀ s t, s < r → t < s → d3 (E r) (E s) (E t) 0 1 2 = 0) ∨ Q (lpn (mX10_solves_L12 S1 91 k2) lpF (me, iv r, 0)) := by
    intro r hr k2
    refine lpn_X (Q := fun X => (X = k2 (me, iv ((r + 1 : Nat) : Int)) ∧ ∀ s t, s < r → t < s → d3 (E r) (E s) (E t) 0 1 2 = 0) ∨ Q X) (P := fun s x => x = (me, iv r, iv s) ∧ ∀ s' t, s' < s → t < s' → d3 (E r) (E s') (E t) 0 1 2 = 0) (e := r) ?_ r 0 lpF _ (by omega) (by unfold lpF; omega) ⟨rfl, fun s' t h' => by omega⟩
    rintro s x kk hs ⟨rfl, hz⟩
    unfold mX10_solves_L12 mX10_solves_j132
    simp only [show (1 : Int32) = iv 1 from rfl, iv_add]
    by_cases e : s = r
    · right; left
      subst e
      rw [if_pos (show iv s ≤ iv s by rw [iv_le (by omega) (by omega) (by omega) (by omega)]; omega)]
      exact ⟨rfl, hz⟩
    · rw [if_neg (show ¬ iv r ≤ iv s by rw [iv_le (by omega) (by omega) (by omega) (by omega)]; omega)]
      rcases i19 r s (by omega) hr k2 kk with ⟨q1, q2⟩ | q
      · left
        refine ⟨by omega, _, ⟨rfl, fun s' t h1 h2 => ?_⟩, q1⟩
        by_cases e2 : s' = s
        · subst e2; exact q2 t h2
        · exact hz s' t (by omega) h2
      · right; right; exact q
  unfold mX10_solves
  refine lpn_X (Q := Q) (P := fun r x => x = (me, iv r) ∧ ∀ r' s t, r' < r → s < r' → t < s → d3 (E r') (E s) (E t) 0 1 2 = 0) (e := m) ?_ m 0 lpF _ (by omega) (by unfold lpF; omega) ⟨rfl, fun r' s t h' => by omega⟩
  rintro r x kk hr ⟨rfl, hz⟩
  unfold mX10_solves_L2
  simp only [gI_k kS_91, bs, h.1]
  by_cases e : r = m
  · obtain ⟨r', s, t, q1, q2, q3, q4⟩ := N3_sort h3
    exact absurd (hz r' s t (by omega) q2 q1) q4
  · rw [if_neg (show ¬ iv m ≤ iv r by rw [iv_le (by omega) (by omega) (by omega) (by omega)]; omega)]
    rcases i12 r (by omega) kk with ⟨q1, q2⟩ | q
    · left
      refine ⟨by omega, _, ⟨rfl, fun r' s t h1 h2 h3 => ?_⟩, q1⟩
      by_cases e2 : r' = r
      · subst e2; exact q2 s t h2 h3
      · exact hz r' s t (by omega) h2 h3
    · right; exact q
