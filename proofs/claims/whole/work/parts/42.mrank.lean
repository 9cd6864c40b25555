/-! ===== the model: rank ===== -/
theorem iteC {α : Type} {p q : Prop} (h : p = q) (x y : α) : @ite α p (Classical.propDecidable p) x y = @ite α q (Classical.propDecidable q) x y := by subst h; rfl
def Good (m : Nat) (E : Nat → Nat → Int) (ρ : Nat) : Prop := ρ ≤ 3 ∧ (ρ = 1 → N1 m E) ∧ (ρ = 2 → N2 m E) ∧ (ρ = 3 → N3 m E)
theorem d3_210 (u v w : Nat → Int) : d3 u v w 2 1 0 = -d3 u v w 0 1 2 := by unfold d3; grind
theorem L113_v {me : ME} {m : Nat} {E : Nat → Nat → Int} (h : RwM me m E) (hm : m ≤ 9) (hB : Bd m E) {r s t a b : Nat} (hr : r < m) (hs : s < m) (ht : t < m) (ha : a < 3) (hb : b < 3) (a0 : Int32) (k9 : ME × Int32 × Int32 → Option (Int32 × ME)) (k20 : ME × Int32 × Int32 × Int32 → Option (Int32 × ME)) (k52 : ME × Int32 × Int32 × Int32 × Int32 → Option (Int32 × ME)) (k61 : ME × Int32 × Int32 × Int32 × Int32 × Int32 → Option (Int32 × ME)) (k98 : ME × Int32 × Int32 × Int32 × Int32 × Int32 × Int32 → Option (Int32 × ME)) (ρ : Nat) : lpn (mX10_rankOf_L113 S1 91 a0 k9 k20 k52 k61 k98) lpF (me, iv ρ, iv r, iv a, iv s, iv b, iv t, 0) = k98 (me, iv ((@ite _ (∃ c, c < b ∧ d3 (E r) (E s) (E t) a b c ≠ 0) (Classical.propDecidable _) 3 ρ : Nat) : Int), iv r, iv a, iv s, iv b, iv ((t + 1 : Nat) : Int)) := by
  refine lpn_up (P := fun c x => x = (me, iv ((@ite _ (∃ c', c' < c ∧ d3 (E r) (E s) (E t) a b c' ≠ 0) (Classical.propDecidable _) 3 ρ : Nat) : Int), iv r, iv a, iv s, iv b, iv t, iv c)) (e := b) ?_ ?_ b 0 lpF _ (by omega) (by unfold lpF; omega) ?_
  · rintro c x kk hc rfl
    refine ⟨_, rfl, ?_⟩
    unfold mX10_rankOf_L113 mX10_rankOf_j145
    simp only []
    rw [if_neg (show ¬ iv b ≤ iv c by rw [iv_le (by omega) (by omega) (by omega) (by omega)]; omega)]
    simp only [ck_s kS_91, bs, three_v h hm hr hs ht (show a ≤ 3 by omega) (show b ≤ 3 by omega) (show c ≤ 3 by omega), lg_z (d3_any hB hr hs ht (show a ≤ 3 by omega) (show b ≤ 3 by omega) (show c ≤ 3 by omega)), show (1 : Int32) = iv 1 from rfl, iv_add]
    by_cases z : d3 (E r) (E s) (E t) a b c = 0
    · rw [if_pos z]
      have e : (∃ c', c' < c + 1 ∧ d3 (E r) (E s) (E t) a b c' ≠ 0) = (∃ c', c' < c ∧ d3 (E r) (E s) (E t) a b c' ≠ 0) := by
        apply propext
        constructor
        · rintro ⟨c', h1, h2⟩
          by_cases e : c' = c
          · subst e; exact absurd z h2
          · exact ⟨c', by omega, h2⟩
        · rintro ⟨c', h1, h2⟩; exact ⟨c', by omega, h2⟩
      rw [iteC e]
      rfl
    · rw [if_neg z, if_pos (⟨c, by omega, z⟩ : ∃ c', c' < c + 1 ∧ d3 (E r) (E s) (E t) a b c' ≠ 0)]
      rfl
  · rintro x kk rfl
    unfold mX10_rankOf_L113 mX10_rankOf_j152
    simp only [show (1 : Int32) = iv 1 from rfl, iv_add]
    rw [if_pos (show iv b ≤ iv b by rw [iv_le (by omega) (by omega) (by omega) (by omega)]; omega)]
    rfl
  · have : ¬ ∃ c', c' < 0 ∧ d3 (E r) (E s) (E t) a b c' ≠ 0 := fun ⟨c', h1, _⟩ => by omega
    rw [if_neg this]
    rfl
theorem L98_v {me : ME} {m : Nat} {E : Nat → Nat → Int} (h : RwM me m E) (hm : m ≤ 9) (hB : Bd m E) {r s a b : Nat} (hr : r < m) (hs : s < m) (ha : a < 3) (hb : b < 3) (a0 : Int32) (k9 : ME × Int32 × Int32 → Option (Int32 × ME)) (k20 : ME × Int32 × Int32 × Int32 → Option (Int32 × ME)) (k52 : ME × Int32 × Int32 × Int32 × Int32 → Option (Int32 × ME)) (k61 : ME × Int32 × Int32 × Int32 × Int32 × Int32 → Option (Int32 × ME)) (ρ : Nat) (hρ : ρ ≤ 3) : lpn (mX10_rankOf_L98 S1 91 a0 k9 k20 k52 k61) lpF (me, iv ρ, iv r, iv a, iv s, iv b, 0) = k61 (me, iv ((@ite _ (∃ t c, t < s ∧ c < b ∧ d3 (E r) (E s) (E t) a b c ≠ 0) (Classical.propDecidable _) 3 ρ : Nat) : Int), iv r, iv a, iv s, iv ((b + 1 : Nat) : Int)) := by
  refine lpn_ix (P := fun t x => x = (me, iv ((@ite _ (∃ t' c, t' < t ∧ c < b ∧ d3 (E r) (E s) (E t') a b c ≠ 0) (Classical.propDecidable _) 3 ρ : Nat) : Int), iv r, iv a, iv s, iv b, iv t)) (e := s) ?_ s 0 lpF _ (by omega) (by unfold lpF; omega) ?_
  · rintro t x kk ht rfl
    unfold mX10_rankOf_L98 mX10_rankOf_j158
    simp only [show (1 : Int32) = iv 1 from rfl, show (3 : Int32) = iv 3 from rfl, iv_add]
    by_cases e : t = s
    · right
      subst e
      rw [if_pos (show iv t ≤ iv t by rw [iv_le (by omega) (by omega) (by omega) (by omega)]; omega)]
      rfl
    · rw [if_neg (show ¬ iv s ≤ iv t by rw [iv_le (by omega) (by omega) (by omega) (by omega)]; omega)]
      by_cases c3 : ∃ t' c, t' < t ∧ c < b ∧ d3 (E r) (E s) (E t') a b c ≠ 0
      · right
        obtain ⟨t', c, q1, q2, q3⟩ := id c3
        rw [if_pos c3, if_pos (by decide), if_pos (⟨t', c, by omega, q2, q3⟩ : ∃ t' c, t' < s ∧ c < b ∧ d3 (E r) (E s) (E t') a b c ≠ 0)]
        rfl
      · rw [if_neg c3]
        by_cases r3 : ρ = 3
        · right
          subst r3
          rw [if_pos (by decide)]
          split <;> rfl
        · left
          rw [if_neg (show ¬ iv 3 ≤ iv ρ by rw [iv_le (by omega) (by omega) (by omega) (by omega)]; omega)]
          refine ⟨by omega, _, rfl, ?_⟩
          rw [L113_v h hm hB hr hs (show t < m by omega) ha hb]
          have ee : (∃ c, c < b ∧ d3 (E r) (E s) (E t) a b c ≠ 0) = (∃ t' c, t' < t + 1 ∧ c < b ∧ d3 (E r) (E s) (E t') a b c ≠ 0) := by
            apply propext
            constructor
            · rintro ⟨c, q1, q2⟩; exact ⟨t, c, by omega, q1, q2⟩
            · rintro ⟨t', c, q1, q2, q3⟩
              by_cases e2 : t' = t
              · subst e2; exact ⟨c, q2, q3⟩
              · exact absurd ⟨t', c, by omega, q2, q3⟩ c3
          rw [iteC ee]
  · have : ¬ ∃ t' c, t' < 0 ∧ c < b ∧ d3 (E r) (E s) (E t') a b c ≠ 0 := fun ⟨t', _, h1, _⟩ => by omega
    rw [if_neg this]
    rfl
/-- what the loops over s and b tell of r and a -/
def F2 (E : Nat → Nat → Int) (r a s b ρ : Nat) : Prop := (d2 (E r) (E s) a b ≠ 0 → 2 ≤ ρ) ∧ ∀ t c, t < s → c < b → d3 (E r) (E s) (E t) a b c ≠ 0 → 3 ≤ ρ
theorem F2.up {E : Nat → Nat → Int} {r a s b ρ ρ' : Nat} (h : F2 E r a s b ρ) (hl : ρ ≤ ρ') : F2 E r a s b ρ' := ⟨fun q => Nat.le_trans (h.1 q) hl, fun t c q1 q2 q3 => Nat.le_trans (h.2 t c q1 q2 q3) hl⟩
theorem L61_v {me : ME} {m : Nat} {E : Nat → Nat → Int} (h : RwM me m E) (hm : m ≤ 9) (hB : Bd m E) {r s a : Nat} (hr : r < m) (hs : s < m) (ha : a < 3) (a0 : Int32) (k9 : ME × Int32 × Int32 → Option (Int32 × ME)) (k20 : ME × Int32 × Int32 × Int32 → Option (Int32 × ME)) (k52 : ME × Int32 × Int32 × Int32 × Int32 → Option (Int32 × ME)) (ρ : Nat) (hg : Good m E ρ) : ∃ ρ', lpn (mX10_rankOf_L61 S1 91 a0 k9 k20 k52) lpF (me, iv ρ, iv r, iv a, iv s, 0) = k52 (me, iv (ρ' : Nat), iv r, iv a, iv ((s + 1 : Nat) : Int)) ∧ ρ ≤ ρ' ∧ Good m E ρ' ∧ ∀ b, b < a → F2 E r a s b ρ' := by
  refine lpn_Q (Q := fun X => ∃ ρ', X = k52 (me, iv (ρ' : Nat), iv r, iv a, iv ((s + 1 : Nat) : Int)) ∧ ρ ≤ ρ' ∧ Good m E ρ' ∧ ∀ b, b < a → F2 E r a s b ρ') (P := fun b x => ∃ ρ' : Nat, x = (me, iv ρ', iv r, iv a, iv s, iv b) ∧ ρ ≤ ρ' ∧ Good m E ρ' ∧ ∀ b', b' < b → F2 E r a s b' ρ') (e := a) ?_ ?_ a 0 lpF _ (by omega) (by unfold lpF; omega) ⟨ρ, rfl, Nat.le_refl _, hg, fun b hb => by omega⟩
  · rintro b x kk hb ⟨ρ1, rfl, g1, g2, g3⟩
    have hρ1 := g2.1
    let ρ2 : Nat := @ite _ (ρ1 < 2 ∧ d2 (E r) (E s) a b ≠ 0) (Classical.propDecidable _) 2 ρ1
    let ρ3 : Nat := @ite _ (∃ t c, t < s ∧ c < b ∧ d3 (E r) (E s) (E t) a b c ≠ 0) (Classical.propDecidable _) 3 ρ2
    have h12 : ρ1 ≤ ρ2 := by
      show ρ1 ≤ @ite _ (ρ1 < 2 ∧ d2 (E r) (E s) a b ≠ 0) (Classical.propDecidable _) 2 ρ1
      split <;> omega
    have h2m : ρ2 ≤ 3 := by
      show @ite _ (ρ1 < 2 ∧ d2 (E r) (E s) a b ≠ 0) (Classical.propDecidable _) 2 ρ1 ≤ 3
      split <;> omega
    have h23 : ρ2 ≤ ρ3 := by
      show ρ2 ≤ @ite _ (∃ t c, t < s ∧ c < b ∧ d3 (E r) (E s) (E t) a b c ≠ 0) (Classical.propDecidable _) 3 ρ2
      split <;> omega
    have good2 : Good m E ρ2 := by
      by_cases c : ρ1 < 2 ∧ d2 (E r) (E s) a b ≠ 0
      · have : ρ2 = 2 := if_pos c
        rw [this]
        exact ⟨by omega, fun q => by omega, fun _ => ⟨r, s, a, b, hr, hs, ha, by omega, c.2⟩, fun q => by omega⟩
      · have : ρ2 = ρ1 := if_neg c
        rw [this]; exact g2
    have good3 : Good m E ρ3 := by
      by_cases c : ∃ t c, t < s ∧ c < b ∧ d3 (E r) (E s) (E t) a b c ≠ 0
      · have : ρ3 = 3 := if_pos c
        rw [this]
        obtain ⟨t, c, q1, q2, q3⟩ := c
        refine ⟨by omega, fun q => by omega, fun q => by omega, fun _ => ⟨r, s, t, hr, hs, by omega, ?_⟩⟩
        have e1 : a = 2 := by omega
        have e2 : b = 1 := by omega
        have e3 : c = 0 := by omega
        subst e1 e2 e3
        rw [d3_210] at q3
        omega
      · have : ρ3 = ρ2 := if_neg c
        rw [this]; exact good2
    refine ⟨(me, iv ρ3, iv r, iv a, iv s, iv ((b + 1 : Nat) : Int)), ⟨ρ3, rfl, by omega, good3, fun b' hb' => ?_⟩, ?_⟩
    · by_cases e : b' = b
      · subst e
        refine ⟨fun q => ?_, fun t c q1 q2 q3 => ?_⟩
        · by_cases c : ρ1 < 2 ∧ d2 (E r) (E s) a b' ≠ 0
          · have : ρ2 = 2 := if_pos c
            omega
          · have : 2 ≤ ρ1 := by
              rcases Nat.lt_or_ge ρ1 2 with q' | q'
              · exact absurd ⟨q', q⟩ c
              · exact q'
            omega
        · have : ρ3 = 3 := if_pos ⟨t, c, q1, q2, q3⟩
          omega
      · exact (g3 b' (by omega)).up (by omega)
    · have fin : lpn (mX10_rankOf_L98 S1 91 a0 k9 k20 k52 kk) lpF (me, iv ρ2, iv r, iv a, iv s, iv b, 0) = kk (me, iv ρ3, iv r, iv a, iv s, iv ((b + 1 : Nat) : Int)) := L98_v h hm hB hr hs ha (show b < 3 by omega) a0 k9 k20 k52 kk ρ2 h2m
      rw [← fin]
      unfold mX10_rankOf_L61 mX10_rankOf_j93 mX10_rankOf_j94
      simp only []
      rw [if_neg (show ¬ iv a ≤ iv b by rw [iv_le (by omega) (by omega) (by omega) (by omega)]; omega)]
      by_cases c2 : ρ1 < 2
      · rw [if_neg (show ¬ (2 : Int32) ≤ iv ρ1 by rw [show (2 : Int32) = iv 2 from rfl, iv_le (by omega) (by omega) (by omega) (by omega)]; omega)]
        simp only [ck_s kS_91, bs, two_v h hm hr hs (show a ≤ 3 by omega) (show b ≤ 3 by omega), lg_z (d2_any hB hr hs (show a ≤ 3 by omega) (show b ≤ 3 by omega))]
        by_cases z : d2 (E r) (E s) a b = 0
        · rw [if_pos z]
          have : ρ2 = ρ1 := if_neg (fun q => q.2 z)
          rw [this]
        · rw [if_neg z]
          have : ρ2 = 2 := if_pos ⟨c2, z⟩
          rw [this]
          rfl
      · rw [if_pos (show (2 : Int32) ≤ iv ρ1 by rw [show (2 : Int32) = iv 2 from rfl, iv_le (by omega) (by omega) (by omega) (by omega)]; omega)]
        have : ρ2 = ρ1 := if_neg (fun q => c2 q.1)
        rw [this]
  · rintro x kk ⟨ρ1, rfl, g1, g2, g3⟩
    refine ⟨ρ1, ?_, g1, g2, g3⟩
    unfold mX10_rankOf_L61 mX10_rankOf_j164
    simp only [show (1 : Int32) = iv 1 from rfl, iv_add]
    rw [if_pos (show iv a ≤ iv a by rw [iv_le (by omega) (by omega) (by omega) (by omega)]; omega)]
    rfl
theorem L52_v {me : ME} {m : Nat} {E : Nat → Nat → Int} (h : RwM me m E) (hm : m ≤ 9) (hB : Bd m E) {r a : Nat} (hr : r < m) (ha : a < 3) (a0 : Int32) (k9 : ME × Int32 × Int32 → Option (Int32 × ME)) (k20 : ME × Int32 × Int32 × Int32 → Option (Int32 × ME)) (ρ : Nat) (hg : Good m E ρ) : ∃ ρ', lpn (mX10_rankOf_L52 S1 91 a0 k9 k20) lpF (me, iv ρ, iv r, iv a, 0) = k20 (me, iv (ρ' : Nat), iv r, iv ((a + 1 : Nat) : Int)) ∧ ρ ≤ ρ' ∧ Good m E ρ' ∧ ∀ s b, s < r → b < a → F2 E r a s b ρ' := by
  refine lpn_Q (Q := fun X => ∃ ρ', X = k20 (me, iv (ρ' : Nat), iv r, iv ((a + 1 : Nat) : Int)) ∧ ρ ≤ ρ' ∧ Good m E ρ' ∧ ∀ s b, s < r → b < a → F2 E r a s b ρ') (P := fun s x => ∃ ρ' : Nat, x = (me, iv ρ', iv r, iv a, iv s) ∧ ρ ≤ ρ' ∧ Good m E ρ' ∧ ∀ s' b, s' < s → b < a → F2 E r a s' b ρ') (e := r) ?_ ?_ r 0 lpF _ (by omega) (by unfold lpF; omega) ⟨ρ, rfl, Nat.le_refl _, hg, fun s b hs => by omega⟩
  · rintro s x kk hs ⟨ρ1, rfl, g1, g2, g3⟩
    obtain ⟨ρ2, f1, f2, f3, f4⟩ := L61_v h hm hB hr (show s < m by omega) ha a0 k9 k20 kk ρ1 g2
    refine ⟨(me, iv ρ2, iv r, iv a, iv ((s + 1 : Nat) : Int)), ⟨ρ2, rfl, by omega, f3, fun s' b h1 h2 => ?_⟩, ?_⟩
    · by_cases e : s' = s
      · subst e; exact f4 b h2
      · exact (g3 s' b (by omega) h2).up f2
    · rw [← f1]
      unfold mX10_rankOf_L52
      simp only []
      rw [if_neg (show ¬ iv r ≤ iv s by rw [iv_le (by omega) (by omega) (by omega) (by omega)]; omega)]
  · rintro x kk ⟨ρ1, rfl, g1, g2, g3⟩
    refine ⟨ρ1, ?_, g1, g2, g3⟩
    unfold mX10_rankOf_L52 mX10_rankOf_j170
    simp only [show (1 : Int32) = iv 1 from rfl, iv_add]
    rw [if_pos (show iv r ≤ iv r by rw [iv_le (by omega) (by omega) (by omega) (by omega)]; omega)]
    rfl
def F1 (E : Nat → Nat → Int) (r a ρ : Nat) : Prop := (E r a ≠ 0 → 1 ≤ ρ) ∧ ∀ s b, s < r → b < a → F2 E r a s b ρ
theorem F1.up {E : Nat → Nat → Int} {r a ρ ρ' : Nat} (h : F1 E r a ρ) (hl : ρ ≤ ρ') : F1 E r a ρ' := ⟨fun q => Nat.le_trans (h.1 q) hl, fun s b h1 h2 => (h.2 s b h1 h2).up hl⟩
theorem L20_v {me : ME} {m : Nat} {E : Nat → Nat → Int} (h : RwM me m E) (hm : m ≤ 9) (hB : Bd m E) {r : Nat} (hr : r < m) (a0 : Int32) (k9 : ME × Int32 × Int32 → Option (Int32 × ME)) (ρ : Nat) (hg : Good m E ρ) : ∃ ρ', lpn (mX10_rankOf_L20 S1 91 a0 k9) lpF (me, iv ρ, iv r, 0) = k9 (me, iv (ρ' : Nat), iv ((r + 1 : Nat) : Int)) ∧ ρ ≤ ρ' ∧ Good m E ρ' ∧ ∀ a, a < 3 → F1 E r a ρ' := by
  refine lpn_Q (Q := fun X => ∃ ρ', X = k9 (me, iv (ρ' : Nat), iv ((r + 1 : Nat) : Int)) ∧ ρ ≤ ρ' ∧ Good m E ρ' ∧ ∀ a, a < 3 → F1 E r a ρ') (P := fun a x => ∃ ρ' : Nat, x = (me, iv ρ', iv r, iv a) ∧ ρ ≤ ρ' ∧ Good m E ρ' ∧ ∀ a', a' < a → F1 E r a' ρ') (e := 3) ?_ ?_ 3 0 lpF _ (by omega) (by unfold lpF; omega) ⟨ρ, rfl, Nat.le_refl _, hg, fun a ha => by omega⟩
  · rintro a x kk ha ⟨ρ1, rfl, g1, g2, g3⟩
    have hρ1 := g2.1
    have hb := hB.any hr (show a ≤ 3 by omega)
    let ρ2 : Nat := @ite _ (ρ1 < 1 ∧ E r a ≠ 0) (Classical.propDecidable _) 1 ρ1
    have h12 : ρ1 ≤ ρ2 := by
      show ρ1 ≤ @ite _ (ρ1 < 1 ∧ E r a ≠ 0) (Classical.propDecidable _) 1 ρ1
      split <;> omega
    have good2 : Good m E ρ2 := by
      by_cases c : ρ1 < 1 ∧ E r a ≠ 0
      · have : ρ2 = 1 := if_pos c
        rw [this]
        exact ⟨by omega, fun _ => ⟨r, a, hr, ha, c.2⟩, fun q => by omega, fun q => by omega⟩
      · have : ρ2 = ρ1 := if_neg c
        rw [this]; exact g2
    obtain ⟨ρ3, f1, f2, f3, f4⟩ := L52_v h hm hB hr ha a0 k9 kk ρ2 good2
    refine ⟨(me, iv ρ3, iv r, iv ((a + 1 : Nat) : Int)), ⟨ρ3, rfl, by omega, f3, fun a' h1 => ?_⟩, ?_⟩
    · by_cases e : a' = a
      · subst e
        refine ⟨fun q => ?_, f4⟩
        by_cases c : ρ1 < 1 ∧ E r a' ≠ 0
        · have : ρ2 = 1 := if_pos c
          omega
        · have : 1 ≤ ρ1 := by
            rcases Nat.lt_or_ge ρ1 1 with q' | q'
            · exact absurd ⟨q', q⟩ c
            · exact q'
          omega
      · exact (g3 a' (by omega)).up (by omega)
    · rw [← f1]
      unfold mX10_rankOf_L20 mX10_rankOf_j47 mX10_rankOf_j48
      simp only []
      rw [if_neg (show ¬ (3 : Int32) ≤ iv a by rw [show (3 : Int32) = iv 3 from rfl, iv_le (by omega) (by omega) (by omega) (by omega)]; omega)]
      by_cases c2 : ρ1 < 1
      · rw [if_neg (show ¬ (1 : Int32) ≤ iv ρ1 by rw [show (1 : Int32) = iv 1 from rfl, iv_le (by omega) (by omega) (by omega) (by omega)]; omega)]
        simp only [ck_s kS_91, bs, cell_v h hm hr (show a ≤ 3 by omega), lg_z (show (E r a).natAbs ≤ 9000000000000000000 by omega)]
        by_cases z : E r a = 0
        · rw [if_pos z]
          have : ρ2 = ρ1 := if_neg (fun q => q.2 z)
          rw [this]
        · rw [if_neg z]
          have : ρ2 = 1 := if_pos ⟨c2, z⟩
          rw [this]
          rfl
      · rw [if_pos (show (1 : Int32) ≤ iv ρ1 by rw [show (1 : Int32) = iv 1 from rfl, iv_le (by omega) (by omega) (by omega) (by omega)]; omega)]
        have : ρ2 = ρ1 := if_neg (fun q => c2 q.1)
        rw [this]
  · rintro x kk ⟨ρ1, rfl, g1, g2, g3⟩
    refine ⟨ρ1, ?_, g1, g2, g3⟩
    unfold mX10_rankOf_L20 mX10_rankOf_j176
    simp only [show (1 : Int32) = iv 1 from rfl, iv_add]
    rw [if_pos (by decide)]
    rfl
theorem N3_sort {m : Nat} {E : Nat → Nat → Int} (h : N3 m E) : ∃ r s t, t < s ∧ s < r ∧ r < m ∧ d3 (E r) (E s) (E t) 0 1 2 ≠ 0 := by
  obtain ⟨r, s, t, hr, hs, ht, hd⟩ := h
  have sw1 : ∀ u v w : Nat → Int, d3 v u w 0 1 2 = -d3 u v w 0 1 2 := fun u v w => by unfold d3; grind
  have sw2 : ∀ u v w : Nat → Int, d3 u w v 0 1 2 = -d3 u v w 0 1 2 := fun u v w => by unfold d3; grind
  have n1 : r ≠ s := fun e => hd (by rw [e]; unfold d3; grind)
  have n2 : r ≠ t := fun e => hd (by rw [e]; unfold d3; grind)
  have n3 : s ≠ t := fun e => hd (by rw [e]; unfold d3; grind)
  by_cases c1 : s < r
  · by_cases c2 : t < s
    · exact ⟨r, s, t, c2, c1, hr, hd⟩
    · by_cases c3 : t < r
      · exact ⟨r, t, s, by omega, c3, hr, by rw [sw2]; omega⟩
      · exact ⟨t, r, s, by omega, by omega, ht, by rw [sw1 (E r) (E t) (E s), sw2]; omega⟩
  · by_cases c2 : t < r
    · exact ⟨s, r, t, c2, by omega, hs, by rw [sw1]; omega⟩
    · by_cases c3 : t < s
      · exact ⟨s, t, r, by omega, by omega, hs, by rw [sw2 (E s) (E r) (E t), sw1]; omega⟩
      · exact ⟨t, s, r, by omega, by omega, ht, by rw [sw1 (E s) (E t) (E r), sw2 (E s) (E r) (E t), sw1]; omega⟩
theorem N2_sort {m : Nat} {E : Nat → Nat → Int} (h : N2 m E) : ∃ r s a b, s < r ∧ r < m ∧ b < a ∧ a < 3 ∧ d2 (E r) (E s) a b ≠ 0 := by
  obtain ⟨r, s, a, b, hr, hs, ha, hb, hd⟩ := h
  have sw1 : ∀ (u v : Nat → Int) (a b : Nat), d2 v u a b = -d2 u v a b := fun u v a b => by unfold d2; grind
  have sw2 : ∀ (u v : Nat → Int) (a b : Nat), d2 u v b a = -d2 u v a b := fun u v a b => by unfold d2; grind
  have n1 : r ≠ s := fun e => hd (by rw [e]; exact d2_uu _ _ _)
  have n2 : a ≠ b := fun e => hd (by rw [e]; unfold d2; grind)
  by_cases c1 : s < r
  · by_cases c2 : b < a
    · exact ⟨r, s, a, b, c1, hr, c2, ha, hd⟩
    · exact ⟨r, s, b, a, c1, hr, by omega, hb, by rw [sw2]; omega⟩
  · by_cases c2 : b < a
    · exact ⟨s, r, a, b, by omega, hs, c2, ha, by rw [sw1]; omega⟩
    · exact ⟨s, r, b, a, by omega, hs, by omega, hb, by rw [sw1, sw2]; omega⟩
theorem RK_le (m : Nat) (E : Nat → Nat → Int) : RK m E ≤ 3 := by
  unfold RK
  split
  · omega
  · split
    · omega
    · split <;> omega
theorem M_rank {me : ME} {A : AS} (hR : RepM me A) (hA : ASok A) {b : Nat} (hb : b < 512) (hf : fo A b < PN A) : ∃ me1 : ME, mX10_rankOf S1 me 91 (iv b) = some (iv (RK (mR A b) (eR A b)), me1) ∧ RwM me1 (mR A b) (eR A b) ∧ FrM me me1 ∧ me1.1 102 = me.1 102 ∧ (∀ k, k ≠ 22 → me1.1 91 k = me.1 91 k) ∧ me1.2 91 = me.2 91 := by
  have hn : PN A ≤ 9 := hA.2.2.1.1
  have hm : mR A b ≤ 9 := Nat.le_trans mR_lt hn
  obtain ⟨me1, a1, a2, a3⟩ := M_rows hR hA hb hf
  refine ⟨me1, ?_, a2, a3⟩
  have hB := eR_b hA b
  generalize mR A b = m at *
  generalize eR A b = E at *
  unfold mX10_rankOf
  simp only [ck_s kS_91, bs, a1]
  refine lpn_Q (Q := fun X => X = some (iv (RK m E), me1)) (P := fun r x => ∃ ρ' : Nat, x = (me1, iv ρ', iv r) ∧ Good m E ρ' ∧ ∀ r' a, r' < r → a < 3 → F1 E r' a ρ') (e := m) ?_ ?_ m 0 lpF _ (by omega) (by unfold lpF; omega) ⟨0, rfl, ⟨by omega, fun q => by omega, fun q => by omega, fun q => by omega⟩, fun r a hr => by omega⟩
  · rintro r x kk hr ⟨ρ1, rfl, g2, g3⟩
    obtain ⟨ρ2, f1, f2, f3, f4⟩ := L20_v a2 hm hB hr (iv b) kk ρ1 g2
    refine ⟨(me1, iv ρ2, iv ((r + 1 : Nat) : Int)), ⟨ρ2, rfl, f3, fun r' a h1 h2 => ?_⟩, ?_⟩
    · by_cases e : r' = r
      · subst e; exact f4 a h2
      · exact (g3 r' a (by omega) h2).up f2
    · rw [← f1]
      unfold mX10_rankOf_L9
      simp only [gI_k kS_91, bs, a2.1]
      rw [if_neg (show ¬ iv m ≤ iv r by rw [iv_le (by omega) (by omega) (by omega) (by omega)]; omega)]
  · rintro x kk ⟨ρ1, rfl, g2, g3⟩
    unfold mX10_rankOf_L9 mX10_rankOf_j182
    simp only [gI_k kS_91, bs, a2.1]
    rw [if_pos (show iv m ≤ iv m by rw [iv_le (by omega) (by omega) (by omega) (by omega)]; omega)]
    have : ρ1 = RK m E := by
      have hle := g2.1
      unfold RK
      by_cases c3 : N3 m E
      · rw [if_pos c3]
        obtain ⟨r, s, t, q1, q2, q3, q4⟩ := N3_sort c3
        have := ((g3 r 2 q3 (by omega)).2 s 1 q2 (by omega)).2 t 0 q1 (by omega) (by rw [d3_210]; omega)
        omega
      · rw [if_neg c3]
        have n3 : ρ1 ≠ 3 := fun e => c3 (g2.2.2.2 e)
        by_cases c2 : N2 m E
        · rw [if_pos c2]
          obtain ⟨r, s, a, b, q1, q2, q3, q4, q5⟩ := N2_sort c2
          have := ((g3 r a q2 q4).2 s b q1 q3).1 q5
          omega
        · rw [if_neg c2]
          have n2 : ρ1 ≠ 2 := fun e => c2 (g2.2.2.1 e)
          by_cases c1 : N1 m E
          · rw [if_pos c1]
            obtain ⟨r, a, q1, q2, q3⟩ := c1
            have := (g3 r a q1 q2).1 q3
            omega
          · rw [if_neg c1]
            have n1 : ρ1 ≠ 1 := fun e => c1 (g2.2.1 e)
            omega
    rw [this]
