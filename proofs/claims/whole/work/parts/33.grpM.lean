/-! ===== the model: groups ===== -/
/-- only what the model lays anew has changed -/
def FrM (me me1 : ME) : Prop := (∀ r, r ≠ 91 → r ≠ 102 → me1.1 r = me.1 r) ∧ (∀ k, k < 20 → me1.1 91 k = me.1 91 k) ∧ ∀ r, r < 91 → me1.2 r = me.2 r
theorem FrM.rfl' {me : ME} : FrM me me := ⟨fun _ _ _ => rfl, fun _ _ => rfl, fun _ _ => rfl⟩
theorem FrM.trans {a b c : ME} (h : FrM a b) (h2 : FrM b c) : FrM a c := ⟨fun r h1 h3 => (h2.1 r h1 h3).trans (h.1 r h1 h3), fun k hk => (h2.2.1 k hk).trans (h.2.1 k hk), fun r hr => (h2.2.2 r hr).trans (h.2.2 r hr)⟩
theorem FrM.rep {me me1 : ME} {A : AS} (h : FrM me me1) (hR : RepM me A) : RepM me1 A :=
  ⟨hR.1.keep (h.2.1 _ (by omega)) (h.1 _ (by omega) (by omega)), hR.2.1.keep (h.2.1 _ (by omega)) (h.1 _ (by omega) (by omega)) (h.1 _ (by omega) (by omega)), hR.2.2.1.keep' (h.1 _ (by omega) (by omega)), hR.2.2.2.1.keep (h.2.1 _ (by omega)) (h.2.1 _ (by omega)) (h.1 _ (by omega) (by omega)), hR.2.2.2.2.keep (h.1 _ (by omega) (by omega)) (h.1 _ (by omega) (by omega))⟩
theorem FrM.eqC {me me1 : ME} (h : FrM me me1) : EqC me me1 := fun r hr => ⟨h.1 r (by omega) (by omega), h.2.2 r hr⟩
theorem FrM.up20 {me : ME} {k : Nat} {v : Int32} (h : 20 ≤ k) : FrM me (up2 me.1 91 k v, me.2) := ⟨fun r h1 _ => up2_r _ _ _ h1, fun j hj => up2_k me.1 91 91 v (show j ≠ k by omega), fun _ _ => rfl⟩
theorem FrM.up102 {me : ME} {k : Nat} {v : Int32} : FrM me (up2 me.1 102 k v, me.2) := ⟨fun r _ h1 => up2_r _ _ _ h1, fun j hj => by show up2 me.1 102 k v 91 j = _; rw [up2_r _ _ _ (by decide)], fun _ _ => rfl⟩
theorem by_v {me : ME} {A : AS} (hR : RepM me A) {k : Nat} (hk : k < PN A) : me.1 94 (7 + k) = iv (PB A k) := by
  have := (hR.2.2.1.2.1 k hk).1
  rw [Nat.zero_add] at this
  exact this
theorem many_v {me : ME} {A : AS} (hR : RepM me A) : me.1 94 0 = iv (PN A) := hR.2.2.1.1
theorem isAhead_v {me : ME} {A : AS} (hR : RepM me A) (hA : ASok A) {a b : Nat} (ha : a < PN A) (hb : b < PN A) : mX10_isAhead S1 me 91 (iv a) (iv b) = some (@ite _ (Ah A a b) (Classical.propDecidable _) 1 0, me) := by
  have hn : PN A ≤ 9 := hA.2.2.1.1
  have ba := P_b hA ha
  have bb := P_b hA hb
  have pa := by_v hR ha
  have pb := by_v hR hb
  unfold mX10_isAhead
  simp only [ck_s kS_91, bs, timeM_v hR hA ha, timeM_v hR hA hb, iv_sub]
  have fin : ∀ y : Int, -200 ≤ y → y ≤ 200 → mX10_isAhead_j39 S1 91 (iv a) (iv b) me (iv y) = some (if y < 0 ∨ (y = 0 ∧ a < b) then 1 else 0, me) := by
    intro y y1 y2
    unfold mX10_isAhead_j39 mX10_isAhead_j53 mX10_isAhead_j57 mX10_isAhead_j58
    by_cases c : y < 0
    · rw [if_pos (show iv y < 0 by rw [show (0 : Int32) = iv 0 from rfl, iv_lt (by omega) (by omega) (by omega) (by omega)]; exact c), if_pos (Or.inr rfl), if_pos (Or.inl c)]
    · rw [if_neg (show ¬ iv y < 0 by rw [show (0 : Int32) = iv 0 from rfl, iv_lt (by omega) (by omega) (by omega) (by omega)]; exact c)]
      by_cases c2 : y = 0
      · rw [if_pos (show iv y = 0 by rw [c2]; rfl)]
        by_cases c3 : a < b
        · rw [if_neg (show ¬ iv b ≤ iv a by rw [iv_le (by omega) (by omega) (by omega) (by omega)]; omega), if_pos (Or.inr rfl), if_pos (Or.inr ⟨c2, c3⟩)]
        · rw [if_pos (show iv b ≤ iv a by rw [iv_le (by omega) (by omega) (by omega) (by omega)]; omega), if_pos (Or.inl rfl), if_neg (by omega)]
      · rw [if_neg (show ¬ iv y = 0 by rw [show (0 : Int32) = iv 0 from rfl, iv_eq (by omega) (by omega) (by omega) (by omega)]; exact c2), if_pos (Or.inl rfl), if_neg (by omega)]
  by_cases h1 : tmA A a = tmA A b
  · rw [if_pos (show iv (tmA A a - tmA A b) = 0 by rw [h1, Int.sub_self]; rfl)]
    simp only [rS_91_3, bs, show (7 : Int32) = iv 7 from rfl, iv_add, aI_k kS_94 lS_94 (i := 7 + (a : Int)) (by omega) (by omega) (by omega), aI_k kS_94 lS_94 (i := 7 + (b : Int)) (by omega) (by omega) (by omega), show (7 + (a : Int)).toNat = 7 + a by omega, show (7 + (b : Int)).toNat = 7 + b by omega, pa, pb, iv_sub]
    rw [fin _ (by omega) (by omega)]
    by_cases c : Ah A a b
    · rw [if_pos c, if_pos (by unfold Ah at c; omega)]
    · rw [if_neg c, if_neg (by unfold Ah at c; omega)]
  · rw [if_neg (show ¬ iv (tmA A a - tmA A b) = 0 by rw [show (0 : Int32) = iv 0 from rfl, iv_eq (by omega) (by omega) (by omega) (by omega)]; omega), fin _ (by omega) (by omega)]
    by_cases c : Ah A a b
    · rw [if_pos c, if_pos (by unfold Ah at c; omega)]
    · rw [if_neg c, if_neg (by unfold Ah at c; omega)]
theorem isTogether_v {me : ME} {A : AS} (hR : RepM me A) (hA : ASok A) {a b : Nat} (ha : a < PN A) (hb : b < PN A) : mX10_isTogether S1 me 91 (iv a) (iv b) = some (@ite _ (Tog A a b) (Classical.propDecidable _) 1 0, me) := by
  have hn : PN A ≤ 9 := hA.2.2.1.1
  have ba := P_b hA ha
  have bb := P_b hA hb
  have pa := by_v hR ha
  have pb := by_v hR hb
  have xa : mX10_xOf S1 me 91 (iv a) = some (iv (PX A a), me) := xM_v hR hA ha
  have xb : mX10_xOf S1 me 91 (iv b) = some (iv (PX A b), me) := xM_v hR hA hb
  have ya : mX10_yOf S1 me 91 (iv a) = some (iv (PY A a), me) := yM_v hR hA ha
  have yb : mX10_yOf S1 me 91 (iv b) = some (iv (PY A b), me) := yM_v hR hA hb
  unfold mX10_isTogether mX10_isTogether_j71 mX10_isTogether_j72 mX10_square
  simp only [rS_91_3, bs, show (7 : Int32) = iv 7 from rfl, iv_add, aI_k kS_94 lS_94 (i := 7 + (a : Int)) (by omega) (by omega) (by omega), aI_k kS_94 lS_94 (i := 7 + (b : Int)) (by omega) (by omega) (by omega), show (7 + (a : Int)).toNat = 7 + a by omega, show (7 + (b : Int)).toNat = 7 + b by omega, pa, pb, ck_s kS_91, timeM_v hR hA ha, timeM_v hR hA hb, xa, xb, ya, yb, iv_sub, iv_mul]
  have s1 := sq_le (x := tmA A a - tmA A b) (n := 66) (by omega) (by omega)
  have s2 := sq_le (x := PX A a - PX A b) (n := 29) (by omega) (by omega)
  have s3 := sq_le (x := PY A a - PY A b) (n := 29) (by omega) (by omega)
  by_cases h1 : PB A a = PB A b
  · rw [if_pos (by rw [h1]), if_pos (Or.inl trivial), if_neg (show ¬ Tog A a b from fun t => t.1 h1)]
  · rw [if_neg (show ¬ iv (PB A a) = iv (PB A b) by rw [iv_eq (by omega) (by omega) (by omega) (by omega)]; exact h1)]
    by_cases h2 : (tmA A a - tmA A b) * (tmA A a - tmA A b) ≤ (PX A a - PX A b) * (PX A a - PX A b) + (PY A a - PY A b) * (PY A a - PY A b)
    · rw [if_neg (by rw [iv_lt (by omega) (by omega) (by omega) (by omega)]; omega), if_pos (Or.inr trivial), if_pos (show Tog A a b from ⟨h1, h2⟩)]
    · rw [if_pos (by rw [iv_lt (by omega) (by omega) (by omega) (by omega)]; omega), if_pos (Or.inl trivial), if_neg (show ¬ Tog A a b from fun t => h2 t.2)]
/-! there is an order: the class makes one -/
theorem ord_ex {A : AS} (hA : ASok A) : ∃ o, Ord A (PN A) o := by
  obtain ⟨me1, -, ⟨o, h, -⟩, -⟩ := C_sort (me := (fun r k => if r = 62 then iv (PN A) else if r = 63 then iv (PB A k) else if r = 64 then iv (PX A k) else if r = 65 then iv (PY A k) else iv (tmA A k), fun _ _ => 0)) (A := A) ⟨rfl, fun k hk => ⟨rfl, rfl, rfl, rfl⟩⟩ hA
  exact ⟨o, h⟩
theorem nth_lt {A : AS} (hA : ASok A) {i : Nat} (hi : i < PN A) : nth A i < PN A := by
  obtain ⟨o, h⟩ := ord_ex hA
  rw [nth_of h.1 h.2.1 h.2.2 i hi]
  exact h.2.1 i hi
theorem nth_sur {A : AS} (hA : ASok A) {k : Nat} (hk : k < PN A) : ∃ i, i < PN A ∧ nth A i = k := by
  obtain ⟨o, h⟩ := ord_ex hA
  obtain ⟨i, i1, i2⟩ := h.2.2 k hk
  exact ⟨i, i1, by rw [nth_of h.1 h.2.1 h.2.2 i i1]; exact i2⟩
theorem nth_inj {A : AS} (hA : ASok A) {i j : Nat} (hi : i < PN A) (hj : j < PN A) (e : nth A i = nth A j) : i = j := by
  obtain ⟨o, h⟩ := ord_ex hA
  rw [nth_of h.1 h.2.1 h.2.2 i hi, nth_of h.1 h.2.1 h.2.2 j hj] at e
  rcases Nat.lt_trichotomy i j with q | q | q
  · have := h.1 i j q hj; rw [e] at this; exact absurd this Ah_ir
  · exact q
  · have := h.1 j i q hi; rw [e] at this; exact absurd this Ah_ir
theorem nth_new {A : AS} (hA : ASok A) {i : Nat} (hi : i < PN A) : ¬ nth A i ∈ picks A i := fun hm => by
  obtain ⟨t, t1, t2⟩ := (picks_mem A i _).mp hm
  have := nth_inj hA (show t < PN A by omega) hi t2
  omega
theorem nth_pick {A : AS} (hA : ASok A) {i : Nat} (hi : i < PN A) : Pick A (fun j => j ∈ picks A i) (nth A i) := by
  refine ⟨⟨nth_lt hA hi, nth_new hA hi⟩, fun j hj hu => ?_⟩
  obtain ⟨o, h⟩ := ord_ex hA
  obtain ⟨t, t1, t2⟩ := nth_sur hA hj
  by_cases e : t = i
  · subst e; exact Or.inl t2.symm
  · right
    have : i < t := by
      rcases Nat.lt_or_ge t i with q | q
      · exact absurd ((picks_mem A i j).mpr ⟨t, q, t2⟩) hu
      · omega
    rw [← t2, nth_of h.1 h.2.1 h.2.2 i hi, nth_of h.1 h.2.1 h.2.2 t t1]
    exact h.1 i t this t1
theorem picks_lt {A : AS} (hA : ASok A) {i k : Nat} (hi : i ≤ PN A) (h : k ∈ picks A i) : k < PN A := by
  obtain ⟨t, t1, t2⟩ := (picks_mem A i k).mp h
  rw [← t2]; exact nth_lt hA (by omega)
/-- the bits of the groups -/
theorem grp_bit {A : AS} (hA : ASok A) : ∀ i, i ≤ PN A → (∀ g, g < (grp A i).1 → ∀ k, ((grp A i).2.1 g).testBit k = true ↔ (k ∈ picks A i ∧ (grp A i).2.2 k = g)) ∧ (∀ k, k ∈ picks A i → (grp A i).2.2 k < (grp A i).1) ∧ ∀ g, g < (grp A i).1 → (grp A i).2.1 g ≠ 0 := by
  intro i
  induction i with
  | zero => exact fun _ => ⟨fun g hg => absurd hg (Nat.not_lt_zero g), fun k hk => by simp [picks] at hk, fun g hg => absurd hg (Nat.not_lt_zero g)⟩
  | succ i ih =>
    intro hi
    obtain ⟨I1, I2, I3⟩ := ih (by omega)
    have hnew := nth_new hA (show i < PN A by omega)
    have hto := gto_le A i
    rw [grp_succ]
    have e1 : ∀ g k : Nat, g ≠ gto A i → g < (if gto A i = (grp A i).1 then (grp A i).1 + 1 else (grp A i).1) → g < (grp A i).1 := fun g k c hg => by split at hg <;> omega
    have hp : ∀ k, k ∈ picks A (i + 1) ↔ (k ∈ picks A i ∨ k = nth A i) := fun k => by rw [picks_succ, List.mem_append, List.mem_singleton]
    have hof : ∀ k, va_up (grp A i).2.2 (nth A i) (gto A i) k = if k = nth A i then gto A i else (grp A i).2.2 k := fun k => by simp [va_up]
    refine ⟨fun g hg k => ?_, fun k hk => ?_, fun g hg => ?_⟩
    · show (va_up (grp A i).2.1 (gto A i) ((if gto A i = (grp A i).1 then 0 else (grp A i).2.1 (gto A i)) ||| 2 ^ nth A i) g).testBit k = true ↔ (k ∈ picks A (i + 1) ∧ va_up (grp A i).2.2 (nth A i) (gto A i) k = g)
      rw [hof, hp]
      by_cases c : g = gto A i
      · subst c
        rw [show ∀ v, va_up (grp A i).2.1 (gto A i) v (gto A i) = v from fun v => by simp [va_up], or_bit]
        by_cases ck : k = nth A i
        · subst ck
          simp
        · rw [if_neg ck]
          have : decide (nth A i = k) = false := by simp; exact fun e => ck e.symm
          rw [this, Bool.or_false]
          by_cases c2 : gto A i = (grp A i).1
          · rw [if_pos c2]
            simp only [Nat.zero_testBit]
            constructor
            · intro h; cases h
            · rintro ⟨h | h, h3⟩
              · have := I2 k h; omega
              · exact absurd h ck
          · rw [if_neg c2, I1 (gto A i) (gto_fit A i c2) k]
            constructor
            · exact fun h => ⟨Or.inl h.1, h.2⟩
            · rintro ⟨h | h, h3⟩
              · exact ⟨h, h3⟩
              · exact absurd h ck
      · rw [show ∀ v, va_up (grp A i).2.1 (gto A i) v g = (grp A i).2.1 g from fun v => by simp [va_up, c], I1 g (e1 g k c hg) k]
        by_cases ck : k = nth A i
        · subst ck
          rw [if_pos rfl]
          exact ⟨fun h => absurd h.1 hnew, fun h => absurd h.2.symm c⟩
        · rw [if_neg ck]
          constructor
          · exact fun h => ⟨Or.inl h.1, h.2⟩
          · rintro ⟨h | h, h3⟩
            · exact ⟨h, h3⟩
            · exact absurd h ck
    · show va_up (grp A i).2.2 (nth A i) (gto A i) k < (if gto A i = (grp A i).1 then (grp A i).1 + 1 else (grp A i).1)
      rw [hof]
      rcases (hp k).mp hk with h | h
      · have h9 := I2 k h
        by_cases ck : k = nth A i
        · subst ck; exact absurd h hnew
        · rw [if_neg ck]; split <;> omega
      · rw [if_pos h]
        split
        · omega
        · rename_i c; exact gto_fit A i c
    · show va_up (grp A i).2.1 (gto A i) ((if gto A i = (grp A i).1 then 0 else (grp A i).2.1 (gto A i)) ||| 2 ^ nth A i) g ≠ 0
      by_cases c : g = gto A i
      · subst c
        rw [show ∀ v, va_up (grp A i).2.1 (gto A i) v (gto A i) = v from fun v => by simp [va_up]]
        intro h0
        have : ((if gto A i = (grp A i).1 then 0 else (grp A i).2.1 (gto A i)) ||| 2 ^ nth A i).testBit (nth A i) = true := by rw [or_bit]; simp
        rw [h0] at this
        simp at this
      · rw [show ∀ v, va_up (grp A i).2.1 (gto A i) v g = (grp A i).2.1 g from fun v => by simp [va_up, c]]
        exact I3 g (e1 g 0 c hg)
