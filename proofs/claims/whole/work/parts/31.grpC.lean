/-! ===== the class: points, order, groups ===== -/
def PtC (me : ME) (A : AS) : Prop := me.1 62 4 = iv (PN A) ∧ ∀ k, k < PN A → me.1 63 k = iv (PB A k) ∧ me.1 64 k = iv (PX A k) ∧ me.1 65 k = iv (PY A k) ∧ me.1 66 k = iv (tmA A k)
theorem PtC.keep {me me1 : ME} {A : AS} (h : PtC me A) (E : ∀ r, 62 ≤ r → r ≤ 66 → me1.1 r = me.1 r) : PtC me1 A := by
  unfold PtC at h ⊢
  rw [E 62 (by omega) (by omega), E 63 (by omega) (by omega), E 64 (by omega) (by omega), E 65 (by omega) (by omega), E 66 (by omega) (by omega)]
  exact h
theorem C_take {me : ME} {A : AS} (hR : RepC me A) (hA : ASok A) : ∃ me1 : ME, mX5_take S1 me 62 11 14 = some ((), me1) ∧ PtC me1 A ∧ (∀ r, ¬ (62 ≤ r ∧ r ≤ 66) → me1.1 r = me.1 r) ∧ me1.2 = me.2 := by
  have hn : PN A ≤ 9 := hA.2.2.1.1
  have hns := hA.2.1.1
  let F : Nat → ME := fun i => (fun a j => if a = 62 ∧ j = 4 then iv (PN A) else if a = 63 ∧ j < i then iv (PB A j) else if a = 64 ∧ j < i then iv (PX A j) else if a = 65 ∧ j < i then iv (PY A j) else if a = 66 ∧ j < i then iv (tmA A j) else me.1 a j, me.2)
  have hF : ∀ i r, ¬ (62 ≤ r ∧ r ≤ 66) → (F i).1 r = me.1 r := fun i r h => by
    funext j
    show (if r = 62 ∧ j = 4 then _ else if r = 63 ∧ j < i then _ else if r = 64 ∧ j < i then _ else if r = 65 ∧ j < i then _ else if r = 66 ∧ j < i then _ else me.1 r j) = _
    rw [if_neg (by omega), if_neg (by omega), if_neg (by omega), if_neg (by omega), if_neg (by omega)]
  have hF62 : ∀ i, (F i).1 62 4 = iv (PN A) := fun i => by simp [F]
  refine ⟨F (PN A), ?_, ⟨hF62 _, fun k hk => ⟨?_, ?_, ?_, ?_⟩⟩, fun r h => hF _ r h, rfl⟩
  · unfold mX5_take
    simp only [gI_k kS_14, bs, hR.2.2.1.1, sI_k kS_62]
    refine lpn_up (P := fun i s => s = (F i, iv i)) (e := PN A) ?_ ?_ (PN A) 0 lpF _ (by omega) (by unfold lpF; omega) ?_
    · rintro i s kk hi rfl
      refine ⟨(F (i + 1), iv ((i + 1 : Nat) : Int)), rfl, ?_⟩
      obtain ⟨b1, b2⟩ := hA.2.2.1.2.1 i hi
      have b3 := hA.2.2.1.2.2 _ b1
      obtain ⟨r1, r2⟩ := hR.2.2.1.2.1 i hi
      obtain ⟨r3, r4⟩ := hR.2.1.2 _ b1
      have r5 := hR.2.2.1.2.2 _ b1
      unfold mX5_take_L10
      simp only [gI_k kS_62, bs, hF62]
      rw [if_neg (by rw [iv_le (by omega) (by omega) (by omega) (by omega)]; omega)]
      simp only [rS_14_0, rS_14_1, rS_14_2, rS_11_0, rS_11_1, rS_62_0, rS_62_1, rS_62_2, rS_62_3, bs, aI_k kS_15 lS_15 (i := (i : Int)) (by omega) (by omega) (by omega), aI_k kS_16 lS_16 (i := (i : Int)) (by omega) (by omega) (by omega), uI_k kS_63 lS_63 (i := (i : Int)) (by omega) (by omega) (by omega), uI_k kS_64 lS_64 (i := (i : Int)) (by omega) (by omega) (by omega), uI_k kS_65 lS_65 (i := (i : Int)) (by omega) (by omega) (by omega), uI_k kS_66 lS_66 (i := (i : Int)) (by omega) (by omega) (by omega), Int.toNat_natCast, up2_r _ _ _ (show (16 : Nat) ≠ 63 by decide), up2_r _ _ _ (show (16 : Nat) ≠ 64 by decide), up2_r _ _ _ (show (16 : Nat) ≠ 65 by decide), hF i 15 (by omega), hF i 16 (by omega), r1, r2, aI_k kS_12 lS_12 (i := (A.2.2.1.2.1 i : Int)) (by omega) (by omega) (by omega), aI_k kS_13 lS_13 (i := (A.2.2.1.2.1 i : Int)) (by omega) (by omega) (by omega), aI_k kS_17 lS_17 (i := (A.2.2.1.2.1 i : Int)) (by omega) (by omega) (by omega), up2_r _ _ _ (show (12 : Nat) ≠ 63 by decide), up2_r _ _ _ (show (13 : Nat) ≠ 63 by decide), up2_r _ _ _ (show (13 : Nat) ≠ 64 by decide), up2_r _ _ _ (show (17 : Nat) ≠ 63 by decide), up2_r _ _ _ (show (17 : Nat) ≠ 64 by decide), up2_r _ _ _ (show (17 : Nat) ≠ 65 by decide), hF i 12 (by omega), hF i 13 (by omega), hF i 17 (by omega), r3, r4, r5, timeOf_v S1 _ b3 b2, show (1 : Int32) = iv 1 from rfl, iv_add]
      rw [show ((i + 1 : Nat) : Int) = (i : Int) + 1 by omega]
      refine congrArg kk (Prod.ext (Prod.ext ?_ rfl) rfl)
      funext a j
      show up2 (up2 (up2 (up2 (F i).1 63 i (iv (PB A i))) 64 i (iv (PX A i))) 65 i (iv (PY A i))) 66 i (iv (tmA A i)) a j = (F (i + 1)).1 a j
      by_cases e : j = i
      · subst e
        by_cases a6 : a = 66
        · subst a6; rw [up2_s]; simp [F]
        · rw [up2_r _ _ _ a6]
          by_cases a5 : a = 65
          · subst a5; rw [up2_s]; simp [F]
          · rw [up2_r _ _ _ a5]
            by_cases a4 : a = 64
            · subst a4; rw [up2_s]; simp [F]
            · rw [up2_r _ _ _ a4]
              by_cases a3 : a = 63
              · subst a3; rw [up2_s]; simp [F]
              · rw [up2_r _ _ _ a3]; simp [F, a3, a4, a5, a6]
      · rw [up2_k _ _ _ _ e, up2_k _ _ _ _ e, up2_k _ _ _ _ e, up2_k _ _ _ _ e]
        have q : (j < i + 1) = (j < i) := by apply propext; omega
        show (if a = 62 ∧ j = 4 then iv (PN A) else if a = 63 ∧ j < i then iv (PB A j) else if a = 64 ∧ j < i then iv (PX A j) else if a = 65 ∧ j < i then iv (PY A j) else if a = 66 ∧ j < i then iv (tmA A j) else me.1 a j) = (if a = 62 ∧ j = 4 then iv (PN A) else if a = 63 ∧ j < i + 1 then iv (PB A j) else if a = 64 ∧ j < i + 1 then iv (PX A j) else if a = 65 ∧ j < i + 1 then iv (PY A j) else if a = 66 ∧ j < i + 1 then iv (tmA A j) else me.1 a j)
        simp only [q]
    · rintro s kk rfl
      unfold mX5_take_L10 mX5_take_j88
      simp only [gI_k kS_62, bs, hF62]
      rw [if_pos (by rw [iv_le (by omega) (by omega) (by omega) (by omega)]; omega)]
    · refine Prod.ext (Prod.ext ?_ rfl) rfl
      funext a j
      show up2 me.1 62 4 (iv (PN A)) a j = if a = 62 ∧ j = 4 then iv (PN A) else if a = 63 ∧ j < 0 then iv (PB A j) else if a = 64 ∧ j < 0 then iv (PX A j) else if a = 65 ∧ j < 0 then iv (PY A j) else if a = 66 ∧ j < 0 then iv (tmA A j) else me.1 a j
      by_cases e : a = 62 ∧ j = 4
      · rw [if_pos e, e.1, e.2, up2_s]
      · rw [if_neg e, up2_a _ _ e, if_neg (by omega), if_neg (by omega), if_neg (by omega), if_neg (by omega)]
  · simp [F, hk]
  · simp [F, hk]
  · simp [F, hk]
  · simp [F, hk]
theorem isBefore_v {me : ME} {A : AS} (h : PtC me A) (hA : ASok A) {a b : Nat} (ha : a < PN A) (hb : b < PN A) (hab : b < a) : mX1_isBefore S1 me 62 (iv a) (iv b) = some (@ite _ (Ah A a b) (Classical.propDecidable _) 1 0, me) := by
  have hn : PN A ≤ 9 := hA.2.2.1.1
  obtain ⟨p1, p2, p3, p4⟩ := h.2 a ha
  obtain ⟨q1, q2, q3, q4⟩ := h.2 b hb
  have ba := P_b hA ha
  have bb := P_b hA hb
  unfold mX1_isBefore mX1_isBefore_j37 mX1_isBefore_j41 mX1_isBefore_j42
  simp only [rS_62_0, rS_62_3, bs, aI_k kS_66 lS_66 (i := (a : Int)) (by omega) (by omega) (by omega), aI_k kS_66 lS_66 (i := (b : Int)) (by omega) (by omega) (by omega), aI_k kS_63 lS_63 (i := (a : Int)) (by omega) (by omega) (by omega), aI_k kS_63 lS_63 (i := (b : Int)) (by omega) (by omega) (by omega), Int.toNat_natCast, p1, p4, q1, q4, iv_sub, show (0 : Int32) = iv 0 from rfl, show (1 : Int32) = iv 1 from rfl]
  by_cases h1 : tmA A a < tmA A b
  · rw [if_pos (by rw [iv_lt (by omega) (by omega) (by omega) (by omega)]; omega), if_pos (Or.inr trivial), if_pos (show Ah A a b from Or.inl h1)]
  · rw [if_neg (by rw [iv_lt (by omega) (by omega) (by omega) (by omega)]; omega)]
    by_cases h2 : tmA A a = tmA A b
    · rw [if_pos (by rw [iv_eq (by omega) (by omega) (by omega) (by omega)]; omega)]
      by_cases h3 : PB A a < PB A b
      · rw [if_neg (by rw [iv_le (by omega) (by omega) (by omega) (by omega)]; omega), if_pos (Or.inr trivial), if_pos (show Ah A a b from Or.inr ⟨h2, Or.inl h3⟩)]
      · rw [if_pos (by rw [iv_le (by omega) (by omega) (by omega) (by omega)]; omega), if_pos (Or.inl trivial), if_neg (show ¬ Ah A a b by unfold Ah; omega)]
    · rw [if_neg (by rw [iv_eq (by omega) (by omega) (by omega) (by omega)]; omega), if_pos (Or.inl trivial), if_neg (show ¬ Ah A a b by unfold Ah; omega)]
/-- the rows of the order: sorted, and all of the first m -/
def Ord (A : AS) (m : Nat) (o : Nat → Nat) : Prop := (∀ i j, i < j → j < m → Ah A (o i) (o j)) ∧ (∀ i, i < m → o i < m) ∧ ∀ k, k < m → ∃ i, i < m ∧ o i = k
theorem C_sort {me : ME} {A : AS} (h : PtC me A) (hA : ASok A) : ∃ me1 : ME, mX1_sort S1 me 67 62 = some ((), me1) ∧ (∃ o, Ord A (PN A) o ∧ ∀ i, i < PN A → me1.1 70 i = iv (o i)) ∧ (∀ r, r ≠ 70 → me1.1 r = me.1 r) ∧ me1.2 = me.2 := by
  have hn : PN A ≤ 9 := hA.2.2.1.1
  unfold mX1_sort
  have key : ∀ (d m n : Nat) (q : Nat → Int32) (o : Nat → Nat), m + d = PN A → d < n → Ord A m o → (∀ i, i < m → q i = iv (o i)) → ∃ (q' : Nat → Int32) (o' : Nat → Nat), lpn (mX1_sort_L2 S1 67 62) n ((va_up me.1 70 q, me.2), iv m) = some ((), (va_up me.1 70 q', me.2)) ∧ Ord A (PN A) o' ∧ ∀ i, i < PN A → q' i = iv (o' i) := by
    intro d
    induction d with
    | zero =>
      intro m n q o e1 e2 hO hq
      obtain ⟨n, rfl⟩ : ∃ z, n = z + 1 := ⟨n - 1, by omega⟩
      have : m = PN A := by omega
      subst this
      refine ⟨q, o, ?_, hO, hq⟩
      show mX1_sort_L2 S1 67 62 _ _ = _
      unfold mX1_sort_L2 mX1_sort_j65
      simp only [gI_k kS_62, bs, cp_s me.1 (show (62 : Nat) ≠ 70 by decide) q, h.1]
      rw [if_pos (by rw [iv_le (by omega) (by omega) (by omega) (by omega)]; omega)]
    | succ d ih =>
      intro m n q o e1 e2 hO hq
      obtain ⟨n, rfl⟩ : ∃ z, n = z + 1 := ⟨n - 1, by omega⟩
      have fin : ∀ (i : Nat) (w : Nat → Int32), i ≤ m → (∀ t, t < i → w t = iv (o t)) → (∀ t, i < t → t ≤ m → w t = iv (o (t - 1))) → (∀ t, i ≤ t → t < m → Ah A m (o t)) → (∀ t, t < i → Ah A (o t) m) → ∃ (q' : Nat → Int32) (o' : Nat → Nat), lpn (mX1_sort_L2 S1 67 62) n ((up2 (va_up me.1 70 w) 70 i (iv m), me.2), iv m + 1) = some ((), (va_up me.1 70 q', me.2)) ∧ Ord A (PN A) o' ∧ ∀ i, i < PN A → q' i = iv (o' i) := by
        intro i w a2 a3 a4 a5 a6
        have ee : up2 (va_up me.1 70 w) 70 i (iv m) = va_up me.1 70 (va_up w i (iv m)) := by
          funext a j
          by_cases e : a = 70
          · subst e
            by_cases e2 : j = i
            · subst e2; rw [up2_s]; simp [va_up]
            · rw [up2_k _ _ _ _ e2]; simp [va_up, e2]
          · rw [up2_r _ _ _ e]; simp [va_up, e]
        rw [ee, show (1 : Int32) = iv 1 from rfl, iv_add, show (m : Int) + 1 = ((m + 1 : Nat) : Int) by omega]
        obtain ⟨O1, O2, O3⟩ := hO
        refine ih (m + 1) n (va_up w i (iv m)) (fun t => if t < i then o t else if t = i then m else o (t - 1)) (by omega) (by omega) ⟨fun x y hx hy => ?_, fun x hx => ?_, fun k hk => ?_⟩ (fun x hx => ?_)
        · show Ah A (if x < i then o x else if x = i then m else o (x - 1)) (if y < i then o y else if y = i then m else o (y - 1))
          by_cases c1 : y < i
          · rw [if_pos (show x < i by omega), if_pos c1]; exact O1 x y hx (by omega)
          · rw [if_neg c1]
            by_cases c2 : y = i
            · rw [if_pos c2, if_pos (show x < i by omega)]; exact a6 x (by omega)
            · rw [if_neg c2]
              by_cases c3 : x < i
              · rw [if_pos c3]; exact O1 x (y - 1) (by omega) (by omega)
              · rw [if_neg c3]
                by_cases c4 : x = i
                · rw [if_pos c4]; exact a5 (y - 1) (by omega) (by omega)
                · rw [if_neg c4]; exact O1 (x - 1) (y - 1) (by omega) (by omega)
        · show (if x < i then o x else if x = i then m else o (x - 1)) < m + 1
          by_cases c1 : x < i
          · rw [if_pos c1]; have := O2 x (by omega); omega
          · rw [if_neg c1]
            by_cases c2 : x = i
            · rw [if_pos c2]; omega
            · rw [if_neg c2]; have := O2 (x - 1) (by omega); omega
        · by_cases c : k = m
          · refine ⟨i, by omega, ?_⟩
            show (if i < i then o i else if i = i then m else o (i - 1)) = k
            rw [if_neg (by omega), if_pos rfl, c]
          · obtain ⟨t, t1, t2⟩ := O3 k (by omega)
            by_cases c1 : t < i
            · refine ⟨t, by omega, ?_⟩
              show (if t < i then o t else if t = i then m else o (t - 1)) = k
              rw [if_pos c1]; exact t2
            · refine ⟨t + 1, by omega, ?_⟩
              show (if t + 1 < i then o (t + 1) else if t + 1 = i then m else o (t + 1 - 1)) = k
              rw [if_neg (by omega), if_neg (by omega)]; exact t2
        · show va_up w i (iv m) x = iv ((if x < i then o x else if x = i then m else o (x - 1) : Nat) : Int)
          by_cases c2 : x = i
          · subst c2; rw [if_neg (by omega), if_pos rfl]; simp [va_up]
          · rw [show va_up w i (iv m) x = w x by simp [va_up, c2]]
            by_cases c1 : x < i
            · rw [if_pos c1]; exact a3 x c1
            · rw [if_neg c1, if_neg c2]; exact a4 x (by omega) (by omega)
      -- the inner loop: at place i the new one may stand; all behind it have moved up
      have inner : ∀ (i n2 : Nat) (w : Nat → Int32), i < n2 → i ≤ m → (∀ t, t < i → w t = iv (o t)) → (∀ t, i < t → t ≤ m → w t = iv (o (t - 1))) → (∀ t, i ≤ t → t < m → Ah A m (o t)) → ∃ (q' : Nat → Int32) (o' : Nat → Nat), lpn (mX1_sort_L12 S1 67 62 (lpn (mX1_sort_L2 S1 67 62) n)) n2 ((va_up me.1 70 w, me.2), iv m, iv i) = some ((), (va_up me.1 70 q', me.2)) ∧ Ord A (PN A) o' ∧ ∀ i, i < PN A → q' i = iv (o' i) := by
        intro i
        induction i with
        | zero =>
          intro n2 w a1 a2 a3 a4 a5
          obtain ⟨n2, rfl⟩ : ∃ z, n2 = z + 1 := ⟨n2 - 1, by omega⟩
          obtain ⟨q', o', g1, g2, g3⟩ := fin 0 w a2 a3 a4 a5 (fun t ht => by omega)
          refine ⟨q', o', ?_, g2, g3⟩
          rw [← g1]
          show mX1_sort_L12 S1 67 62 _ _ _ = _
          unfold mX1_sort_L12 mX1_sort_j52
          simp only [show (0 : Int32) = iv 0 from rfl]
          rw [if_pos (by rw [iv_le (by omega) (by omega) (by omega) (by omega)]; omega)]
          simp only [rS_67_3, bs, uI_k kS_70 lS_70 (i := ((0 : Nat) : Int)) (by omega) (by omega) (by omega), Int.toNat_natCast]
        | succ i ihi =>
          intro n2 w a1 a2 a3 a4 a5
          obtain ⟨n2, rfl⟩ : ∃ z, n2 = z + 1 := ⟨n2 - 1, by omega⟩
          have hP : PtC (va_up me.1 70 w, me.2) A := h.keep (fun r r1 r2 => cp_s me.1 (show r ≠ 70 by omega) w)
          have hoi := hO.2.1 i (by omega)
          have hw : (va_up me.1 70 w) 70 i = iv (o i) := by rw [show (va_up me.1 70 w) 70 = w by simp [va_up]]; exact a3 i (by omega)
          have step : ∀ k2 k12, mX1_sort_L12 S1 67 62 k2 k12 ((va_up me.1 70 w, me.2), iv m, iv ((i + 1 : Nat) : Int)) = @ite _ (Ah A m (o i)) (Classical.propDecidable _) (k12 ((up2 (va_up me.1 70 w) 70 (i + 1) (iv (o i)), me.2), iv m, iv i)) (k2 ((up2 (va_up me.1 70 w) 70 (i + 1) (iv m), me.2), iv m + 1)) := by
            intro k2 k12
            unfold mX1_sort_L12 mX1_sort_j52
            simp only []
            rw [if_neg (show ¬ iv ((i + 1 : Nat) : Int) ≤ 0 by rw [show (0 : Int32) = iv 0 from rfl, iv_le (by omega) (by omega) (by omega) (by omega)]; omega)]
            simp only [rS_67_3, bs, show iv ((i + 1 : Nat) : Int) - (1 : Int32) = iv (i : Int) by rw [show (1 : Int32) = iv 1 from rfl, iv_sub]; exact congrArg iv (by omega), aI_k kS_70 lS_70 (i := (i : Int)) (by omega) (by omega) (by omega), Int.toNat_natCast, hw, isBefore_v hP hA (show m < PN A by omega) (show o i < PN A by omega) hoi, uI_k kS_70 lS_70 (i := ((i + 1 : Nat) : Int)) (by omega) (by omega) (by omega)]
            by_cases c : Ah A m (o i)
            · rw [if_pos c, if_pos c, if_neg (by decide), show (-1 : Int32) = iv (-1) from rfl, iv_add, show ((i + 1 : Nat) : Int) + -1 = (i : Int) by omega]
            · rw [if_neg c, if_neg c, if_pos rfl]
          have step := step (lpn (mX1_sort_L2 S1 67 62) n) (lpn (mX1_sort_L12 S1 67 62 (lpn (mX1_sort_L2 S1 67 62) n)) n2)
          show ∃ q' o', mX1_sort_L12 S1 67 62 (lpn (mX1_sort_L2 S1 67 62) n) (lpn (mX1_sort_L12 S1 67 62 (lpn (mX1_sort_L2 S1 67 62) n)) n2) _ = _ ∧ _
          rw [step]
          by_cases c : Ah A m (o i)
          · rw [if_pos c]
            have ee : up2 (va_up me.1 70 w) 70 (i + 1) (iv (o i)) = va_up me.1 70 (va_up w (i + 1) (iv (o i))) := by
              funext a j
              by_cases e : a = 70
              · subst e
                by_cases e2 : j = i + 1
                · subst e2; rw [up2_s]; simp [va_up]
                · rw [up2_k _ _ _ _ e2]; simp [va_up, e2]
              · rw [up2_r _ _ _ e]; simp [va_up, e]
            rw [ee]
            refine ihi n2 _ (by omega) (by omega) (fun t ht => ?_) (fun t t1 t2 => ?_) (fun t t1 t2 => ?_)
            · rw [show va_up w (i + 1) (iv (o i)) t = w t by simp [va_up, show t ≠ i + 1 by omega]]; exact a3 t (by omega)
            · by_cases e : t = i + 1
              · subst e; simp [va_up]
              · rw [show va_up w (i + 1) (iv (o i)) t = w t by simp [va_up, e]]; exact a4 t (by omega) t2
            · by_cases e : t = i
              · subst e; exact c
              · exact a5 t (by omega) t2
          · rw [if_neg c]
            refine fin (i + 1) w a2 a3 a4 a5 (fun t ht => ?_)
            have hd : Ah A (o i) m := (Ah_to (show m ≠ o i by omega)).resolve_left c
            by_cases e : t = i
            · subst e; exact hd
            · exact Ah_tr (hO.1 t i (by omega) (by omega)) hd
      obtain ⟨q', o', g1, g2, g3⟩ := inner m lpF q (by unfold lpF; omega) (Nat.le_refl m) hq (fun t t1 t2 => by omega) (fun t t1 t2 => by omega)
      refine ⟨q', o', ?_, g2, g3⟩
      rw [← g1]
      show mX1_sort_L2 S1 67 62 _ _ = _
      unfold mX1_sort_L2
      simp only [gI_k kS_62, bs, cp_s me.1 (show (62 : Nat) ≠ 70 by decide) q, h.1]
      rw [if_neg (by rw [iv_le (by omega) (by omega) (by omega) (by omega)]; omega)]
  obtain ⟨q', o', g1, g2, g3⟩ := key (PN A) 0 lpF (me.1 70) (fun _ => 0) (by omega) (by unfold lpF; omega) ⟨fun i j _ h2 => by omega, fun i h1 => by omega, fun k h1 => by omega⟩ (fun i h1 => by omega)
  have e0 : (va_up me.1 70 (me.1 70), me.2) = me := by
    refine Prod.ext ?_ rfl
    funext a
    by_cases e : a = 70
    · subst e; simp [va_up]
    · simp [va_up, e]
  rw [e0] at g1
  exact ⟨_, g1, ⟨o', g2, fun i hi => by simp [va_up]; exact g3 i hi⟩, fun r hr => cp_s me.1 hr q', rfl⟩
