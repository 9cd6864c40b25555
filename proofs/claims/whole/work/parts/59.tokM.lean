/-! ===== the model's tokens ===== -/
/-- of the model only where it reads, its token and its value may change -/
def FrT (me me1 : ME) : Prop := (∀ k, ¬ (11 ≤ k ∧ k ≤ 15) → me1.1 91 k = me.1 91 k) ∧ (∀ r, r ≠ 91 → me1.1 r = me.1 r) ∧ me1.2 = me.2
theorem FrT.rfl' {me : ME} : FrT me me := ⟨fun _ _ => rfl, fun _ _ => rfl, rfl⟩
theorem FrT.trans {a b c : ME} (h : FrT a b) (h2 : FrT b c) : FrT a c := ⟨fun k hk => (h2.1 k hk).trans (h.1 k hk), fun r hr => (h2.2.1 r hr).trans (h.2.1 r hr), h2.2.2.trans h.2.2⟩
theorem FrT.up {me m : ME} (h : FrT me m) {k : Nat} (hk : 11 ≤ k ∧ k ≤ 15) (v : Int32) : FrT me (up2 m.1 91 k v, m.2) := ⟨fun j hj => (up2_k m.1 91 91 v (fun e => hj (by rw [e]; exact hk))).trans (h.1 j hj), fun r hr => (up2_r m.1 k v hr).trans (h.2.1 r hr), h.2.2⟩
theorem FrT.tx {me m : ME} {t : TX} (h : FrT me m) (hT : TxM me t) : TxM m t := hT.keep (h.1 9 (by omega)) (h.2.1 98 (by decide))
theorem u91 {f : Nat → Nat → Int32} {k j : Nat} {v : Int32} (h : j ≠ k) : up2 f 91 k v 91 j = f 91 j := up2_k f 91 91 v h
theorem v91 {f : Nat → Nat → Int32} {j : Nat} {w v : Int32} (k : Nat) (h : f 91 j = w) (hk : Nat.beq j k = false) : up2 f 91 k v 91 j = w := (u91 (Nat.ne_of_beq_eq_false hk)).trans h
theorem in_c (S : SH) (me : ME) (c : Int32) {y z : Int} (h3 : -2147483648 ≤ y) (h4 : y ≤ 2147483647) (h5 : -2147483648 ≤ z) (h6 : z ≤ 2147483647) : mX10_in S me c (iv y) (iv z) = some (if y ≤ c.toInt ∧ c.toInt ≤ z then 1 else 0, me) := by
  have hb := ti_b c
  by_cases h : y ≤ c.toInt ∧ c.toInt ≤ z
  · have := in_t S me h h3 h6
    rw [iv_ti] at this
    rw [this, if_pos h]
  · have := in_f S me h hb.1 hb.2 h3 h4 h5 h6
    rw [iv_ti] at this
    rw [this, if_neg h]
theorem blanks_v {me : ME} {t : TX} (hT : TxM me t) (ht : t.1 ≤ 110) {p : Nat} (hp : p ≤ t.1) (h : me.1 91 11 = iv p) : ∃ me1 : ME, mX10_blanks S1 me 91 = some ((), me1) ∧ me1.1 91 11 = iv (sk t p) ∧ FrT me me1 := by
  unfold mX10_blanks
  refine lpn_mq (Q := fun X => ∃ me1 : ME, X = some ((), me1) ∧ me1.1 91 11 = iv (sk t p) ∧ FrT me me1) (P := fun j m => ∃ i : Nat, i + j = t.1 ∧ m.1 91 11 = iv i ∧ FrT me m ∧ sk t i = sk t p) ?_ lpF (t.1 - p) me (by unfold lpF; omega) ⟨p, by omega, h, FrT.rfl', rfl⟩
  rintro j m kk ⟨i, hij, g, hF, hs⟩
  obtain ⟨t1, t2⟩ := hF.tx hT
  have fin : ¬ (i < t.1 ∧ t.2 i = 32) → ∃ me1 : ME, mX10_blanks_j38 S1 91 m = some ((), me1) ∧ me1.1 91 11 = iv (sk t p) ∧ FrT me me1 := fun hc => ⟨m, rfl, by rw [← hs, sk_stop hc]; exact g, hF⟩
  unfold mX10_blanks_L0
  simp only [gI_k kS_91, bs, g, t1]
  by_cases c : i < t.1
  · rw [if_neg (show ¬ iv (t.1 : Int) ≤ iv (i : Int) by rw [iv_le (by omega) (by omega) (by omega) (by omega)]; omega)]
    simp only [rS_91_10, bs, aI_k kS_98 lS_98 (i := (i : Int)) (by omega) (by omega) (by omega), Int.toNat_natCast, t2 i c]
    by_cases d : t.2 i = 32
    · left
      rw [if_pos d]
      simp only [sI_k kS_91, bs, show (1 : Int32) = iv 1 from rfl, iv_add]
      exact ⟨t.1 - (i + 1), _, by omega, ⟨i + 1, by omega, rfl, hF.up (k := 11) (by omega) _, (sk_go c d).symm.trans hs⟩, rfl⟩
    · right
      rw [if_neg d]
      exact fin (fun q => d q.2)
  · right
    rw [if_pos (show iv (t.1 : Int) ≤ iv (i : Int) by rw [iv_le (by omega) (by omega) (by omega) (by omega)]; omega)]
    exact fin (fun q => c q.1)
theorem fig_v {m : ME} {t : TX} (hT : TxM m t) (ht : t.1 ≤ 110) {i : Nat} (hi : i ≤ t.1) (h : m.1 91 11 = iv i) : mX10_isFigure S1 m 91 = some (if i < t.1 ∧ isD (t.2 i) then 1 else 0, m) := by
  obtain ⟨t1, t2⟩ := hT
  unfold mX10_isFigure mX10_isFigure_j34 mX10_isFigure_j35
  simp only [gI_k kS_91, bs, h, t1]
  by_cases c : i < t.1
  · rw [if_neg (show ¬ iv (t.1 : Int) ≤ iv (i : Int) by rw [iv_le (by omega) (by omega) (by omega) (by omega)]; omega)]
    simp only [rS_91_10, bs, aI_k kS_98 lS_98 (i := (i : Int)) (by omega) (by omega) (by omega), Int.toNat_natCast, t2 i c, show (48 : Int32) = iv 48 from rfl, show (57 : Int32) = iv 57 from rfl, in_c S1 m (t.2 i) (y := 48) (z := 57) (by omega) (by omega) (by omega) (by omega)]
    by_cases d : isD (t.2 i)
    · rw [if_pos (show 48 ≤ (t.2 i).toInt ∧ (t.2 i).toInt ≤ 57 from d), if_neg i10, if_pos (Or.inr trivial), if_pos (show i < t.1 ∧ isD (t.2 i) from ⟨c, d⟩)]
    · rw [if_neg (show ¬ (48 ≤ (t.2 i).toInt ∧ (t.2 i).toInt ≤ 57) from d), if_pos i00, if_pos (Or.inl trivial), if_neg (fun q => d q.2)]
  · rw [if_pos (show iv (t.1 : Int) ≤ iv (i : Int) by rw [iv_le (by omega) (by omega) (by omega) (by omega)]; omega), if_pos (Or.inl trivial), if_neg (fun q => c q.1)]
/-- the model's name of a token -/
def tkc (q : Nat × Int × Nat × Nat) : Int := if q.1 = 0 then -1 else if q.1 = 1 then q.2.1 else if q.1 = 2 then 0 else if q.1 = 3 then 59 else -2
def AdvM (t : TX) (p : Nat) (m : ME) : Prop := m.1 91 11 = iv (tok t p).2.2.2 ∧ m.1 91 12 = iv (tok t p).2.2.1 ∧ m.1 91 13 = iv (tkc (tok t p)) ∧ ((tok t p).1 = 2 → m.1 91 14 = iv (tok t p).2.1)
theorem j103_v {m : ME} {t : TX} (hT : TxM m t) (ht : t.1 ≤ 110) {p e w : Nat} (hp : p < t.1) (h11 : m.1 91 11 = iv e) (h12 : m.1 91 12 = iv p) (h14 : m.1 91 14 = iv w) (hw : w ≤ 2000) (hpe : p ≤ e) (he : e ≤ 110) : mX10_next_j103 S1 91 m = some ((), (up2 m.1 91 13 (iv (if 99 < w ∨ (t.2 p = 48 ∧ 1 < e - p) then -2 else 0)), m.2)) := by
  obtain ⟨t1, t2⟩ := hT
  unfold mX10_next_j103 mX10_next_j140 mX10_next_j145 mX10_next_j146 mX10_next_j213
  simp only [gI_k kS_91, bs, h11, h12, h14, sI_k kS_91, rS_91_10, aI_k kS_98 lS_98 (i := (p : Int)) (by omega) (by omega) (by omega), Int.toNat_natCast, t2 p hp]
  by_cases a : 99 < w
  · rw [if_pos (show (99 : Int32) < iv w by rw [show (99 : Int32) = iv 99 from rfl, iv_lt (by omega) (by omega) (by omega) (by omega)]; omega), if_pos (Or.inl a)]
    rfl
  · rw [if_neg (show ¬ (99 : Int32) < iv w by rw [show (99 : Int32) = iv 99 from rfl, iv_lt (by omega) (by omega) (by omega) (by omega)]; omega)]
    by_cases d : t.2 p = 48
    · rw [if_pos d, iv_sub, show (e : Int) - (p : Int) = ((e - p : Nat) : Int) by omega]
      by_cases g : 1 < e - p
      · rw [if_neg (show ¬ iv ((e - p : Nat) : Int) ≤ (1 : Int32) by rw [show (1 : Int32) = iv 1 from rfl, iv_le (by omega) (by omega) (by omega) (by omega)]; omega), if_pos (Or.inr ⟨d, g⟩)]
        rfl
      · rw [if_pos (show iv ((e - p : Nat) : Int) ≤ (1 : Int32) by rw [show (1 : Int32) = iv 1 from rfl, iv_le (by omega) (by omega) (by omega) (by omega)]; omega), if_neg (fun q => q.elim a (fun q => g q.2))]
        rfl
    · rw [if_neg d, if_neg (fun q => q.elim a (fun q => d q.1))]
      rfl
/-- the number, as far as the model reads it on -/
def VR (v w : Nat) : Prop := v ≤ 100 ∧ (v ≤ 99 → w = v) ∧ (99 < v → 99 < w ∧ w ≤ 2000)
theorem num_v {me : ME} {t : TX} (hT : TxM me t) (ht : t.1 ≤ 110) {p : Nat} (hp : p < t.1) (h11 : me.1 91 11 = iv p) (h12 : me.1 91 12 = iv p) (h14 : me.1 91 14 = iv 0) : ∃ (me1 : ME) (w : Nat), lpn (mX10_next_L43 S1 91) lpF me = some ((), me1) ∧ VR (nm t 0 p).1 w ∧ me1.1 91 11 = iv (nm t 0 p).2 ∧ me1.1 91 12 = iv p ∧ me1.1 91 13 = iv (if 99 < w ∨ (t.2 p = 48 ∧ 1 < (nm t 0 p).2 - p) then -2 else 0) ∧ me1.1 91 14 = iv w ∧ FrT me me1 := by
  refine lpn_mq (Q := fun X => ∃ (me1 : ME) (w : Nat), X = some ((), me1) ∧ VR (nm t 0 p).1 w ∧ me1.1 91 11 = iv (nm t 0 p).2 ∧ me1.1 91 12 = iv p ∧ me1.1 91 13 = iv (if 99 < w ∨ (t.2 p = 48 ∧ 1 < (nm t 0 p).2 - p) then -2 else 0) ∧ me1.1 91 14 = iv w ∧ FrT me me1) (P := fun j m => ∃ (v w i : Nat), i + j = t.1 ∧ p ≤ i ∧ m.1 91 11 = iv i ∧ m.1 91 12 = iv p ∧ m.1 91 14 = iv w ∧ VR v w ∧ FrT me m ∧ nm t v i = nm t 0 p) ?_ lpF (t.1 - p) _ (by unfold lpF; omega) ⟨0, 0, p, by omega, Nat.le_refl p, h11, h12, h14, ⟨by omega, fun _ => rfl, fun q => by omega⟩, FrT.rfl', rfl⟩
  rintro j m kk ⟨v, w, i, hij, hpi, g1, g2, g4, hv, hF, hn⟩
  have hTm := hF.tx hT
  obtain ⟨v1, v2, v3⟩ := id hv
  have hw : w ≤ 2000 := by omega
  unfold mX10_next_L43
  simp only [ck_s kS_91, bs, fig_v hTm ht (show i ≤ t.1 by omega) g1]
  by_cases c : i < t.1 ∧ isD (t.2 i)
  · left
    obtain ⟨t1, t2⟩ := hTm
    obtain ⟨c1, d1, d2⟩ := id c
    rw [if_pos c, if_neg i10]
    unfold mX10_next_j87
    simp only [gI_k kS_91, bs, g4, g1, rS_91_10, aI_k kS_98 lS_98 (i := (i : Int)) (by omega) (by omega) (by omega), Int.toNat_natCast, t2 i c1, sI_k kS_91, u91 (show (11 : Nat) ≠ 14 by decide), show (1 : Int32) = iv 1 from rfl, iv_add]
    have st : ∀ z : Nat, VR (min 100 (10 * v + ((t.2 i).toInt - 48).toNat)) z → ∃ j' s', j' < j ∧ (∃ (v w i : Nat), i + j' = t.1 ∧ p ≤ i ∧ s'.1 91 11 = iv i ∧ s'.1 91 12 = iv p ∧ s'.1 91 14 = iv w ∧ VR v w ∧ FrT me s' ∧ nm t v i = nm t 0 p) ∧ kk (up2 (up2 m.1 91 14 (iv z)) 91 11 (iv ((i : Int) + 1)), m.2) = kk s' := fun z hz => by
      refine ⟨t.1 - (i + 1), (up2 (up2 m.1 91 14 (iv z)) 91 11 (iv ((i : Int) + 1)), m.2), by omega, ⟨min 100 (10 * v + ((t.2 i).toInt - 48).toNat), z, i + 1, by omega, by omega, rfl, (g2), rfl, hz, (hF.up (k := 14) (by omega) _).up (k := 11) (by omega) _, ?_⟩, rfl⟩
      rw [← hn, nm_go c1 ⟨d1, d2⟩]
    by_cases a : w ≤ 99
    · rw [if_pos (show iv (w : Int) ≤ (99 : Int32) by rw [show (99 : Int32) = iv 99 from rfl, iv_le (by omega) (by omega) (by omega) (by omega)]; omega)]
      rw [show ((((10 : Int32) * iv (w : Int)) + t.2 i) - (48 : Int32)) = iv ((10 * w + ((t.2 i).toInt - 48).toNat : Nat) : Int) by
        rw [show (10 : Int32) = iv 10 from rfl, show (48 : Int32) = iv 48 from rfl, iv_mul]
        rw [show t.2 i = iv (t.2 i).toInt from (iv_ti _).symm, iv_add, iv_sub]
        rw [iv_ti]
        exact congrArg iv (by omega)]
      exact st _ ⟨by omega, fun q => by omega, fun q => by omega⟩
    · rw [if_neg (show ¬ iv (w : Int) ≤ (99 : Int32) by rw [show (99 : Int32) = iv 99 from rfl, iv_le (by omega) (by omega) (by omega) (by omega)]; omega)]
      exact st w ⟨by omega, fun q => by omega, fun q => by omega⟩
  · right
    rw [if_neg c, if_pos i00]
    rw [← hn, nm_stop c]
    refine ⟨_, w, j103_v hTm ht hp g1 g2 g4 hw hpi (by omega), hv, g1, g2, rfl, g4, hF.up (k := 13) (by omega) _⟩
theorem next_v {me : ME} {t : TX} (hT : TxM me t) (ht : t.1 ≤ 110) {p : Nat} (hp : p ≤ t.1) (h : me.1 91 11 = iv p) : ∃ me1 : ME, mX10_next S1 me 91 = some ((), me1) ∧ AdvM t p me1 ∧ FrT me me1 := by
  have hs := sk_b hp
  obtain ⟨m, a1, a2, a3⟩ := blanks_v hT ht hp h
  unfold mX10_next
  simp only [ck_s kS_91, bs, a1, gI_k kS_91, a2, sI_k kS_91, u91 (show (11 : Nat) ≠ 12 by decide), u91 (show (9 : Nat) ≠ 12 by decide), (a3.tx hT).1]
  have hF : FrT me (up2 m.1 91 12 (iv (sk t p)), m.2) := a3.up (k := 12) (by omega) _
  have q1 : up2 m.1 91 12 (iv (sk t p)) 91 11 = iv (sk t p) := a2
  have q2 : up2 m.1 91 12 (iv (sk t p)) 91 12 = iv (sk t p) := rfl
  generalize up2 m.1 91 12 (iv (sk t p)) = M at hF q1 q2 ⊢
  have hTM := hF.tx hT
  by_cases c : sk t p < t.1
  · rw [if_neg (show ¬ iv (sk t p : Int) = iv (t.1 : Int) by rw [iv_eq (by omega) (by omega) (by omega) (by omega)]; omega)]
    simp only [fig_v hTM ht hs.2.1 q1, bs]
    obtain ⟨t1, t2⟩ := id hTM
    have t2c : M 98 (sk t p) = t.2 (sk t p) := t2 _ c
    by_cases d : isD (t.2 (sk t p))
    · rw [if_pos (show sk t p < t.1 ∧ isD (t.2 (sk t p)) from ⟨c, d⟩), if_neg i10]
      have hF2 : FrT me (up2 M 91 14 (iv 0), m.2) := hF.up (k := 14) (by omega) _
      obtain ⟨m1, w, b1, ⟨b2, b3, b4⟩, b5, b6, b7, b8, b9⟩ := num_v (me := (up2 M 91 14 (iv 0), m.2)) (hF2.tx hT) ht c (q1) (q2) rfl
      refine ⟨m1, b1, ?_, hF2.trans b9⟩
      by_cases e : 99 < (nm t 0 (sk t p)).1 ∨ (t.2 (sk t p) = 48 ∧ 1 < (nm t 0 (sk t p)).2 - sk t p)
      · rw [if_pos (show 99 < w ∨ (t.2 (sk t p) = 48 ∧ 1 < (nm t 0 (sk t p)).2 - sk t p) from e.elim (fun q => Or.inl (b4 q).1) Or.inr)] at b7
        have et : tok t p = (4, 0, sk t p, (nm t 0 (sk t p)).2) := by unfold tok; rw [if_pos c, if_pos d, if_pos e]
        unfold AdvM
        rw [et]
        exact ⟨b5, b6, b7, fun q => nq rfl q⟩
      · have e1 : ¬ 99 < (nm t 0 (sk t p)).1 := fun q => e (Or.inl q)
        have ew : w = (nm t 0 (sk t p)).1 := b3 (by omega)
        subst ew
        rw [if_neg e] at b7
        have et : tok t p = (2, ((nm t 0 (sk t p)).1 : Int), sk t p, (nm t 0 (sk t p)).2) := by unfold tok; rw [if_pos c, if_pos d, if_neg e]
        unfold AdvM
        rw [et]
        exact ⟨b5, b6, b7, fun _ => b8⟩
    · rw [if_neg (show ¬ (sk t p < t.1 ∧ isD (t.2 (sk t p))) from fun q => d q.2), if_pos i00]
      unfold mX10_next_j186 mX10_next_j200 mX10_next_j213
      simp only [rS_91_10, bs, gI_k kS_91, q1, aI_k kS_98 lS_98 (i := (sk t p : Int)) (by omega) (by omega) (by omega), Int.toNat_natCast, t2c, show (97 : Int32) = iv 97 from rfl, show (122 : Int32) = iv 122 from rfl, in_c S1 (M, m.2) (t.2 (sk t p)) (y := 97) (z := 122) (by omega) (by omega) (by omega) (by omega), sI_k kS_91, u91 (show (11 : Nat) ≠ 13 by decide), show (1 : Int32) = iv 1 from rfl, iv_add]
      have fin : ∀ (z : Int32) (q : Nat × Int × Nat × Nat), tok t p = q → q.2.2.2 = sk t p + 1 → q.2.2.1 = sk t p → z = iv (tkc q) → q.1 ≠ 2 → ∃ me1 : ME, some ((), ((up2 (up2 M 91 13 z) 91 11 (iv ((sk t p : Int) + 1)), m.2) : ME)) = some ((), me1) ∧ AdvM t p me1 ∧ FrT me me1 := by
        intro z q e0 e1 e2 e3 e4
        refine ⟨_, rfl, ?_, (hF.up (k := 13) (by omega) _).up (k := 11) (by omega) _⟩
        unfold AdvM
        rw [e0, e1, e2, ← e3]
        exact ⟨rfl, (q2), rfl, fun q => absurd q e4⟩
      by_cases l : 97 ≤ (t.2 (sk t p)).toInt ∧ (t.2 (sk t p)).toInt ≤ 122
      · rw [if_pos l, if_neg (show ¬ iv 1 = 0 by decide)]
        have et : tok t p = (1, (t.2 (sk t p)).toInt, sk t p, sk t p + 1) := by unfold tok; rw [if_pos c, if_neg d, if_pos l]
        exact fin _ _ et rfl rfl (iv_ti _).symm (by show (1 : Nat) ≠ 2; decide)
      · rw [if_neg l, if_pos i00]
        by_cases e : t.2 (sk t p) = 59
        · rw [if_pos e]
          have et : tok t p = (3, 0, sk t p, sk t p + 1) := by unfold tok; rw [if_pos c, if_neg d, if_neg l, if_pos e]
          exact fin _ _ et rfl rfl (by rw [e]; rfl) (by show (3 : Nat) ≠ 2; decide)
        · rw [if_neg e]
          have et : tok t p = (4, 0, sk t p, sk t p + 1) := by unfold tok; rw [if_pos c, if_neg d, if_neg l, if_neg e]
          exact fin _ _ et rfl rfl rfl (by show (4 : Nat) ≠ 2; decide)
  · rw [if_pos (show iv (sk t p : Int) = iv (t.1 : Int) by rw [show sk t p = t.1 by omega])]
    have et : tok t p = (0, 0, sk t p, sk t p) := by unfold tok; rw [if_neg c]
    unfold AdvM
    rw [et]
    exact ⟨_, rfl, ⟨q1, q2, rfl, fun q => nq rfl q⟩, hF.up (k := 13) (by omega) _⟩
