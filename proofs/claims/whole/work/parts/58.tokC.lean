/-! ===== the class's tokens ===== -/
theorem i10 : ¬ (1 : Int32) = 0 := by decide
theorem i00 : (0 : Int32) = 0 := rfl
/-- the parser's own row may change but for its items -/
def FrP (me me1 : ME) : Prop := me1.1 3 2 = me.1 3 2 ∧ (∀ r, r ≠ 3 → me1.1 r = me.1 r) ∧ me1.2 = me.2
theorem FrP.rfl' {me : ME} : FrP me me := ⟨rfl, fun _ _ => rfl, rfl⟩
theorem FrP.trans {a b c : ME} (h : FrP a b) (h2 : FrP b c) : FrP a c := ⟨h2.1.trans h.1, fun r hr => (h2.2.1 r hr).trans (h.2.1 r hr), h2.2.2.trans h.2.2⟩
theorem FrP.up {me m : ME} (h : FrP me m) {k : Nat} (hk : k ≠ 2) (v : Int32) : FrP me (up2 m.1 3 k v, m.2) := ⟨(up2_k m.1 3 3 v (Ne.symm hk)).trans h.1, fun r hr => (up2_r m.1 k v hr).trans (h.2.1 r hr), h.2.2⟩
theorem FrP.tx {me m : ME} {t : TX} (h : FrP me m) (hT : TxC me t) : TxC m t := hT.keep (h.2.1 1 (by decide)) (h.2.1 2 (by decide))
theorem u33 {f : Nat → Nat → Int32} {k j : Nat} {v : Int32} (h : j ≠ k) : up2 f 3 k v 3 j = f 3 j := up2_k f 3 3 v h
theorem v33 {f : Nat → Nat → Int32} {j : Nat} {w v : Int32} (k : Nat) (h : f 3 j = w) (hk : Nat.beq j k = false) : up2 f 3 k v 3 j = w := (u33 (Nat.ne_of_beq_eq_false hk)).trans h
theorem j93_v {m : ME} {p e v : Nat} (h3 : m.1 3 3 = iv e) (h4 : m.1 3 4 = iv p) (h6 : m.1 3 6 = iv v) (hv : v ≤ 100) (hpe : p ≤ e) (he : e ≤ 110) {c x2 : Int32} (hx : (c = 48 ∧ x2 = 1) ∨ (¬ c = 48 ∧ x2 = 0)) : mX3_advanceOverNumber_j93 S1 3 1 m x2 = some ((), (up2 m.1 3 5 (iv (if 99 < v ∨ (c = 48 ∧ 1 < e - p) then 4 else 2)), m.2)) := by
  unfold mX3_advanceOverNumber_j93 mX3_advanceOverNumber_j119 mX3_advanceOverNumber_j123 mX3_advanceOverNumber_j124 mX3_advanceOverNumber_j135
  rw [if_neg i10, if_pos i00]
  simp only [gI_k kS_3, bs, h3, h4, h6, sI_k kS_3]
  by_cases a : 99 < v
  · rw [if_pos (show (99 : Int32) < iv v by rw [show (99 : Int32) = iv 99 from rfl, iv_lt (by omega) (by omega) (by omega) (by omega)]; omega), if_pos (Or.inl a)]
    rfl
  · rw [if_neg (show ¬ (99 : Int32) < iv v by rw [show (99 : Int32) = iv 99 from rfl, iv_lt (by omega) (by omega) (by omega) (by omega)]; omega)]
    rcases hx with ⟨d, rfl⟩ | ⟨d, rfl⟩
    · rw [if_neg i10, iv_sub, show (e : Int) - (p : Int) = ((e - p : Nat) : Int) by omega]
      by_cases g : 1 < e - p
      · rw [if_neg (show ¬ iv ((e - p : Nat) : Int) ≤ (1 : Int32) by rw [show (1 : Int32) = iv 1 from rfl, iv_le (by omega) (by omega) (by omega) (by omega)]; omega), if_pos (Or.inr ⟨d, g⟩)]
        rfl
      · rw [if_pos (show iv ((e - p : Nat) : Int) ≤ (1 : Int32) by rw [show (1 : Int32) = iv 1 from rfl, iv_le (by omega) (by omega) (by omega) (by omega)]; omega), if_neg (fun q => q.elim a (fun q => g q.2))]
        rfl
    · rw [if_pos i00, if_neg (fun q => q.elim a (fun q => d q.1))]
      rfl
theorem dig_v {c : Int32} (h : isD c) {v : Nat} (hv : v ≤ 100) (S : SH) (me : ME) : mJ9_min_7cf53 S me (100 : Int32) ((((10 : Int32) * iv v) + c) - (48 : Int32)) = some (iv ((min 100 (10 * v + (c.toInt - 48).toNat) : Nat) : Int), me) := by
  obtain ⟨h1, h2⟩ := h
  rw [show ((((10 : Int32) * iv v) + c) - (48 : Int32)) = iv (10 * v + c.toInt - 48) by
    rw [show (10 : Int32) = iv 10 from rfl, show (48 : Int32) = iv 48 from rfl, iv_mul, ← iv_sub, ← iv_add, iv_ti], show (100 : Int32) = iv 100 from rfl, min_v S me (by omega) (by omega) (by omega) (by omega)]
  congr 2
  congr 1
  split <;> omega
theorem over_v {me : ME} {t : TX} (hT : TxC me t) (ht : t.1 ≤ 110) {p : Nat} (hp : p < t.1) (h3 : me.1 3 3 = iv p) (h4 : me.1 3 4 = iv p) : ∃ me1 : ME, mX3_advanceOverNumber S1 me 3 1 = some ((), me1) ∧ me1.1 3 3 = iv (nm t 0 p).2 ∧ me1.1 3 4 = iv p ∧ me1.1 3 5 = iv (if 99 < (nm t 0 p).1 ∨ (t.2 p = 48 ∧ 1 < (nm t 0 p).2 - p) then 4 else 2) ∧ me1.1 3 6 = iv (nm t 0 p).1 ∧ FrP me me1 := by
  have key : ∀ x2 : Int32, ((t.2 p = 48 ∧ x2 = 1) ∨ (¬ t.2 p = 48 ∧ x2 = 0)) → ∃ me1 : ME, mX3_advanceOverNumber_j19 S1 3 1 me x2 = some ((), me1) ∧ me1.1 3 3 = iv (nm t 0 p).2 ∧ me1.1 3 4 = iv p ∧ me1.1 3 5 = iv (if 99 < (nm t 0 p).1 ∨ (t.2 p = 48 ∧ 1 < (nm t 0 p).2 - p) then 4 else 2) ∧ me1.1 3 6 = iv (nm t 0 p).1 ∧ FrP me me1 := by
    intro x2 hx
    unfold mX3_advanceOverNumber_j19
    simp only [sI_k kS_3, bs]
    refine lpn_mq (Q := fun X => ∃ me1 : ME, X = some ((), me1) ∧ me1.1 3 3 = iv (nm t 0 p).2 ∧ me1.1 3 4 = iv p ∧ me1.1 3 5 = iv (if 99 < (nm t 0 p).1 ∨ (t.2 p = 48 ∧ 1 < (nm t 0 p).2 - p) then 4 else 2) ∧ me1.1 3 6 = iv (nm t 0 p).1 ∧ FrP me me1) (P := fun j s => ∃ (m : ME) (v i : Nat), s = (m, x2) ∧ i + j = t.1 ∧ p ≤ i ∧ m.1 3 3 = iv i ∧ m.1 3 4 = iv p ∧ m.1 3 6 = iv v ∧ v ≤ 100 ∧ FrP me m ∧ nm t v i = nm t 0 p) ?_ lpF (t.1 - p) _ (by unfold lpF; omega) ⟨_, 0, p, rfl, by omega, Nat.le_refl p, h3, h4, up2_s me.1 3 6 _, by omega, FrP.rfl'.up (by decide) _, rfl⟩
    rintro j s kk ⟨m, v, i, rfl, hij, hpi, g3, g4, g6, hv, hF, hn⟩
    obtain ⟨t1, t2⟩ := hF.tx hT
    have fin : ¬ (i < t.1 ∧ isD (t.2 i)) → ∃ me1 : ME, mX3_advanceOverNumber_j93 S1 3 1 m x2 = some ((), me1) ∧ me1.1 3 3 = iv (nm t 0 p).2 ∧ me1.1 3 4 = iv p ∧ me1.1 3 5 = iv (if 99 < (nm t 0 p).1 ∨ (t.2 p = 48 ∧ 1 < (nm t 0 p).2 - p) then 4 else 2) ∧ me1.1 3 6 = iv (nm t 0 p).1 ∧ FrP me me1 := by
      intro hc
      rw [← hn, nm_stop hc]
      refine ⟨_, j93_v g3 g4 g6 hv hpi (by omega) hx, g3, g4, up2_s m.1 3 5 _, g6, hF.up (k := 5) (by decide) _⟩
    unfold mX3_advanceOverNumber_L25
    simp only [gI_k kS_3, gI_k kS_1, bs, g3, t1]
    by_cases c : i < t.1
    · rw [if_neg (show ¬ iv (t.1 : Int) ≤ iv (i : Int) by rw [iv_le (by omega) (by omega) (by omega) (by omega)]; omega)]
      simp only [rS_1_0, bs, aI_k kS_2 lS_2 (i := (i : Int)) (by omega) (by omega) (by omega), Int.toNat_natCast, t2 i c, isDigit_v]
      by_cases d : isD (t.2 i)
      · left
        rw [if_pos d, if_neg i10]
        simp only [g3, g6, aI_k kS_2 lS_2 (i := (i : Int)) (by omega) (by omega) (by omega), Int.toNat_natCast, t2 i c, bs, dig_v d hv, sI_k kS_3, u33 (show (3 : Nat) ≠ 6 by decide), show (1 : Int32) = iv 1 from rfl, iv_add]
        refine ⟨t.1 - (i + 1), _, by omega, ⟨_, min 100 (10 * v + ((t.2 i).toInt - 48).toNat), i + 1, rfl, by omega, by omega, ?_, ?_, ?_, by omega, (hF.up (k := 6) (by decide) _).up (k := 3) (by decide) _, ?_⟩, rfl⟩
        · rfl
        · exact g4
        · rfl
        · rw [← hn, nm_go c d]
      · right
        rw [if_neg d, if_pos i00]
        exact fin (fun q => d q.2)
    · right
      rw [if_pos (show iv (t.1 : Int) ≤ iv (i : Int) by rw [iv_le (by omega) (by omega) (by omega) (by omega)]; omega)]
      exact fin (fun q => c q.1)
  obtain ⟨t1, t2⟩ := hT
  unfold mX3_advanceOverNumber
  simp only [gI_k kS_3, rS_1_0, bs, h4, aI_k kS_2 lS_2 (i := (p : Int)) (by omega) (by omega) (by omega), Int.toNat_natCast, t2 p hp]
  by_cases c : t.2 p = 48
  · rw [if_pos c]
    exact key 1 (Or.inl ⟨c, rfl⟩)
  · rw [if_neg c]
    exact key 0 (Or.inr ⟨c, rfl⟩)
/-- the parser stands behind the token at p -/
def AdvP (t : TX) (p : Nat) (m : ME) : Prop := m.1 3 3 = iv (tok t p).2.2.2 ∧ m.1 3 4 = iv (tok t p).2.2.1 ∧ m.1 3 5 = iv (tok t p).1 ∧ ((tok t p).1 = 1 ∨ (tok t p).1 = 2 → m.1 3 6 = iv (tok t p).2.1)
theorem j38_v {me m : ME} {t : TX} (hT : TxC me t) (ht : t.1 ≤ 110) (hF : FrP me m) {p : Nat} (hp : p ≤ t.1) (h3 : m.1 3 3 = iv (sk t p)) : ∃ me1 : ME, mX3_advance_j38 S1 3 1 m = some ((), me1) ∧ AdvP t p me1 ∧ FrP me me1 := by
  have hs := sk_b hp
  obtain ⟨t1, t2⟩ := hF.tx hT
  have ek : ∀ x : ME, mX3_advance_j146 S1 3 1 x = some ((), x) := fun x => rfl
  unfold mX3_advance_j38
  simp only [gI_k kS_3, gI_k kS_1, sI_k kS_3, bs, h3, u33 (show (3 : Nat) ≠ 4 by decide), up2_rn m.1 (r := 3) (a := 1) 4 1 _ (by decide), t1]
  by_cases c : sk t p < t.1
  · rw [if_pos (show iv (sk t p : Int) < iv (t.1 : Int) by rw [iv_lt (by omega) (by omega) (by omega) (by omega)]; omega)]
    simp only [rS_1_0, bs, aI_k kS_2 lS_2 (i := (sk t p : Int)) (by omega) (by omega) (by omega), Int.toNat_natCast, up2_rn m.1 (r := 3) (a := 2) 4 (sk t p) _ (by decide), t2 _ c, up2_s, isDigit_v]
    by_cases d : isD (t.2 (sk t p))
    · simp only [if_pos d]
      rw [if_neg i10]
      have hF2 : FrP me (up2 (up2 m.1 3 4 (iv (sk t p))) 3 6 (t.2 (sk t p)), m.2) := (hF.up (k := 4) (by decide) (iv (sk t p))).up (k := 6) (by decide) (t.2 (sk t p))
      obtain ⟨m1, a1, a2, a3, a4, a5, a6⟩ := over_v (p := sk t p) (hF2.tx hT) ht c h3 rfl
      simp only [ck_s kS_3, bs, a1]
      refine ⟨m1, rfl, ?_, hF2.trans a6⟩
      by_cases e : 99 < (nm t 0 (sk t p)).1 ∨ (t.2 (sk t p) = 48 ∧ 1 < (nm t 0 (sk t p)).2 - sk t p)
      · rw [if_pos e] at a4
        have et : tok t p = (4, 0, sk t p, (nm t 0 (sk t p)).2) := by unfold tok; rw [if_pos c, if_pos d, if_pos e]
        unfold AdvP
        rw [et]
        exact ⟨a2, a3, a4, fun q => q.elim (nq rfl) (nq rfl)⟩
      · rw [if_neg e] at a4
        have et : tok t p = (2, ((nm t 0 (sk t p)).1 : Int), sk t p, (nm t 0 (sk t p)).2) := by unfold tok; rw [if_pos c, if_pos d, if_neg e]
        unfold AdvP
        rw [et]
        exact ⟨a2, a3, a4, fun _ => a5⟩
    · simp only [if_neg d]
      rw [if_pos trivial]
      simp only [u33 (show (3 : Nat) ≠ 6 by decide), u33 (show (3 : Nat) ≠ 4 by decide), u33 (show (6 : Nat) ≠ 3 by decide), h3, up2_s, show (1 : Int32) = iv 1 from rfl, iv_add, show ((sk t p : Nat) : Int) + 1 = ((sk t p + 1 : Nat) : Int) from rfl]
      have hF3 : FrP me (up2 (up2 (up2 m.1 3 4 (iv (sk t p))) 3 6 (t.2 (sk t p))) 3 3 (iv ((sk t p + 1 : Nat) : Int)), m.2) := ((hF.up (k := 4) (by decide) (iv (sk t p))).up (k := 6) (by decide) (t.2 (sk t p))).up (k := 3) (by decide) _
      have q3 : (up2 (up2 (up2 m.1 3 4 (iv (sk t p))) 3 6 (t.2 (sk t p))) 3 3 (iv ((sk t p + 1 : Nat) : Int))) 3 3 = iv ((sk t p + 1 : Nat) : Int) := up2_s _ 3 3 _
      have q4 : (up2 (up2 (up2 m.1 3 4 (iv (sk t p))) 3 6 (t.2 (sk t p))) 3 3 (iv ((sk t p + 1 : Nat) : Int))) 3 4 = iv (sk t p) := v33 3 (v33 6 (up2_s m.1 3 4 _) rfl) rfl
      have q6 : (up2 (up2 (up2 m.1 3 4 (iv (sk t p))) 3 6 (t.2 (sk t p))) 3 3 (iv ((sk t p + 1 : Nat) : Int))) 3 6 = t.2 (sk t p) := v33 3 (up2_s _ 3 6 _) rfl
      generalize up2 (up2 (up2 m.1 3 4 (iv (sk t p))) 3 6 (t.2 (sk t p))) 3 3 (iv ((sk t p + 1 : Nat) : Int)) = M at hF3 q3 q4 q6 ⊢
      have J : ¬ (97 ≤ (t.2 (sk t p)).toInt ∧ (t.2 (sk t p)).toInt ≤ 122) → ∃ me1 : ME, mX3_advance_j128 S1 3 1 (M, m.2) = some ((), me1) ∧ (me1.1 3 3 = iv ((sk t p + 1 : Nat) : Int) ∧ me1.1 3 4 = iv (sk t p) ∧ me1.1 3 5 = iv (if t.2 (sk t p) = 59 then 3 else 4)) ∧ FrP me me1 := by
        intro _
        unfold mX3_advance_j128 mX3_advance_j143
        simp only [gI_k kS_3, bs, q6, sI_k kS_3, ek]
        by_cases e : t.2 (sk t p) = 59
        · rw [if_pos e, if_pos e]
          refine ⟨_, rfl, ⟨?_, ?_, ?_⟩, hF3.up (k := 5) (by decide) _⟩
          · exact q3
          · exact q4
          · exact up2_s M 3 5 _
        · rw [if_neg e, if_neg e]
          refine ⟨_, rfl, ⟨?_, ?_, ?_⟩, hF3.up (k := 5) (by decide) _⟩
          · exact q3
          · exact q4
          · exact up2_s M 3 5 _
      have J2 : ¬ (97 ≤ (t.2 (sk t p)).toInt ∧ (t.2 (sk t p)).toInt ≤ 122) → ∃ me1 : ME, mX3_advance_j128 S1 3 1 (M, m.2) = some ((), me1) ∧ AdvP t p me1 ∧ FrP me me1 := by
        intro hl
        obtain ⟨m1, b1, ⟨b2, b3, b4⟩, b5⟩ := J hl
        refine ⟨m1, b1, ?_, b5⟩
        by_cases e : t.2 (sk t p) = 59
        · rw [if_pos e] at b4
          have et : tok t p = (3, 0, sk t p, sk t p + 1) := by unfold tok; rw [if_pos c, if_neg d, if_neg hl, if_pos e]
          unfold AdvP
          rw [et]
          exact ⟨b2, b3, b4, fun q => q.elim (nq rfl) (nq rfl)⟩
        · rw [if_neg e] at b4
          have et : tok t p = (4, 0, sk t p, sk t p + 1) := by unfold tok; rw [if_pos c, if_neg d, if_neg hl, if_neg e]
          unfold AdvP
          rw [et]
          exact ⟨b2, b3, b4, fun q => q.elim (nq rfl) (nq rfl)⟩
      by_cases l1 : 97 ≤ (t.2 (sk t p)).toInt
      · rw [if_neg (show ¬ t.2 (sk t p) < 97 by rw [lt_ti]; show ¬ (t.2 (sk t p)).toInt < 97; omega)]
        by_cases l2 : (t.2 (sk t p)).toInt ≤ 122
        · rw [if_neg (show ¬ (122 : Int32) < t.2 (sk t p) by rw [lt_ti]; show ¬ 122 < (t.2 (sk t p)).toInt; omega)]
          have et : tok t p = (1, (t.2 (sk t p)).toInt, sk t p, sk t p + 1) := by unfold tok; rw [if_pos c, if_neg d, if_pos ⟨l1, l2⟩]
          unfold AdvP
          rw [et]
          refine ⟨_, rfl, ⟨?_, ?_, ?_, fun _ => ?_⟩, hF3.up (k := 5) (by decide) _⟩
          · exact q3
          · exact q4
          · exact up2_s M 3 5 _
          · exact q6.trans (iv_ti _).symm
        · rw [if_pos (show (122 : Int32) < t.2 (sk t p) by rw [lt_ti]; show 122 < (t.2 (sk t p)).toInt; omega)]
          exact J2 (fun q => l2 q.2)
      · rw [if_pos (show t.2 (sk t p) < 97 by rw [lt_ti]; show (t.2 (sk t p)).toInt < 97; omega)]
        exact J2 (fun q => l1 q.1)
  · rw [if_neg (show ¬ iv (sk t p : Int) < iv (t.1 : Int) by rw [iv_lt (by omega) (by omega) (by omega) (by omega)]; omega)]
    have et : tok t p = (0, 0, sk t p, sk t p) := by unfold tok; rw [if_neg c]
    unfold AdvP
    rw [et]
    exact ⟨_, rfl, ⟨h3, rfl, rfl, fun q => q.elim (nq rfl) (nq rfl)⟩, (hF.up (k := 4) (by decide) _).up (k := 5) (by decide) _⟩
theorem adv_v {me : ME} {t : TX} (hT : TxC me t) (ht : t.1 ≤ 110) {p : Nat} (hp : p ≤ t.1) (h3 : me.1 3 3 = iv p) : ∃ me1 : ME, mX3_advance S1 me 3 1 = some ((), me1) ∧ AdvP t p me1 ∧ FrP me me1 := by
  unfold mX3_advance
  refine lpn_mq (Q := fun X => ∃ me1 : ME, X = some ((), me1) ∧ AdvP t p me1 ∧ FrP me me1) (P := fun j m => ∃ i : Nat, i + j = t.1 ∧ m.1 3 3 = iv i ∧ FrP me m ∧ sk t i = sk t p) ?_ lpF (t.1 - p) me (by unfold lpF; omega) ⟨p, by omega, h3, FrP.rfl', rfl⟩
  rintro j m kk ⟨i, hij, g3, hF, hs⟩
  obtain ⟨t1, t2⟩ := hF.tx hT
  have fin : ¬ (i < t.1 ∧ t.2 i = 32) → ∃ me1 : ME, mX3_advance_j38 S1 3 1 m = some ((), me1) ∧ AdvP t p me1 ∧ FrP me me1 := fun hc => by
    refine j38_v hT ht hF hp ?_
    rw [← hs, sk_stop hc]
    exact g3
  unfold mX3_advance_L0
  simp only [gI_k kS_3, gI_k kS_1, bs, g3, t1]
  by_cases c : i < t.1
  · rw [if_neg (show ¬ iv (t.1 : Int) ≤ iv (i : Int) by rw [iv_le (by omega) (by omega) (by omega) (by omega)]; omega)]
    simp only [rS_1_0, bs, aI_k kS_2 lS_2 (i := (i : Int)) (by omega) (by omega) (by omega), Int.toNat_natCast, t2 i c]
    by_cases d : t.2 i = 32
    · left
      rw [if_pos d]
      simp only [sI_k kS_3, bs, show (1 : Int32) = iv 1 from rfl, iv_add]
      exact ⟨t.1 - (i + 1), _, by omega, ⟨i + 1, by omega, up2_s m.1 3 3 _, hF.up (k := 3) (by decide) _, (sk_go c d).symm.trans hs⟩, rfl⟩
    · right
      rw [if_neg d]
      exact fin (fun q => d q.2)
  · right
    rw [if_pos (show iv (t.1 : Int) ≤ iv (i : Int) by rw [iv_le (by omega) (by omega) (by omega) (by omega)]; omega)]
    exact fin (fun q => c q.1)
