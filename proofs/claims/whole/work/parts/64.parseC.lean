/-! ===== the class reads its text ===== -/
def st0 : PS := ((0, fun _ => 0, fun _ => 0), (0, fun _ => 0, fun _ => 0, fun _ => 0))
theorem st0_ok : PSok st0 := ⟨⟨Nat.zero_le _, fun s hs => absurd hs (Nat.not_lt_zero s)⟩, Nat.zero_le _, fun s hs => absurd hs (Nat.not_lt_zero s), fun s hs => absurd hs (Nat.not_lt_zero s)⟩
def FrWp (me me1 : ME) : Prop := (∀ r, ¬ (3 ≤ r ∧ r ≤ 10) → me1.1 r = me.1 r) ∧ me1.2 = me.2
theorem FrQ.v {a b c : ME} (h : FrWp a b) (h2 : FrQ b c) : FrWp a c := ⟨fun r hr => (h2.2.1 r hr).trans (h.1 r hr), h2.2.2.trans h.2⟩
theorem FrWp.tx {me m : ME} {t : TX} (h : FrWp me m) (hT : TxC me t) : TxC m t := hT.keep (h.1 1 (by omega)) (h.1 2 (by omega))
/-- how the reading ends -/
def RP (X : Sum Nat (Nat × PS)) (b : Int32) (me1 : ME) : Prop := (∃ f : Nat, X = .inl f ∧ f ≤ 110 ∧ b = iv f) ∨ ∃ (it : Nat) (st : PS), X = .inr (it, st) ∧ b = -1 ∧ me1.1 3 2 = iv it ∧ PrC me1 st
theorem parse_v {me : ME} {t : TX} (hT : TxC me t) (ht : t.1 ≤ 110) : ∃ (b : Int32) (me1 : ME), mX3_parse S1 me 3 1 = some (b, me1) ∧ FrWp me me1 ∧ RP (prs t 111 0 st0 0) b me1 := by
  unfold mX3_parse
  simp only [rS_3_0, rS_3_1, bs, sI_k kS_4, sI_k kS_7, sI_k kS_3]
  refine lpn_mq (Q := fun X => ∃ (b : Int32) (me1 : ME), X = some (b, me1) ∧ FrWp me me1 ∧ RP (prs t 111 0 st0 0) b me1) (P := fun j s => ∃ (m : ME) (i p : Nat) (st : PS), s = (m, iv i) ∧ i + j = 111 ∧ i ≤ p ∧ p ≤ t.1 ∧ m.1 3 3 = iv p ∧ m.1 3 2 = iv i ∧ PrC m st ∧ PSok st ∧ FrWp me m ∧ prs t j p st i = prs t 111 0 st0 0) ?_ lpF 111 _ (by unfold lpF; omega) ⟨_, 0, 0, st0, rfl, rfl, Nat.le_refl 0, Nat.zero_le _, rfl, rfl, ⟨⟨rfl, fun s hs => absurd hs (Nat.not_lt_zero s)⟩, rfl, fun s hs => absurd hs (Nat.not_lt_zero s), fun s hs => absurd hs (Nat.not_lt_zero s)⟩, st0_ok, ⟨fun r hr => ?_, rfl⟩, rfl⟩
  · rintro j s kk ⟨m, i, p, st, rfl, hij, hip, hp, g3, g2, hP, hst, hF, hR⟩
    obtain ⟨j, rfl⟩ : ∃ j', j = j' + 1 := ⟨j - 1, by omega⟩
    obtain ⟨m1, a1, a2, a3⟩ := adv_v (hF.tx hT) ht hp g3
    have hk := (tok_b hp).2.2.2.1
    have b1 := tE_le hp
    have hF1 : FrWp me m1 := a3.q.v hF
    have hT1 := hF1.tx hT
    have hP1 := a3.pr hP
    have g21 : m1.1 3 2 = iv i := a3.1.trans g2
    have ek : ∀ n : Nat, n ≤ 1000 → (iv ((tok t p).1 : Int) = iv (n : Int)) = ((tok t p).1 = n) := fun n hn => ive (by omega) hn
    unfold mX3_parse_L28
    simp only []
    rw [if_neg (show ¬ (110 : Int32) < iv (i : Int) by rw [show (110 : Int32) = iv 110 from rfl, iv_lt (by omega) (by omega) (by omega) (by omega)]; omega)]
    simp only [ck_s kS_3, bs, a1, gI_k kS_3, a2.2.2.1]
    by_cases c0 : (tok t p).1 = 0
    · right
      rw [if_pos (show iv ((tok t p).1 : Int) = 0 by rw [c0]; rfl), ← hR, prs_end c0]
      exact ⟨-1, m1, rfl, hF1, Or.inr ⟨i, st, rfl, rfl, g21, hP1⟩⟩
    · rw [if_neg (show ¬ iv ((tok t p).1 : Int) = 0 by rw [show (0 : Int32) = iv ((0 : Nat) : Int) from rfl, ek 0 (by omega)]; exact c0)]
      have hgo := spIt_go hp c0 hst
      have e70 : ∀ y : Int32, mX3_parse_j70 S1 3 1 kk m1 (iv i) y = mX3_parse_j93 S1 3 1 kk m1 (iv i) y (if (tok t p).1 = 1 ∧ (tok t p).2.1 = 104 then 1 else 0) := by
        intro y
        unfold mX3_parse_j70 mX3_parse_j92
        simp only [gI_k kS_3, bs, a2.2.2.1]
        by_cases c1 : (tok t p).1 = 1
        · have hv := (tok_v hp).2 c1
          rw [if_pos (show iv ((tok t p).1 : Int) = 1 by rw [c1]; rfl), a2.2.2.2 (Or.inl c1)]
          by_cases c2 : (tok t p).2.1 = 104
          · rw [if_pos (show iv (tok t p).2.1 = 104 by rw [c2]; rfl), if_pos ⟨c1, c2⟩]
          · rw [if_neg (show ¬ iv (tok t p).2.1 = 104 by rw [show (104 : Int32) = iv 104 from rfl, iv_eq (by omega) (by omega) (by omega) (by omega)]; exact c2), if_neg (fun q => c2 q.2)]
        · rw [if_neg (show ¬ iv ((tok t p).1 : Int) = 1 by rw [show (1 : Int32) = iv ((1 : Nat) : Int) from rfl, ek 1 (by omega)]; exact c1), if_neg (fun q => c1 q.1)]
      have e0 : (if iv ((tok t p).1 : Int) = (1 : Int32) then if m1.1 3 6 = (115 : Int32) then mX3_parse_j70 S1 3 1 kk m1 (iv i) 1 else mX3_parse_j69 S1 3 1 kk m1 (iv i) else mX3_parse_j69 S1 3 1 kk m1 (iv i)) = mX3_parse_j93 S1 3 1 kk m1 (iv i) (if (tok t p).1 = 1 ∧ (tok t p).2.1 = 115 then 1 else 0) (if (tok t p).1 = 1 ∧ (tok t p).2.1 = 104 then 1 else 0) := by
        unfold mX3_parse_j69
        rw [e70, e70]
        by_cases c1 : (tok t p).1 = 1
        · have hv := (tok_v hp).2 c1
          rw [if_pos (show iv ((tok t p).1 : Int) = 1 by rw [c1]; rfl), a2.2.2.2 (Or.inl c1)]
          by_cases c2 : (tok t p).2.1 = 115
          · rw [if_pos (show iv (tok t p).2.1 = 115 by rw [c2]; rfl), if_pos (show (tok t p).1 = 1 ∧ (tok t p).2.1 = 115 from ⟨c1, c2⟩)]
          · rw [if_neg (show ¬ iv (tok t p).2.1 = 115 by rw [show (115 : Int32) = iv 115 from rfl, iv_eq (by omega) (by omega) (by omega) (by omega)]; exact c2), if_neg (show ¬ ((tok t p).1 = 1 ∧ (tok t p).2.1 = 115) from fun q => c2 q.2)]
        · rw [if_neg (show ¬ iv ((tok t p).1 : Int) = 1 by rw [show (1 : Int32) = iv ((1 : Nat) : Int) from rfl, ek 1 (by omega)]; exact c1), if_neg (show ¬ ((tok t p).1 = 1 ∧ (tok t p).2.1 = 115) from fun q => c1 q.1)]
      rw [e0]
      have fin0 : ∀ (f : Nat) (m2 : ME), spIt t p st = .inl f → FrWp me m2 → m2.1 3 4 = iv f → ∃ (b : Int32) (me1 : ME), mX3_parse_j120 S1 3 1 m2 = some (b, me1) ∧ FrWp me me1 ∧ RP (prs t 111 0 st0 0) b me1 := by
        intro f m2 e h2 h4
        unfold mX3_parse_j120
        simp only [gI_k kS_3, bs, h4]
        rw [← hR, prs_inl c0 e]
        rw [e] at hgo
        have hf : f ≤ t.1 := by
          rcases hgo with ⟨f', q1, q2⟩ | ⟨p', st', q1, -⟩
          · cases q1; exact q2
          · cases q1
        exact ⟨_, m2, rfl, h2, Or.inl ⟨f, rfl, by omega, rfl⟩⟩
      have fin1 : ∀ (p' : Nat) (st' : PS) (m2 : ME), spIt t p st = .inr (p', st') → FrWp me m2 → m2.1 3 3 = iv p' → m2.1 3 2 = iv i → PrC m2 st' → ∃ j' s', j' < j + 1 ∧ (∃ (m : ME) (i p : Nat) (st : PS), s' = (m, iv i) ∧ i + j' = 111 ∧ i ≤ p ∧ p ≤ t.1 ∧ m.1 3 3 = iv p ∧ m.1 3 2 = iv i ∧ PrC m st ∧ PSok st ∧ FrWp me m ∧ prs t j' p st i = prs t 111 0 st0 0) ∧ mX3_parse_j125 S1 3 1 kk m2 (iv i) = kk s' := by
        intro p' st' m2 e h2 h3 h4 h5
        have hh : p + 1 ≤ p' ∧ p' ≤ t.1 ∧ PSok st' := by
          rw [e] at hgo
          rcases hgo with ⟨f', q1, q2⟩ | ⟨p1, s1, q1, q2⟩
          · cases q1
          · cases q1; exact q2
        refine ⟨j, ((up2 m2.1 3 2 (iv ((i + 1 : Nat) : Int)), m2.2), iv ((i + 1 : Nat) : Int)), by omega, ⟨_, i + 1, p', st', rfl, by omega, by omega, hh.2.1, h3, rfl, h5.keep (fun r r1 r2 => up2_r m2.1 _ _ (by omega)), hh.2.2, ⟨fun r hr => (up2_r m2.1 _ _ (by omega)).trans (h2.1 r hr), h2.2⟩, ?_⟩, ?_⟩
        · rw [← hR, prs_inr c0 e]
        · unfold mX3_parse_j125
          simp only [gI_k kS_3, bs, h4, sI_k kS_3, show (1 : Int32) = iv 1 from rfl, iv_add]
          rfl
      by_cases cS : (tok t p).1 = 1 ∧ (tok t p).2.1 = 115
      · have cH : ¬ ((tok t p).1 = 1 ∧ (tok t p).2.1 = 104) := fun q => by omega
        rw [if_pos cS, if_neg cH]
        have eI : spIt t p st = spSt t (tS t p) (tE t p) st := if_pos cS
        obtain ⟨b, m2, k1, k2, k3⟩ := tst_v hT1 ht b1.2.1 a2.1 a2.2.1 hP1 hst
        unfold mX3_parse_j93 mX3_parse_j107
        rw [if_neg i10]
        simp only [ck_s kS_3, bs, k1]
        rw [← eI] at k3
        rcases k3 with ⟨f, q1, rfl, q3⟩ | ⟨p', st', q1, rfl, q3, q4⟩
        · right
          rw [if_pos i00, if_pos trivial]
          exact fin0 f m2 q1 (k2.v hF1) q3
        · left
          rw [if_neg i10]
          exact fin1 p' st' m2 q1 (k2.v hF1) q3 (k2.1.trans g21) q4
      · rw [if_neg cS]
        unfold mX3_parse_j93
        rw [if_pos i00]
        unfold mX3_parse_j107
        by_cases cH : (tok t p).1 = 1 ∧ (tok t p).2.1 = 104
        · rw [if_pos cH]
          have eI : spIt t p st = spRd t (tS t p) (tE t p) st := (if_neg cS).trans (if_pos cH)
          obtain ⟨b, m2, k1, k2, k3⟩ := trd_v hT1 ht b1.2.1 a2.1 a2.2.1 hP1 hst
          rw [if_neg i10]
          simp only [ck_s kS_3, bs, k1]
          rw [← eI] at k3
          rcases k3 with ⟨f, q1, rfl, q3⟩ | ⟨p', st', q1, rfl, q3, q4⟩
          · right
            rw [if_pos i00]
            exact fin0 f m2 q1 (k2.v hF1) q3
          · left
            rw [if_neg i10]
            exact fin1 p' st' m2 q1 (k2.v hF1) q3 (k2.1.trans g21) q4
        · rw [if_neg cH, if_pos i00]
          right
          exact fin0 _ m1 ((if_neg cS).trans (if_neg cH)) hF1 a2.2.1
  · show up2 (up2 (up2 (up2 me.1 4 2 0) 7 3 0) 3 2 0) 3 3 0 r = me.1 r
    rw [up2_r _ _ _ (by omega), up2_r _ _ _ (by omega), up2_r _ _ _ (by omega), up2_r _ _ _ (by omega)]
