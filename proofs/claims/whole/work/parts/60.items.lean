/-! ===== items, as they are meant ===== -/
abbrev PS : Type := (Nat × (Nat → Nat) × (Nat → Nat)) × LG
def PSok (st : PS) : Prop := (st.1.1 ≤ 6 ∧ ∀ s, s < st.1.1 → st.1.2.1 s ≤ 29 ∧ st.1.2.2 s ≤ 29) ∧ LogOK st.1.1 st.2
abbrev tE (t : TX) (p : Nat) : Nat := (tok t p).2.2.2
abbrev tS (t : TX) (p : Nat) : Nat := (tok t p).2.2.1
abbrev isN (t : TX) (p : Nat) (m : Int) : Prop := (tok t p).1 = 2 ∧ (tok t p).2.1 ≤ m
def clkI (v : Int) : Int := if v = 112 then 0 else if v = 108 then 1 else if v = 101 then 2 else if v = 100 then 3 else if v = 98 then 4 else -1
abbrev isK (t : TX) (p : Nat) : Prop := (tok t p).1 = 1 ∧ 0 ≤ clkI (tok t p).2.1
theorem clkI_b (v : Int) : -1 ≤ clkI v ∧ clkI v ≤ 4 := by
  unfold clkI
  repeat' split
  all_goals omega
def addSt (st : PS) (x y c : Nat) : PS := ((st.1.1 + 1, va_up st.1.2.1 st.1.1 x, va_up st.1.2.2 st.1.1 y), (st.2.1, st.2.2.1, st.2.2.2.1, va_up st.2.2.2.2 st.1.1 c))
def addRd (st : PS) (s k : Nat) : PS := (st.1, lgAdd st.2 s k)
def spSt (t : TX) (q p : Nat) (st : PS) : Sum Nat (Nat × PS) :=
  if st.1.1 < 6 then
    if isN t p 29 then
      if isN t (tE t p) 29 then
        if isK t (tE t (tE t p)) then
          if (tok t (tE t (tE t (tE t p)))).1 = 3 then .inr (tE t (tE t (tE t (tE t p))), addSt st (tok t p).2.1.toNat (tok t (tE t p)).2.1.toNat (clkI (tok t (tE t (tE t p))).2.1).toNat)
          else .inl (tS t (tE t (tE t (tE t p))))
        else .inl (tS t (tE t (tE t p)))
      else .inl (tS t (tE t p))
    else .inl (tS t p)
  else .inl q
def spRd (t : TX) (q p : Nat) (st : PS) : Sum Nat (Nat × PS) :=
  if st.2.1 < 9 then
    if isN t p ((st.1.1 : Int) - 1) then
      if isN t (tE t p) 60 then
        if (tok t (tE t (tE t p))).1 = 3 then .inr (tE t (tE t (tE t p)), addRd st (tok t p).2.1.toNat (tok t (tE t p)).2.1.toNat)
        else .inl (tS t (tE t (tE t p)))
      else .inl (tS t (tE t p))
    else .inl (tS t p)
  else .inl q
def spIt (t : TX) (p : Nat) (st : PS) : Sum Nat (Nat × PS) := if (tok t p).1 = 1 ∧ (tok t p).2.1 = 115 then spSt t (tS t p) (tE t p) st else if (tok t p).1 = 1 ∧ (tok t p).2.1 = 104 then spRd t (tS t p) (tE t p) st else .inl (tS t p)
def prs (t : TX) : Nat → Nat → PS → Nat → Sum Nat (Nat × PS)
  | 0, _, _, _ => .inl 0
  | n + 1, p, st, it => if (tok t p).1 = 0 then .inr (it, st) else match spIt t p st with
    | .inl f => .inl f
    | .inr r => prs t n r.1 r.2 (it + 1)
theorem prs_end {t : TX} {n p : Nat} {st : PS} {it : Nat} (h : (tok t p).1 = 0) : prs t (n + 1) p st it = .inr (it, st) := if_pos h
theorem prs_inl {t : TX} {n p : Nat} {st : PS} {it f : Nat} (h : ¬ (tok t p).1 = 0) (e : spIt t p st = .inl f) : prs t (n + 1) p st it = .inl f := by
  show (if (tok t p).1 = 0 then _ else _) = _
  rw [if_neg h, e]
theorem prs_inr {t : TX} {n p : Nat} {st : PS} {it : Nat} {r : Nat × PS} (h : ¬ (tok t p).1 = 0) (e : spIt t p st = .inr r) : prs t (n + 1) p st it = prs t n r.1 r.2 (it + 1) := by
  show (if (tok t p).1 = 0 then _ else _) = _
  rw [if_neg h, e]
theorem isN_v {t : TX} {p : Nat} {m : Int} (hp : p ≤ t.1) (h : isN t p m) : 0 ≤ (tok t p).2.1 ∧ (tok t p).2.1 ≤ m ∧ (tok t p).2.1 ≤ 99 := ⟨((tok_v hp).1 h.1).1, h.2, ((tok_v hp).1 h.1).2⟩
theorem tE_le {t : TX} {p : Nat} (hp : p ≤ t.1) : p ≤ tE t p ∧ tE t p ≤ t.1 ∧ tS t p ≤ t.1 := ⟨(tok_b hp).2.1, (tok_b hp).2.2.1, by rw [show tS t p = sk t p from (tok_b hp).1]; exact (sk_b hp).2.1⟩
/-- what an item may come to -/
def GO (t : TX) (p : Nat) (X : Sum Nat (Nat × PS)) : Prop := (∃ f, X = .inl f ∧ f ≤ t.1) ∨ ∃ (p' : Nat) (st' : PS), X = .inr (p', st') ∧ p ≤ p' ∧ p' ≤ t.1 ∧ PSok st'
theorem addSt_ok {st : PS} (h : PSok st) (h6 : st.1.1 < 6) {x y c : Nat} (hx : x ≤ 29) (hy : y ≤ 29) (hc : c ≤ 4) : PSok (addSt st x y c) := by
  obtain ⟨⟨h1, h2⟩, h3, h4, h5⟩ := h
  refine ⟨⟨by show st.1.1 + 1 ≤ 6; omega, fun s hs => ?_⟩, h3, fun k hk => ?_, fun s hs => ?_⟩
  · have hs : s < st.1.1 + 1 := hs
    show va_up st.1.2.1 st.1.1 x s ≤ 29 ∧ va_up st.1.2.2 st.1.1 y s ≤ 29
    by_cases e : s = st.1.1
    · subst e; simp [va_up]; exact ⟨hx, hy⟩
    · simp [va_up, e]; exact h2 s (by omega)
  · have := h4 k hk
    exact ⟨by show st.2.2.1 k < st.1.1 + 1; omega, this.2⟩
  · have hs : s < st.1.1 + 1 := hs
    show va_up st.2.2.2.2 st.1.1 c s ≤ 4
    by_cases e : s = st.1.1
    · subst e; simp [va_up]; exact hc
    · simp [va_up, e]; exact h5 s (by omega)
theorem addRd_ok {st : PS} (h : PSok st) (h9 : st.2.1 < 9) {s k : Nat} (hs : s < st.1.1) (hk : k ≤ 60) : PSok (addRd st s k) := by
  obtain ⟨h0, h3, h4, h5⟩ := h
  refine ⟨h0, by show st.2.1 + 1 ≤ 9; omega, fun j hj => ?_, h5⟩
  have hj : j < st.2.1 + 1 := hj
  show va_up st.2.2.1 st.2.1 s j < st.1.1 ∧ va_up st.2.2.2.1 st.2.1 k j ≤ 60
  by_cases e : j = st.2.1
  · subst e; simp [va_up]; exact ⟨hs, hk⟩
  · simp [va_up, e]; exact h4 j (by omega)
theorem spSt_go {t : TX} {q p : Nat} {st : PS} (hp : p ≤ t.1) (hq : q ≤ t.1) (hst : PSok st) : GO t p (spSt t q p st) := by
  have b1 := tE_le hp
  have b2 := tE_le b1.2.1
  have b3 := tE_le b2.2.1
  have b4 := tE_le b3.2.1
  unfold spSt
  by_cases c0 : st.1.1 < 6
  · rw [if_pos c0]
    by_cases c1 : isN t p 29
    · rw [if_pos c1]
      by_cases c2 : isN t (tE t p) 29
      · rw [if_pos c2]
        by_cases c3 : isK t (tE t (tE t p))
        · rw [if_pos c3]
          by_cases c4 : (tok t (tE t (tE t (tE t p)))).1 = 3
          · rw [if_pos c4]
            have v1 := isN_v hp c1
            have v2 := isN_v b1.2.1 c2
            have v3 := clkI_b (tok t (tE t (tE t p))).2.1
            exact Or.inr ⟨_, _, rfl, by omega, b4.2.1, addSt_ok hst c0 (by omega) (by omega) (by omega)⟩
          · rw [if_neg c4]; exact Or.inl ⟨_, rfl, b4.2.2⟩
        · rw [if_neg c3]; exact Or.inl ⟨_, rfl, b3.2.2⟩
      · rw [if_neg c2]; exact Or.inl ⟨_, rfl, b2.2.2⟩
    · rw [if_neg c1]; exact Or.inl ⟨_, rfl, b1.2.2⟩
  · rw [if_neg c0]; exact Or.inl ⟨_, rfl, hq⟩
theorem spRd_go {t : TX} {q p : Nat} {st : PS} (hp : p ≤ t.1) (hq : q ≤ t.1) (hst : PSok st) : GO t p (spRd t q p st) := by
  have b1 := tE_le hp
  have b2 := tE_le b1.2.1
  have b3 := tE_le b2.2.1
  unfold spRd
  by_cases c0 : st.2.1 < 9
  · rw [if_pos c0]
    by_cases c1 : isN t p ((st.1.1 : Int) - 1)
    · rw [if_pos c1]
      by_cases c2 : isN t (tE t p) 60
      · rw [if_pos c2]
        by_cases c4 : (tok t (tE t (tE t p))).1 = 3
        · rw [if_pos c4]
          have v1 := isN_v hp c1
          have v2 := isN_v b1.2.1 c2
          exact Or.inr ⟨_, _, rfl, by omega, b3.2.1, addRd_ok hst c0 (by omega) (by omega)⟩
        · rw [if_neg c4]; exact Or.inl ⟨_, rfl, b3.2.2⟩
      · rw [if_neg c2]; exact Or.inl ⟨_, rfl, b2.2.2⟩
    · rw [if_neg c1]; exact Or.inl ⟨_, rfl, b1.2.2⟩
  · rw [if_neg c0]; exact Or.inl ⟨_, rfl, hq⟩
theorem spIt_go {t : TX} {p : Nat} {st : PS} (hp : p ≤ t.1) (h0 : ¬ (tok t p).1 = 0) (hst : PSok st) : GO t (p + 1) (spIt t p st) := by
  have b1 := tE_le hp
  have b2 := (tok_b hp).2.2.2.2.1 h0
  have w : ∀ X, GO t (tE t p) X → GO t (p + 1) X := fun X h => h.imp id (fun ⟨p', st', e1, e2, e3⟩ => ⟨p', st', e1, by have : p < tE t p := b2; omega, e3⟩)
  unfold spIt
  split
  · exact w _ (spSt_go b1.2.1 b1.2.2 hst)
  · split
    · exact w _ (spRd_go b1.2.1 b1.2.2 hst)
    · exact Or.inl ⟨_, rfl, b1.2.2⟩
theorem prs_ok {t : TX} : ∀ (n p : Nat) (st : PS) (it : Nat), p ≤ t.1 → PSok st → ∀ r, prs t n p st it = .inr r → PSok r.2 := by
  intro n
  induction n with
  | zero => intro p st it _ _ r h; cases h
  | succ n ih =>
    intro p st it hp hst r h
    by_cases c : (tok t p).1 = 0
    · rw [prs_end c] at h
      cases h
      exact hst
    · rcases spIt_go hp c hst with ⟨f, e, -⟩ | ⟨p', st', e, e2, e3, e4⟩
      · rw [prs_inl c e] at h
        cases h
      · rw [prs_inr c e] at h
        exact ih p' st' (it + 1) e3 e4 r h
