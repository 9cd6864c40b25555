/-! ===== rows of numbers: minors ===== -/
def d2 (u v : Nat → Int) (a b : Nat) : Int := u a * v b - u b * v a
def d3 (u v w : Nat → Int) (a b c : Nat) : Int := u a * (v b * w c - v c * w b) - u b * (v a * w c - v c * w a) + u c * (v a * w b - v b * w a)
def d4 (u v w z : Nat → Int) : Int := z 3 * d3 u v w 0 1 2 - z 2 * d3 u v w 0 1 3 + z 1 * d3 u v w 0 2 3 - z 0 * d3 u v w 1 2 3
theorem s12 (u v w : Nat → Int) (a b j : Nat) : d2 u v a b * d2 u w a j - d2 u w a b * d2 u v a j = u a * d3 u v w a b j := by
  unfold d2 d3
  grind
theorem s12_0 (u v : Nat → Int) (a b j : Nat) : d2 u v a b * u j - u b * d2 u v a j = u a * d2 u v j b := by
  unfold d2
  grind
theorem s23_0 (u v w : Nat → Int) (j : Nat) : d3 u v w 0 1 2 * d2 u v j 1 - d2 u v 2 1 * d3 u v w 0 1 j = d2 u v 0 1 * d3 u v w j 1 2 := by
  unfold d2 d3
  grind
theorem s23_1 (u v w : Nat → Int) (j : Nat) : d3 u v w 0 1 2 * d2 u v 0 j - d2 u v 0 2 * d3 u v w 0 1 j = d2 u v 0 1 * d3 u v w 0 j 2 := by
  unfold d2 d3
  grind
theorem s34 (u v w z : Nat → Int) : d3 u v w 0 1 2 * d3 u v z 0 1 3 - d3 u v z 0 1 2 * d3 u v w 0 1 3 = d2 u v 0 1 * d4 u v w z := by
  unfold d4 d2 d3
  grind
/-! how large -/
theorem na_mul {a b : Int} {A B : Nat} (h : a.natAbs ≤ A) (h2 : b.natAbs ≤ B) : (a * b).natAbs ≤ A * B := by
  rw [Int.natAbs_mul]; exact Nat.mul_le_mul h h2
theorem na_add {a b : Int} {A B : Nat} (h : a.natAbs ≤ A) (h2 : b.natAbs ≤ B) : (a + b).natAbs ≤ A + B := by omega
theorem na_sub {a b : Int} {A B : Nat} (h : a.natAbs ≤ A) (h2 : b.natAbs ≤ B) : (a - b).natAbs ≤ A + B := by omega
theorem d2_b {u v : Nat → Int} {a b A B : Nat} (h1 : (u a).natAbs ≤ A) (h2 : (v a).natAbs ≤ A) (h3 : (u b).natAbs ≤ B) (h4 : (v b).natAbs ≤ B) : (d2 u v a b).natAbs ≤ A * B + B * A := na_sub (na_mul h1 h4) (na_mul h3 h2)
theorem d3_b {u v w : Nat → Int} {a b c A B C : Nat} (h1 : (u a).natAbs ≤ A) (h2 : (v a).natAbs ≤ A) (h3 : (w a).natAbs ≤ A) (g1 : (u b).natAbs ≤ B) (g2 : (v b).natAbs ≤ B) (g3 : (w b).natAbs ≤ B) (f1 : (u c).natAbs ≤ C) (f2 : (v c).natAbs ≤ C) (f3 : (w c).natAbs ≤ C) : (d3 u v w a b c).natAbs ≤ A * (B * C + C * B) + B * (A * C + C * A) + C * (A * B + B * A) :=
  na_add (na_sub (na_mul h1 (na_sub (na_mul g2 f3) (na_mul f2 g3))) (na_mul g1 (na_sub (na_mul h2 f3) (na_mul f2 h3)))) (na_mul f1 (na_sub (na_mul h2 g3) (na_mul g2 h3)))
def Bd (m : Nat) (E : Nat → Nat → Int) : Prop := ∀ r, r < m → (∀ j, j < 3 → (E r j).natAbs ≤ 132) ∧ (E r 3).natAbs ≤ 5651
theorem Bd.any {m : Nat} {E : Nat → Nat → Int} (h : Bd m E) {r j : Nat} (hr : r < m) (hj : j ≤ 3) : (E r j).natAbs ≤ 5651 := by
  rcases Nat.lt_or_ge j 3 with q | q
  · have := (h r hr).1 j q; omega
  · have : j = 3 := by omega
    subst this; exact (h r hr).2
/-! the stages of the elimination -/
def sw (P : Nat → Nat → Int) (k p r : Nat) : Nat → Int := if r = k then P p else if r = p then P k else P r
def st1 (P : Nat → Nat → Int) (c r j : Nat) : Int := if r = 0 then P 0 j else d2 (P 0) (P r) c j
def st2 (P : Nat → Nat → Int) (c e r j : Nat) : Int := if r = 0 then d2 (P 0) (P 1) j e else if r = 1 then d2 (P 0) (P 1) c j else d3 (P 0) (P 1) (P r) c e j
def st3 (P : Nat → Nat → Int) (r j : Nat) : Int := if r = 0 then d3 (P 0) (P 1) (P 2) j 1 2 else if r = 1 then d3 (P 0) (P 1) (P 2) 0 j 2 else if r = 2 then d3 (P 0) (P 1) (P 2) 0 1 j else if j = 3 then d4 (P 0) (P 1) (P 2) (P r) else 0
def Stg (m c k : Nat) (P R : Nat → Nat → Int) (last : Int) : Prop :=
  (k = 0 ∧ last = 1 ∧ ∀ r j, r < m → j ≤ 3 → R r j = P r j) ∨
  (k = 1 ∧ ∃ a, a < c ∧ last = P 0 a ∧ ∀ r j, r < m → j ≤ 3 → R r j = st1 P a r j) ∨
  (k = 2 ∧ ∃ a b, a < b ∧ b < c ∧ last = d2 (P 0) (P 1) a b ∧ ∀ r j, r < m → j ≤ 3 → R r j = st2 P a b r j) ∨
  (k = 3 ∧ c = 3 ∧ last = d3 (P 0) (P 1) (P 2) 0 1 2 ∧ ∀ r j, r < m → j ≤ 3 → R r j = st3 P r j)
def PermE (m : Nat) (E P : Nat → Nat → Int) : Prop := (∀ r, r < m → ∃ s, s < m ∧ P r = E s) ∧ ∀ r, r < m → ∃ s, s < m ∧ E r = P s
theorem perm_sw {m : Nat} {E P : Nat → Nat → Int} (h : PermE m E P) {k p : Nat} (hk : k < m) (hp : p < m) : PermE m E (sw P k p) := by
  refine ⟨fun r hr => ?_, fun r hr => ?_⟩
  · unfold sw
    split
    · exact h.1 p hp
    · split
      · exact h.1 k hk
      · exact h.1 r hr
  · obtain ⟨s, s1, s2⟩ := h.2 r hr
    by_cases e : s = k
    · refine ⟨p, hp, ?_⟩
      unfold sw
      by_cases e2 : p = k
      · rw [if_pos e2, s2, e, e2]
      · rw [if_neg e2, if_pos rfl, s2, e]
    · by_cases e2 : s = p
      · refine ⟨k, hk, ?_⟩
        unfold sw
        rw [if_pos rfl, s2, e2]
      · refine ⟨s, s1, ?_⟩
        unfold sw
        rw [if_neg e, if_neg e2, s2]
theorem perm_bd {m : Nat} {E P : Nat → Nat → Int} (h : PermE m E P) (hB : Bd m E) : Bd m P := fun r hr => by
  obtain ⟨s, s1, s2⟩ := h.1 r hr
  rw [s2]; exact hB s s1
def Inv (m : Nat) (E : Nat → Nat → Int) (c k : Nat) (P R : Nat → Nat → Int) (last : Int) : Prop := Stg m c k P R last ∧ last ≠ 0 ∧ k ≤ m ∧ (∀ r j, k ≤ r → r < m → j < c → R r j = 0) ∧ PermE m E P
theorem Inv.zero {m : Nat} {E : Nat → Nat → Int} : Inv m E 0 0 E E 1 := ⟨Or.inl ⟨rfl, rfl, fun _ _ _ _ => rfl⟩, by decide, by omega, fun _ _ _ _ h => by omega, fun r hr => ⟨r, hr, rfl⟩, fun r hr => ⟨r, hr, rfl⟩⟩
theorem Inv.no {m : Nat} {E P R : Nat → Nat → Int} {c k : Nat} {last : Int} (h : Inv m E c k P R last) (hc : c < 3) (hz : ∀ r, k ≤ r → r < m → R r c = 0) : Inv m E (c + 1) k P R last := by
  obtain ⟨h1, h2, h3, h4, h5⟩ := h
  refine ⟨?_, h2, h3, fun r j r1 r2 r3 => ?_, h5⟩
  · rcases h1 with q | ⟨q1, a, q2, q3⟩ | ⟨q1, a, b, q2, q3, q4⟩ | ⟨q1, q2, q3⟩
    · exact Or.inl q
    · exact Or.inr (Or.inl ⟨q1, a, by omega, q3⟩)
    · exact Or.inr (Or.inr (Or.inl ⟨q1, a, b, q2, by omega, q4⟩))
    · omega
  · by_cases e : j = c
    · subst e; exact hz r r1 r2
    · exact h4 r j r1 r2 (by omega)
/-- what a pivot at row p makes -/
def piv (R : Nat → Nat → Int) (k p c : Nat) (last : Int) (r j : Nat) : Int := if r = k then sw R k p k j else (sw R k p k c * sw R k p r j - sw R k p r c * sw R k p k j).tdiv last
theorem sw_k (P : Nat → Nat → Int) (k p : Nat) : sw P k p k = P p := if_pos rfl
theorem sw_lt (P : Nat → Nat → Int) {k p r : Nat} (h : r < k) (h2 : k ≤ p) : sw P k p r = P r := by
  unfold sw; rw [if_neg (by omega), if_neg (by omega)]
/-- the swap leaves the form -/
theorem sw_st {m k p : Nat} {P R : Nat → Nat → Int} (hk : k < m) (hp : p < m) (hkp : k ≤ p) (f : (Nat → Nat → Int) → Nat → Nat → Int) (hf : ∀ r j, r < m → j ≤ 3 → R r j = f P r j) (h1 : ∀ P' : Nat → Nat → Int, (∀ i, i < k → P' i = P i) → ∀ r r' j, k ≤ r → k ≤ r' → P' r = P r' → f P' r j = f P r' j) (h2 : ∀ P' : Nat → Nat → Int, (∀ i, i < k → P' i = P i) → ∀ r j, r < k → f P' r j = f P r j) : ∀ r j, r < m → j ≤ 3 → sw R k p r j = f (sw P k p) r j := by
  have e0 : ∀ i, i < k → sw P k p i = P i := fun i hi => sw_lt P hi hkp
  intro r j hr hj
  by_cases c1 : r = k
  · subst c1
    rw [sw_k, hf p j hp hj]
    exact (h1 _ e0 r p j (by omega) hkp (sw_k P r p)).symm
  · by_cases c2 : r = p
    · subst c2
      have e : sw R k r r = R k := by unfold sw; rw [if_neg c1, if_pos rfl]
      have e2 : sw P k r r = P k := by unfold sw; rw [if_neg c1, if_pos rfl]
      rw [e, hf k j hk hj]
      exact (h1 _ e0 r k j hkp (by omega) e2).symm
    · have e : sw R k p r = R r := by unfold sw; rw [if_neg c1, if_neg c2]
      have e2 : sw P k p r = P r := by unfold sw; rw [if_neg c1, if_neg c2]
      rw [e, hf r j hr hj]
      rcases Nat.lt_or_ge r k with q | q
      · exact (h2 _ e0 r j q).symm
      · exact (h1 _ e0 r r j q q e2).symm
theorem Inv_piv {m : Nat} {E P R : Nat → Nat → Int} {c k p : Nat} {last : Int} (h : Inv m E c k P R last) (hc : c < 3) (hkp : k ≤ p) (hp : p < m) (hn : R p c ≠ 0) : Inv m E (c + 1) (k + 1) (sw P k p) (piv R k p c last) (R p c) := by
  obtain ⟨h1, h2, h3, h4, h5⟩ := h
  have hk : k < m := by omega
  have hlead : sw R k p k c = R p c := by rw [sw_k]
  refine ⟨?_, hn, by omega, fun r j r1 r2 r3 => ?_, perm_sw h5 hk hp⟩
  · rcases h1 with ⟨q1, q2, q3⟩ | ⟨q1, a, q2, q3, q4⟩ | ⟨q1, a, b, q2, q3, q4, q5⟩ | ⟨q1, q2, q3⟩
    · subst q1
      have g := sw_st (k := 0) hk hp hkp (fun P r j => P r j) q3 (fun P' _ r r' j _ _ e => by show P' r j = P r' j; rw [e]) (fun P' _ r j hr => by omega)
      refine Or.inr (Or.inl ⟨rfl, c, by omega, ?_, fun r j hr hj => ?_⟩)
      · rw [← hlead, g 0 c hk (by omega)]
      · unfold piv st1
        rw [q2, Int.tdiv_one]
        by_cases c1 : r = 0
        · rw [if_pos c1, if_pos c1, g 0 j hk hj]
        · rw [if_neg c1, if_neg c1, g 0 j hk hj, g 0 c hk (by omega), g r j hr hj, g r c hr (by omega)]
          unfold d2
          grind
    · subst q1
      have g := sw_st (k := 1) hk hp hkp (fun P r j => st1 P a r j) q4 (fun P' h0 r r' j h1 h2 e => by
        show st1 P' a r j = st1 P a r' j
        unfold st1
        rw [if_neg (by omega), if_neg (by omega), h0 0 (by omega), e]) (fun P' h0 r j hr => by
        show st1 P' a r j = st1 P a r j
        unfold st1
        rw [if_pos (by omega), if_pos (by omega), h0 0 (by omega)])
      have hP0 : sw P 1 p 0 = P 0 := sw_lt P (by omega) hkp
      have hd : ∀ j, st1 (sw P 1 p) a 1 j = d2 (sw P 1 p 0) (sw P 1 p 1) a j := fun j => by unfold st1; rw [if_neg (by decide)]
      refine Or.inr (Or.inr (Or.inl ⟨rfl, a, c, q2, by omega, ?_, fun r j hr hj => ?_⟩))
      · rw [← hlead, g 1 c hk (by omega), hd]
      · unfold piv st2
        rw [q3] at h2 ⊢
        rw [← hP0] at h2 ⊢
        by_cases c0 : r = 0
        · subst c0
          rw [if_neg (by decide), if_pos rfl, g 1 c hk (by omega), g 1 j hk hj, g 0 j hr hj, g 0 c hr (by omega), hd, hd]
          show (d2 _ _ a c * st1 (sw P 1 p) a 0 j - st1 (sw P 1 p) a 0 c * _).tdiv _ = _
          have hz : ∀ j, st1 (sw P 1 p) a 0 j = sw P 1 p 0 j := fun j => by unfold st1; rw [if_pos rfl]
          rw [hz, hz, s12_0, Int.mul_tdiv_cancel_left _ h2]
        · by_cases c1 : r = 1
          · subst c1
            rw [if_pos rfl, if_neg (by decide), if_pos rfl, g 1 j hk hj, hd]
          · rw [if_neg c1, if_neg c0, if_neg c1, g 1 c hk (by omega), g 1 j hk hj, g r j hr hj, g r c hr (by omega), hd, hd]
            show (d2 _ _ a c * st1 (sw P 1 p) a r j - st1 (sw P 1 p) a r c * _).tdiv _ = _
            have hz : ∀ j, st1 (sw P 1 p) a r j = d2 (sw P 1 p 0) (sw P 1 p r) a j := fun j => by unfold st1; rw [if_neg c0]
            rw [hz, hz, s12, Int.mul_tdiv_cancel_left _ h2]
    · subst q1
      have ha : a = 0 := by omega
      have hb : b = 1 := by omega
      have hc2 : c = 2 := by omega
      subst ha hb hc2
      have g := sw_st (k := 2) hk hp hkp (fun P r j => st2 P 0 1 r j) q5 (fun P' h0 r r' j h1 h2 e => by
        show st2 P' 0 1 r j = st2 P 0 1 r' j
        unfold st2
        rw [if_neg (by omega), if_neg (by omega), if_neg (by omega), if_neg (by omega), h0 0 (by omega), h0 1 (by omega), e]) (fun P' h0 r j hr => by
        show st2 P' 0 1 r j = st2 P 0 1 r j
        unfold st2
        rw [h0 0 (by omega), h0 1 (by omega)]
        by_cases c0 : r = 0
        · rw [if_pos c0, if_pos c0]
        · rw [if_neg c0, if_neg c0, if_pos (by omega), if_pos (by omega)])
      have hP0 : sw P 2 p 0 = P 0 := sw_lt P (by omega) hkp
      have hP1 : sw P 2 p 1 = P 1 := sw_lt P (by omega) hkp
      rw [← hP0, ← hP1] at q4
      generalize sw P 2 p = P' at g q4 ⊢
      have hd : ∀ j, st2 P' 0 1 2 j = d3 (P' 0) (P' 1) (P' 2) 0 1 j := fun j => by unfold st2; rw [if_neg (by decide), if_neg (by decide)]
      refine Or.inr (Or.inr (Or.inr ⟨rfl, rfl, ?_, fun r j hr hj => ?_⟩))
      · rw [← hlead, g 2 2 hk (by omega), hd]
      · unfold piv st3
        rw [q4] at h2 ⊢
        by_cases c0 : r = 0
        · subst c0
          rw [if_neg (by decide), if_pos rfl, g 2 2 hk (by omega), g 2 j hk hj, g 0 j hr hj, g 0 2 hr (by omega), hd, hd]
          show (d3 _ _ _ 0 1 2 * st2 P' 0 1 0 j - st2 P' 0 1 0 2 * _).tdiv _ = _
          have hz : ∀ j, st2 P' 0 1 0 j = d2 (P' 0) (P' 1) j 1 := fun j => by unfold st2; rw [if_pos rfl]
          rw [hz, hz, s23_0, Int.mul_tdiv_cancel_left _ h2]
        · by_cases c1 : r = 1
          · subst c1
            rw [if_neg (by decide), if_neg (by decide), if_pos rfl, g 2 2 hk (by omega), g 2 j hk hj, g 1 j hr hj, g 1 2 hr (by omega), hd, hd]
            show (d3 _ _ _ 0 1 2 * st2 P' 0 1 1 j - st2 P' 0 1 1 2 * _).tdiv _ = _
            have hz : ∀ j, st2 P' 0 1 1 j = d2 (P' 0) (P' 1) 0 j := fun j => by unfold st2; rw [if_neg (by decide), if_pos rfl]
            rw [hz, hz, s23_1, Int.mul_tdiv_cancel_left _ h2]
          · by_cases c2 : r = 2
            · subst c2
              rw [if_pos rfl, if_neg (by decide), if_neg (by decide), if_pos rfl, g 2 j hk hj, hd]
            · rw [if_neg c2, if_neg c0, if_neg c1, if_neg c2, g 2 2 hk (by omega), g 2 j hk hj, g r j hr hj, g r 2 hr (by omega), hd, hd]
              show (d3 _ _ _ 0 1 2 * st2 P' 0 1 r j - st2 P' 0 1 r 2 * _).tdiv _ = _
              have hz : ∀ j, st2 P' 0 1 r j = d3 (P' 0) (P' 1) (P' r) 0 1 j := fun j => by unfold st2; rw [if_neg c0, if_neg c1]
              rw [hz, hz]
              by_cases c3 : j = 3
              · subst c3
                rw [if_pos rfl, s34, Int.mul_tdiv_cancel_left _ h2]
              · rw [if_neg c3]
                rcases (show j = 0 ∨ j = 1 ∨ j = 2 by omega) with e | e | e
                · subst e
                  rw [show ∀ w, d3 (P' 0) (P' 1) w 0 1 0 = 0 from fun w => by unfold d3; grind, show ∀ w, d3 (P' 0) (P' 1) w 0 1 0 = 0 from fun w => by unfold d3; grind]
                  simp
                · subst e
                  rw [show ∀ w, d3 (P' 0) (P' 1) w 0 1 1 = 0 from fun w => by unfold d3; grind, show ∀ w, d3 (P' 0) (P' 1) w 0 1 1 = 0 from fun w => by unfold d3; grind]
                  simp
                · subst e
                  rw [Int.mul_comm, Int.sub_self]
                  simp
    · omega
  · unfold piv
    rw [if_neg (by omega)]
    by_cases e : j = c
    · subst e
      rw [Int.mul_comm, Int.sub_self]
      simp
    · have e1 : sw R k p k j = 0 := by rw [sw_k]; exact h4 p j hkp hp (by omega)
      have e2 : sw R k p r j = 0 := by
        unfold sw
        rw [if_neg (by omega)]
        split
        · exact h4 k j (by omega) hk (by omega)
        · exact h4 r j (by omega) r2 (by omega)
      rw [e1, e2]
      simp
