/-! ===== what the elimination tells ===== -/
def N1 (m : Nat) (E : Nat → Nat → Int) : Prop := ∃ r a, r < m ∧ a < 3 ∧ E r a ≠ 0
def N2 (m : Nat) (E : Nat → Nat → Int) : Prop := ∃ r s a b, r < m ∧ s < m ∧ a < 3 ∧ b < 3 ∧ d2 (E r) (E s) a b ≠ 0
def N3 (m : Nat) (E : Nat → Nat → Int) : Prop := ∃ r s t, r < m ∧ s < m ∧ t < m ∧ d3 (E r) (E s) (E t) 0 1 2 ≠ 0
noncomputable def RK (m : Nat) (E : Nat → Nat → Int) : Nat := @ite _ (N3 m E) (Classical.propDecidable _) 3 (@ite _ (N2 m E) (Classical.propDecidable _) 2 (@ite _ (N1 m E) (Classical.propDecidable _) 1 0))
theorem N3_N2 {m : Nat} {E : Nat → Nat → Int} (h : N3 m E) : N2 m E := by
  obtain ⟨r, s, t, r1, s1, t1, h⟩ := h
  refine Classical.byContradiction fun q => h ?_
  have z : ∀ a b, a < 3 → b < 3 → d2 (E s) (E t) a b = 0 := fun a b ha hb => Classical.byContradiction fun q' => q ⟨s, t, a, b, s1, t1, ha, hb, q'⟩
  have e : d3 (E r) (E s) (E t) 0 1 2 = E r 0 * d2 (E s) (E t) 1 2 - E r 1 * d2 (E s) (E t) 0 2 + E r 2 * d2 (E s) (E t) 0 1 := by unfold d3 d2; grind
  rw [e, z 1 2 (by omega) (by omega), z 0 2 (by omega) (by omega), z 0 1 (by omega) (by omega)]
  simp
theorem N2_N1 {m : Nat} {E : Nat → Nat → Int} (h : N2 m E) : N1 m E := by
  obtain ⟨r, s, a, b, r1, s1, a1, b1, h⟩ := h
  refine Classical.byContradiction fun q => h ?_
  have z : ∀ a, a < 3 → E r a = 0 := fun a ha => Classical.byContradiction fun q' => q ⟨r, a, r1, ha, q'⟩
  unfold d2
  rw [z a a1, z b b1]
  simp
def Op (k m : Nat) (E : Nat → Nat → Int) : Prop := (k = 0 ∧ ∀ r, r < m → E r 3 = 0) ∨ (k = 1 ∧ ∀ r s a, r < m → s < m → a < 3 → d2 (E r) (E s) a 3 = 0) ∨ (k = 2 ∧ ∀ r s t a b, r < m → s < m → t < m → a < 3 → b < 3 → d3 (E r) (E s) (E t) b a 3 = 0)
def Sol (m : Nat) (E : Nat → Nat → Int) (X Y T D : Int) : Prop := ∀ r, r < m → E r 0 * X + E r 1 * Y + E r 2 * T = E r 3 * D
/-- two rows on one -/
theorem on1 {u f g : Nat → Int} {c a b : Nat} (hu : u c ≠ 0) (f1 : d2 u f c a = 0) (f2 : d2 u f c b = 0) (g1 : d2 u g c a = 0) (g2 : d2 u g c b = 0) : d2 f g a b = 0 := by
  have e : u c * (u c * d2 f g a b) = 0 := by
    unfold d2 at *
    have x1 : u c * f a = u a * f c := by omega
    have x2 : u c * f b = u b * f c := by omega
    have x3 : u c * g a = u a * g c := by omega
    have x4 : u c * g b = u b * g c := by omega
    have e : u c * (u c * (f a * g b - f b * g a)) = (u c * f a) * (u c * g b) - (u c * f b) * (u c * g a) := by grind
    rw [e, x1, x2, x3, x4]
    grind
  rcases Int.mul_eq_zero.mp e with q | q
  · exact absurd q hu
  · rcases Int.mul_eq_zero.mp q with q | q
    · exact absurd q hu
    · exact q
/-- three rows on two -/
theorem on2 {u v f g h : Nat → Int} {p q a b c : Nat} (hD : d2 u v p q ≠ 0) (f1 : d3 u v f p q a = 0) (f2 : d3 u v f p q b = 0) (f3 : d3 u v f p q c = 0) (g1 : d3 u v g p q a = 0) (g2 : d3 u v g p q b = 0) (g3 : d3 u v g p q c = 0) (h1 : d3 u v h p q a = 0) (h2 : d3 u v h p q b = 0) (h3 : d3 u v h p q c = 0) : d3 f g h a b c = 0 := by
  have L : ∀ (w : Nat → Int) (j : Nat), d3 u v w p q j = 0 → d2 u v p q * w j = d2 w v p q * u j + d2 u w p q * v j := fun w j hw => by
    have e : d2 u v p q * w j = d3 u v w p q j + (d2 w v p q * u j + d2 u w p q * v j) := by unfold d2 d3; grind
    rw [e, hw, Int.zero_add]
  have x1 := L f a f1
  have x2 := L f b f2
  have x3 := L f c f3
  have y1 := L g a g1
  have y2 := L g b g2
  have y3 := L g c g3
  have z1 := L h a h1
  have z2 := L h b h2
  have z3 := L h c h3
  generalize d2 u v p q = D at *
  generalize d2 f v p q = A1 at *
  generalize d2 u f p q = B1 at *
  generalize d2 g v p q = A2 at *
  generalize d2 u g p q = B2 at *
  generalize d2 h v p q = A3 at *
  generalize d2 u h p q = B3 at *
  have e : D * (D * (D * d3 f g h a b c)) = 0 := by
    have e : D * (D * (D * d3 f g h a b c)) = (D * f a) * ((D * g b) * (D * h c) - (D * g c) * (D * h b)) - (D * f b) * ((D * g a) * (D * h c) - (D * g c) * (D * h a)) + (D * f c) * ((D * g a) * (D * h b) - (D * g b) * (D * h a)) := by unfold d3; grind
    rw [e, x1, x2, x3, y1, y2, y3, z1, z2, z3]
    grind
  have K : ∀ x : Int, D * x = 0 → x = 0 := fun x hx => (Int.mul_eq_zero.mp hx).resolve_left hD
  exact K _ (K _ (K _ e))
theorem N3_perm {m : Nat} {E P : Nat → Nat → Int} (h : PermE m E P) {r s t : Nat} (hr : r < m) (hs : s < m) (ht : t < m) (hd : d3 (P r) (P s) (P t) 0 1 2 ≠ 0) : N3 m E := by
  obtain ⟨r', r1, r2⟩ := h.1 r hr
  obtain ⟨s', s1, s2⟩ := h.1 s hs
  obtain ⟨t', t1, t2⟩ := h.1 t ht
  rw [r2, s2, t2] at hd
  exact ⟨r', s', t', r1, s1, t1, hd⟩
theorem d3_uvu (u v : Nat → Int) (a b c : Nat) : d3 u v u a b c = 0 := by unfold d3; grind
theorem d3_uvv (u v : Nat → Int) (a b c : Nat) : d3 u v v a b c = 0 := by unfold d3; grind
theorem d2_uu (u : Nat → Int) (a b : Nat) : d2 u u a b = 0 := by unfold d2; grind
theorem Inv_rank {m : Nat} {E P R : Nat → Nat → Int} {k : Nat} {last : Int} (h : Inv m E 3 k P R last) : k = RK m E ∧ (k < 3 → ((∀ r, k ≤ r → r < m → R r 3 = 0) ↔ Op k m E)) := by
  obtain ⟨h1, h2, h3, h4, h5⟩ := h
  rcases h1 with ⟨q1, q2, q3⟩ | ⟨q1, a, q2, q3, q4⟩ | ⟨q1, a, b, q2, q3, q4, q5⟩ | ⟨q1, q2, q3, q4⟩
  · subst q1
    have z : ¬ N1 m E := fun ⟨r, a, r1, a1, hn⟩ => by
      obtain ⟨s, s1, s2⟩ := h5.2 r r1
      rw [s2, ← q3 s a s1 (by omega)] at hn
      exact hn (h4 s a (by omega) s1 a1)
    refine ⟨?_, fun _ => ?_⟩
    · unfold RK
      rw [if_neg (fun q => z (N2_N1 (N3_N2 q))), if_neg (fun q => z (N2_N1 q)), if_neg z]
    · constructor
      · intro hz
        refine Or.inl ⟨rfl, fun r hr => ?_⟩
        obtain ⟨s, s1, s2⟩ := h5.2 r hr
        rw [s2, ← q3 s 3 s1 (by omega)]
        exact hz s (by omega) s1
      · rintro (⟨-, hz⟩ | ⟨e, -⟩ | ⟨e, -⟩)
        · intro r _ hr
          obtain ⟨s, s1, s2⟩ := h5.1 r hr
          rw [q3 r 3 hr (by omega), s2]
          exact hz s s1
        · omega
        · omega
  · subst q1
    have hP : P 0 a ≠ 0 := by rw [← q3]; exact h2
    have hZ : ∀ r j, r < m → j < 3 → d2 (P 0) (P r) a j = 0 := fun r j hr hj => by
      by_cases c : r = 0
      · subst c; exact d2_uu _ _ _
      · have := h4 r j (by omega) hr hj
        rw [q4 r j hr (by omega)] at this
        unfold st1 at this
        rwa [if_neg c] at this
    have z : ¬ N2 m E := fun ⟨r, s, x, y, r1, s1, x1, y1, hn⟩ => by
      obtain ⟨r', r2, r3⟩ := h5.2 r r1
      obtain ⟨s', s2, s3⟩ := h5.2 s s1
      rw [r3, s3] at hn
      exact hn (on1 hP (hZ r' x r2 x1) (hZ r' y r2 y1) (hZ s' x s2 x1) (hZ s' y s2 y1))
    refine ⟨?_, fun _ => ?_⟩
    · unfold RK
      rw [if_neg (fun q => z (N3_N2 q)), if_neg z, if_pos]
      obtain ⟨s, s1, s2⟩ := h5.1 0 (by omega)
      exact ⟨s, a, s1, by omega, by rw [← s2]; exact hP⟩
    · constructor
      · intro hz
        have hZ3 : ∀ r, r < m → d2 (P 0) (P r) a 3 = 0 := fun r hr => by
          by_cases c : r = 0
          · subst c; exact d2_uu _ _ _
          · have := hz r (by omega) hr
            rw [q4 r 3 hr (by omega)] at this
            unfold st1 at this
            rwa [if_neg c] at this
        refine Or.inr (Or.inl ⟨rfl, fun r s x r1 s1 x1 => ?_⟩)
        obtain ⟨r', r2, r3⟩ := h5.2 r r1
        obtain ⟨s', s2, s3⟩ := h5.2 s s1
        rw [r3, s3]
        exact on1 hP (hZ r' x r2 x1) (hZ3 r' r2) (hZ s' x s2 x1) (hZ3 s' s2)
      · rintro (⟨e, -⟩ | ⟨-, hz⟩ | ⟨e, -⟩)
        · omega
        · intro r hr1 hr
          rw [q4 r 3 hr (by omega)]
          unfold st1
          rw [if_neg (by omega)]
          obtain ⟨r', r2, r3⟩ := h5.1 r hr
          obtain ⟨s', s2, s3⟩ := h5.1 0 (by omega)
          rw [r3, s3]
          exact hz s' r' a s2 r2 (by omega)
        · omega
  · subst q1
    have hP : d2 (P 0) (P 1) a b ≠ 0 := by rw [← q4]; exact h2
    have hZ : ∀ r j, r < m → j < 3 → d3 (P 0) (P 1) (P r) a b j = 0 := fun r j hr hj => by
      by_cases c : r = 0
      · subst c; exact d3_uvu _ _ _ _ _
      · by_cases c1 : r = 1
        · subst c1; exact d3_uvv _ _ _ _ _
        · have := h4 r j (by omega) hr hj
          rw [q5 r j hr (by omega)] at this
          unfold st2 at this
          rwa [if_neg c, if_neg c1] at this
    have z : ¬ N3 m E := fun ⟨r, s, t, r1, s1, t1, hn⟩ => by
      obtain ⟨r', r2, r3⟩ := h5.2 r r1
      obtain ⟨s', s2, s3⟩ := h5.2 s s1
      obtain ⟨t', t2, t3⟩ := h5.2 t t1
      rw [r3, s3, t3] at hn
      exact hn (on2 hP (hZ r' _ r2 (by omega)) (hZ r' _ r2 (by omega)) (hZ r' _ r2 (by omega)) (hZ s' _ s2 (by omega)) (hZ s' _ s2 (by omega)) (hZ s' _ s2 (by omega)) (hZ t' _ t2 (by omega)) (hZ t' _ t2 (by omega)) (hZ t' _ t2 (by omega)))
    refine ⟨?_, fun _ => ?_⟩
    · unfold RK
      rw [if_neg z, if_pos]
      obtain ⟨s, s1, s2⟩ := h5.1 0 (by omega)
      obtain ⟨t, t1, t2⟩ := h5.1 1 (by omega)
      exact ⟨s, t, a, b, s1, t1, by omega, by omega, by rw [← s2, ← t2]; exact hP⟩
    · constructor
      · intro hz
        have hZ3 : ∀ r, r < m → d3 (P 0) (P 1) (P r) a b 3 = 0 := fun r hr => by
          by_cases c : r = 0
          · subst c; exact d3_uvu _ _ _ _ _
          · by_cases c1 : r = 1
            · subst c1; exact d3_uvv _ _ _ _ _
            · have := hz r (by omega) hr
              rw [q5 r 3 hr (by omega)] at this
              unfold st2 at this
              rwa [if_neg c, if_neg c1] at this
        refine Or.inr (Or.inr ⟨rfl, fun r s t x y r1 s1 t1 x1 y1 => ?_⟩)
        obtain ⟨r', r2, r3⟩ := h5.2 r r1
        obtain ⟨s', s2, s3⟩ := h5.2 s s1
        obtain ⟨t', t2, t3⟩ := h5.2 t t1
        rw [r3, s3, t3]
        exact on2 hP (hZ r' _ r2 y1) (hZ r' _ r2 x1) (hZ3 r' r2) (hZ s' _ s2 y1) (hZ s' _ s2 x1) (hZ3 s' s2) (hZ t' _ t2 y1) (hZ t' _ t2 x1) (hZ3 t' t2)
      · rintro (⟨e, -⟩ | ⟨e, -⟩ | ⟨-, hz⟩)
        · omega
        · omega
        · intro r hr1 hr
          rw [q5 r 3 hr (by omega)]
          unfold st2
          rw [if_neg (by omega), if_neg (by omega)]
          obtain ⟨r', r2, r3⟩ := h5.1 r hr
          obtain ⟨s', s2, s3⟩ := h5.1 0 (by omega)
          obtain ⟨t', t2, t3⟩ := h5.1 1 (by omega)
          rw [r3, s3, t3]
          exact hz s' t' r' b a s2 t2 r2 (by omega) (by omega)
  · subst q1
    refine ⟨?_, fun q => by omega⟩
    unfold RK
    rw [if_pos]
    exact N3_perm h5 (show 0 < m by omega) (show 1 < m by omega) (show 2 < m by omega) (by rw [← q3]; exact h2)
/-- by three rows: what must be -/
theorem cramer {u v w : Nat → Int} {X Y T D : Int} (hu : u 0 * X + u 1 * Y + u 2 * T = u 3 * D) (hv : v 0 * X + v 1 * Y + v 2 * T = v 3 * D) (hw : w 0 * X + w 1 * Y + w 2 * T = w 3 * D) : d3 u v w 0 1 2 * X = D * d3 u v w 3 1 2 ∧ d3 u v w 0 1 2 * Y = D * d3 u v w 0 3 2 ∧ d3 u v w 0 1 2 * T = D * d3 u v w 0 1 3 := by
  refine ⟨?_, ?_, ?_⟩
  · have e : D * d3 u v w 3 1 2 = (u 3 * D) * (v 1 * w 2 - v 2 * w 1) - u 1 * ((v 3 * D) * w 2 - v 2 * (w 3 * D)) + u 2 * ((v 3 * D) * w 1 - v 1 * (w 3 * D)) := by unfold d3; grind
    rw [e, ← hu, ← hv, ← hw]
    unfold d3
    grind
  · have e : D * d3 u v w 0 3 2 = u 0 * ((v 3 * D) * w 2 - v 2 * (w 3 * D)) - (u 3 * D) * (v 0 * w 2 - v 2 * w 0) + u 2 * (v 0 * (w 3 * D) - (v 3 * D) * w 0) := by unfold d3; grind
    rw [e, ← hu, ← hv, ← hw]
    unfold d3
    grind
  · have e : D * d3 u v w 0 1 3 = u 0 * (v 1 * (w 3 * D) - (v 3 * D) * w 1) - u 1 * (v 0 * (w 3 * D) - (v 3 * D) * w 0) + (u 3 * D) * (v 0 * w 1 - v 1 * w 0) := by unfold d3; grind
    rw [e, ← hu, ← hv, ← hw]
    unfold d3
    grind
theorem four_z (u v w z : Nat → Int) : z 0 * d3 u v w 3 1 2 + z 1 * d3 u v w 0 3 2 + z 2 * d3 u v w 0 1 3 = z 3 * d3 u v w 0 1 2 - d4 u v w z := by
  unfold d4 d3
  grind
theorem four_0 (u v w : Nat → Int) : u 0 * d3 u v w 3 1 2 + u 1 * d3 u v w 0 3 2 + u 2 * d3 u v w 0 1 3 = u 3 * d3 u v w 0 1 2 := by
  unfold d3
  grind
theorem four_1 (u v w : Nat → Int) : v 0 * d3 u v w 3 1 2 + v 1 * d3 u v w 0 3 2 + v 2 * d3 u v w 0 1 3 = v 3 * d3 u v w 0 1 2 := by
  unfold d3
  grind
theorem four_2 (u v w : Nat → Int) : w 0 * d3 u v w 3 1 2 + w 1 * d3 u v w 0 3 2 + w 2 * d3 u v w 0 1 3 = w 3 * d3 u v w 0 1 2 := by
  unfold d3
  grind
theorem mul_can {d x y : Int} (hd : d ≠ 0) (h : d * x = d * y) : x = y := Int.eq_of_mul_eq_mul_left hd h
/-- three rows of rank three: their own answer fills all that any answer fills -/
theorem Sol_three {m : Nat} {E : Nat → Nat → Int} {X Y T D : Int} (h : Sol m E X Y T D) (hD : D ≠ 0) {r s t : Nat} (hr : r < m) (hs : s < m) (ht : t < m) : Sol m E (d3 (E r) (E s) (E t) 3 1 2) (d3 (E r) (E s) (E t) 0 3 2) (d3 (E r) (E s) (E t) 0 1 3) (d3 (E r) (E s) (E t) 0 1 2) := by
  obtain ⟨c1, c2, c3⟩ := cramer (h r hr) (h s hs) (h t ht)
  intro i hi
  refine mul_can hD ?_
  have e1 : D * (E i 0 * d3 (E r) (E s) (E t) 3 1 2 + E i 1 * d3 (E r) (E s) (E t) 0 3 2 + E i 2 * d3 (E r) (E s) (E t) 0 1 3) = E i 0 * (D * d3 (E r) (E s) (E t) 3 1 2) + E i 1 * (D * d3 (E r) (E s) (E t) 0 3 2) + E i 2 * (D * d3 (E r) (E s) (E t) 0 1 3) := by grind
  rw [e1, ← c1, ← c2, ← c3]
  have e2 : E i 0 * (d3 (E r) (E s) (E t) 0 1 2 * X) + E i 1 * (d3 (E r) (E s) (E t) 0 1 2 * Y) + E i 2 * (d3 (E r) (E s) (E t) 0 1 2 * T) = d3 (E r) (E s) (E t) 0 1 2 * (E i 0 * X + E i 1 * Y + E i 2 * T) := by grind
  rw [e2, h i hi]
  grind
theorem Sol_un {m : Nat} {E : Nat → Nat → Int} {X Y T D X' Y' T' D' : Int} (h : Sol m E X Y T D) (h' : Sol m E X' Y' T' D') (h3 : N3 m E) : X * D' = X' * D ∧ Y * D' = Y' * D ∧ T * D' = T' * D := by
  obtain ⟨r, s, t, hr, hs, ht, hd⟩ := h3
  obtain ⟨c1, c2, c3⟩ := cramer (h r hr) (h s hs) (h t ht)
  obtain ⟨g1, g2, g3⟩ := cramer (h' r hr) (h' s hs) (h' t ht)
  refine ⟨mul_can hd ?_, mul_can hd ?_, mul_can hd ?_⟩
  · rw [← Int.mul_assoc, c1, ← Int.mul_assoc, g1]; grind
  · rw [← Int.mul_assoc, c2, ← Int.mul_assoc, g2]; grind
  · rw [← Int.mul_assoc, c3, ← Int.mul_assoc, g3]; grind
theorem Inv_sol {m : Nat} {E P R : Nat → Nat → Int} {last : Int} (h : Inv m E 3 3 P R last) : R 2 2 ≠ 0 ∧ ((∀ r, 3 ≤ r → r < m → R r 3 = 0) → Sol m E (R 0 3) (R 1 3) (R 2 3) (R 2 2)) ∧ ∀ X Y T D, D ≠ 0 → Sol m E X Y T D → ∀ r, 3 ≤ r → r < m → R r 3 = 0 := by
  obtain ⟨h1, h2, h3, h4, h5⟩ := h
  rcases h1 with ⟨q1, -⟩ | ⟨q1, -⟩ | ⟨q1, -⟩ | ⟨-, -, q3, q4⟩
  · omega
  · omega
  · omega
  · have e0 : R 0 3 = d3 (P 0) (P 1) (P 2) 3 1 2 := by rw [q4 0 3 (by omega) (by omega)]; unfold st3; rw [if_pos rfl]
    have e1 : R 1 3 = d3 (P 0) (P 1) (P 2) 0 3 2 := by rw [q4 1 3 (by omega) (by omega)]; unfold st3; rw [if_neg (by decide), if_pos rfl]
    have e2 : ∀ j, j ≤ 3 → R 2 j = d3 (P 0) (P 1) (P 2) 0 1 j := fun j hj => by rw [q4 2 j (by omega) hj]; unfold st3; rw [if_neg (by decide), if_neg (by decide), if_pos rfl]
    have er : ∀ r, 3 ≤ r → r < m → R r 3 = d4 (P 0) (P 1) (P 2) (P r) := fun r hr hr2 => by rw [q4 r 3 hr2 (by omega)]; unfold st3; rw [if_neg (by omega), if_neg (by omega), if_neg (by omega), if_pos rfl]
    refine ⟨by rw [e2 2 (by omega), ← q3]; exact h2, fun hz i hi => ?_, fun X Y T D hD hS r hr hr2 => ?_⟩
    · rw [e0, e1, e2 3 (by omega), e2 2 (by omega)]
      obtain ⟨s, s1, s2⟩ := h5.2 i hi
      rw [s2]
      by_cases c0 : s = 0
      · subst c0; exact four_0 _ _ _
      · by_cases c1 : s = 1
        · subst c1; exact four_1 _ _ _
        · by_cases c2 : s = 2
          · subst c2; exact four_2 _ _ _
          · have := hz s (by omega) s1
            rw [er s (by omega) s1] at this
            rw [four_z, this, Int.sub_zero]
    · rw [er r hr hr2]
      obtain ⟨a, a1, a2⟩ := h5.1 0 (by omega)
      obtain ⟨b, b1, b2⟩ := h5.1 1 (by omega)
      obtain ⟨c, c1, c2⟩ := h5.1 2 (by omega)
      obtain ⟨d, d1, d2⟩ := h5.1 r hr2
      rw [a2, b2, c2, d2]
      have w := Sol_three hS hD a1 b1 c1 d d1
      rw [four_z] at w
      omega
