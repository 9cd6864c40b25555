/-! ===== the class: the elimination ===== -/
theorem Inv_bd {m : Nat} {E P R : Nat → Nat → Int} {c k : Nat} {last : Int} (h : Inv m E c k P R last) (hB : Bd m E) (hc : c ≤ 3) : (last.natAbs ≤ 13799808) ∧ ∀ r, r < m → (∀ j, j < 3 → (R r j).natAbs ≤ 13799808) ∧ (R r 3).natAbs ≤ 400000000000 ∧ (k < 3 → (R r 3).natAbs ≤ 590778144) := by
  obtain ⟨h1, h2, h3, h4, h5⟩ := h
  have hP := perm_bd h5 hB
  have p3 : ∀ r j, r < m → j < 3 → (P r j).natAbs ≤ 132 := fun r j hr hj => (hP r hr).1 j hj
  have p4 : ∀ r, r < m → (P r 3).natAbs ≤ 5651 := fun r hr => (hP r hr).2
  rcases h1 with ⟨q1, q2, q3⟩ | ⟨q1, a, q2, q3, q4⟩ | ⟨q1, a, b, q2, q3, q4, q5⟩ | ⟨q1, q2, q3, q4⟩
  · refine ⟨by rw [q2]; decide, fun r hr => ⟨fun j hj => ?_, ?_, fun _ => ?_⟩⟩
    · rw [q3 r j hr (by omega)]; have := p3 r j hr hj; omega
    · rw [q3 r 3 hr (by omega)]; have := p4 r hr; omega
    · rw [q3 r 3 hr (by omega)]; have := p4 r hr; omega
  · have ha : a < 3 := by omega
    have e3 : ∀ r, r < m → (st1 P a r 3).natAbs ≤ 1491864 := fun r hr => by
      unfold st1
      split
      · have := p4 0 (by omega); omega
      · exact Nat.le_trans (d2_b (A := 132) (B := 5651) (p3 0 a (by omega) ha) (p3 r a hr ha) (p4 0 (by omega)) (p4 r hr)) (by decide)
    refine ⟨by rw [q3]; have := p3 0 a (by omega) ha; omega, fun r hr => ⟨fun j hj => ?_, ?_, fun _ => ?_⟩⟩
    · rw [q4 r j hr (by omega)]
      unfold st1
      split
      · have := p3 0 j (by omega) hj; omega
      · exact Nat.le_trans (d2_b (A := 132) (B := 132) (p3 0 a (by omega) ha) (p3 r a hr ha) (p3 0 j (by omega) hj) (p3 r j hr hj)) (by decide)
    · rw [q4 r 3 hr (by omega)]; have := e3 r hr; omega
    · rw [q4 r 3 hr (by omega)]; have := e3 r hr; omega
  · have ha : a < 3 := by omega
    have hb : b < 3 := by omega
    have e3 : ∀ r, r < m → (st2 P a b r 3).natAbs ≤ 590778144 := fun r hr => by
      unfold st2
      split
      · exact Nat.le_trans (d2_b (A := 5651) (B := 132) (p4 0 (by omega)) (p4 1 (by omega)) (p3 0 b (by omega) hb) (p3 1 b (by omega) hb)) (by decide)
      · split
        · exact Nat.le_trans (d2_b (A := 132) (B := 5651) (p3 0 a (by omega) ha) (p3 1 a (by omega) ha) (p4 0 (by omega)) (p4 1 (by omega))) (by decide)
        · exact Nat.le_trans (d3_b (A := 132) (B := 132) (C := 5651) (p3 0 a (by omega) ha) (p3 1 a (by omega) ha) (p3 r a hr ha) (p3 0 b (by omega) hb) (p3 1 b (by omega) hb) (p3 r b hr hb) (p4 0 (by omega)) (p4 1 (by omega)) (p4 r hr)) (by decide)
    refine ⟨?_, fun r hr => ⟨fun j hj => ?_, ?_, fun _ => ?_⟩⟩
    · rw [q4]
      exact Nat.le_trans (d2_b (A := 132) (B := 132) (p3 0 a (by omega) ha) (p3 1 a (by omega) ha) (p3 0 b (by omega) hb) (p3 1 b (by omega) hb)) (by decide)
    · rw [q5 r j hr (by omega)]
      unfold st2
      split
      · exact Nat.le_trans (d2_b (A := 132) (B := 132) (p3 0 j (by omega) hj) (p3 1 j (by omega) hj) (p3 0 b (by omega) hb) (p3 1 b (by omega) hb)) (by decide)
      · split
        · exact Nat.le_trans (d2_b (A := 132) (B := 132) (p3 0 a (by omega) ha) (p3 1 a (by omega) ha) (p3 0 j (by omega) hj) (p3 1 j (by omega) hj)) (by decide)
        · exact Nat.le_trans (d3_b (A := 132) (B := 132) (C := 132) (p3 0 a (by omega) ha) (p3 1 a (by omega) ha) (p3 r a hr ha) (p3 0 b (by omega) hb) (p3 1 b (by omega) hb) (p3 r b hr hb) (p3 0 j (by omega) hj) (p3 1 j (by omega) hj) (p3 r j hr hj)) (by decide)
    · rw [q5 r 3 hr (by omega)]; have := e3 r hr; omega
    · rw [q5 r 3 hr (by omega)]; exact e3 r hr
  · have m3 : 3 ≤ m := by omega
    have D : ∀ x y z, x < 3 → y < 3 → z < 3 → (d3 (P 0) (P 1) (P 2) x y z).natAbs ≤ 13799808 := fun x y z hx hy hz => Nat.le_trans (d3_b (A := 132) (B := 132) (C := 132) (p3 0 x (by omega) hx) (p3 1 x (by omega) hx) (p3 2 x (by omega) hx) (p3 0 y (by omega) hy) (p3 1 y (by omega) hy) (p3 2 y (by omega) hy) (p3 0 z (by omega) hz) (p3 1 z (by omega) hz) (p3 2 z (by omega) hz)) (by decide)
    have Dc : ∀ x y, x < 3 → y < 3 → (d3 (P 0) (P 1) (P 2) x y 3).natAbs ≤ 590778144 := fun x y hx hy => Nat.le_trans (d3_b (A := 132) (B := 132) (C := 5651) (p3 0 x (by omega) hx) (p3 1 x (by omega) hx) (p3 2 x (by omega) hx) (p3 0 y (by omega) hy) (p3 1 y (by omega) hy) (p3 2 y (by omega) hy) (p4 0 (by omega)) (p4 1 (by omega)) (p4 2 (by omega))) (by decide)
    have Da : (d3 (P 0) (P 1) (P 2) 3 1 2).natAbs ≤ 590778144 := Nat.le_trans (d3_b (A := 5651) (B := 132) (C := 132) (p4 0 (by omega)) (p4 1 (by omega)) (p4 2 (by omega)) (p3 0 1 (by omega) (by omega)) (p3 1 1 (by omega) (by omega)) (p3 2 1 (by omega) (by omega)) (p3 0 2 (by omega) (by omega)) (p3 1 2 (by omega) (by omega)) (p3 2 2 (by omega) (by omega))) (by decide)
    have Db : (d3 (P 0) (P 1) (P 2) 0 3 2).natAbs ≤ 590778144 := Nat.le_trans (d3_b (A := 132) (B := 5651) (C := 132) (p3 0 0 (by omega) (by omega)) (p3 1 0 (by omega) (by omega)) (p3 2 0 (by omega) (by omega)) (p4 0 (by omega)) (p4 1 (by omega)) (p4 2 (by omega)) (p3 0 2 (by omega) (by omega)) (p3 1 2 (by omega) (by omega)) (p3 2 2 (by omega) (by omega))) (by decide)
    refine ⟨by rw [q3]; exact D 0 1 2 (by omega) (by omega) (by omega), fun r hr => ⟨fun j hj => ?_, ?_, fun h9 => by omega⟩⟩
    · rw [q4 r j hr (by omega)]
      unfold st3
      split
      · exact D j 1 2 hj (by omega) (by omega)
      · split
        · exact D 0 j 2 (by omega) hj (by omega)
        · split
          · exact D 0 1 j (by omega) (by omega) hj
          · rw [if_neg (by omega)]; decide
    · rw [q4 r 3 hr (by omega)]
      unfold st3
      split
      · omega
      · split
        · omega
        · split
          · have := Dc 0 1 (by omega) (by omega); omega
          · rw [if_pos rfl]
            exact Nat.le_trans (na_sub (na_add (na_sub (na_mul (p4 r hr) (D 0 1 2 (by omega) (by omega) (by omega))) (na_mul (p3 r 2 hr (by omega)) (Dc 0 1 (by omega) (by omega)))) (na_mul (p3 r 1 hr (by omega)) (Dc 0 2 (by omega) (by omega)))) (na_mul (p3 r 0 hr (by omega)) (Dc 1 2 (by omega) (by omega)))) (by decide)
theorem lg_z {x : Int} (h : x.natAbs ≤ 9000000000000000000) : (lg_cmp (jv x) (0 : Int64) = 0) = (x = 0) := by
  rw [show (0 : Int64) = jv 0 from rfl, lg_eq0 (by omega) (by omega) (by omega) (by omega)]
theorem aJr {me : ME} {i : Nat} (hi : i < 9) {j : Nat} (hj : j ≤ 3) : aJ S1 me (73 + i) (iv j) = some (me.2 (73 + i) j) := by
  have := aJ_k (me := me) (row_k i hi).1 (row_k i hi).2 (i := (j : Int)) (by omega) (by omega) (by omega)
  rwa [Int.toNat_natCast] at this
theorem uJr {me : ME} {i : Nat} (hi : i < 9) {j : Nat} (hj : j ≤ 3) (v : Int64) : uJ S1 me (73 + i) (iv j) v = some (me.1, up2 me.2 (73 + i) j v) := by
  have := uJ_k (me := me) (v := v) (row_k i hi).1 (row_k i hi).2 (i := (j : Int)) (by omega) (by omega) (by omega)
  rwa [Int.toNat_natCast] at this
theorem pivotOf_v {me : ME} {m k c : Nat} {R : Nat → Nat → Int} (hR : RwC me m R) (hk : me.1 71 3 = iv k) (hm : m ≤ 9) (hkm : k ≤ m) (hc : c < 3) (hB : ∀ r, r < m → (R r c).natAbs ≤ 13799808) : ∃ p : Int, mX7_pivotOf S1 me 71 (iv c) = some (iv p, me) ∧ ((p = -1 ∧ ∀ r, k ≤ r → r < m → R r c = 0) ∨ ∃ q : Nat, p = q ∧ k ≤ q ∧ q < m ∧ R q c ≠ 0) := by
  unfold mX7_pivotOf
  simp only [gI_k kS_71, bs, hk]
  have key : ∀ (d i n : Nat), i + d = m → d < n → k ≤ i → (∀ r, k ≤ r → r < i → R r c = 0) → ∃ p : Int, lpn (mX7_pivotOf_L5 S1 71 (iv c)) n (me, iv i) = some (iv p, me) ∧ ((p = -1 ∧ ∀ r, k ≤ r → r < m → R r c = 0) ∨ ∃ q : Nat, p = q ∧ k ≤ q ∧ q < m ∧ R q c ≠ 0) := by
    intro d
    induction d with
    | zero =>
      intro i n e1 e2 e3 e4
      obtain ⟨n, rfl⟩ : ∃ z, n = z + 1 := ⟨n - 1, by omega⟩
      have : i = m := by omega
      subst this
      refine ⟨-1, ?_, Or.inl ⟨rfl, e4⟩⟩
      show mX7_pivotOf_L5 S1 71 (iv c) _ _ = _
      unfold mX7_pivotOf_L5 mX7_pivotOf_j34
      simp only [gI_k kS_71, bs, hR.1]
      rw [if_pos (by rw [iv_le (by omega) (by omega) (by omega) (by omega)]; omega)]
      rfl
    | succ d ih =>
      intro i n e1 e2 e3 e4
      obtain ⟨n, rfl⟩ : ∃ z, n = z + 1 := ⟨n - 1, by omega⟩
      have st : ∀ kk, mX7_pivotOf_L5 S1 71 (iv c) kk (me, iv i) = if R i c = 0 then kk (me, iv ((i + 1 : Nat) : Int)) else some (iv i, me) := by
        intro kk
        unfold mX7_pivotOf_L5 mX7_pivotOf_j26
        simp only [gI_k kS_71, bs, hR.1]
        rw [if_neg (show ¬ iv m ≤ iv i by rw [iv_le (by omega) (by omega) (by omega) (by omega)]; omega)]
        simp only [rS_71_1, bs, row_iv (show i < 9 by omega), aJr (show i < 9 by omega) (show c ≤ 3 by omega), hR.2 i c (by omega) (by omega), lg_z (show (R i c).natAbs ≤ 9000000000000000000 by have := hB i (by omega); omega), show (1 : Int32) = iv 1 from rfl, iv_add]
        rfl
      show ∃ p : Int, mX7_pivotOf_L5 S1 71 (iv c) (lpn (mX7_pivotOf_L5 S1 71 (iv c)) n) (me, iv i) = _ ∧ _
      rw [st]
      by_cases z : R i c = 0
      · rw [if_pos z]
        refine ih (i + 1) n (by omega) (by omega) (by omega) (fun r r1 r2 => ?_)
        by_cases e : r = i
        · subst e; exact z
        · exact e4 r r1 (by omega)
      · rw [if_neg z]
        exact ⟨i, rfl, Or.inr ⟨i, rfl, e3, by omega, z⟩⟩
  exact key (m - k) k lpF (by omega) (by unfold lpF; omega) (Nat.le_refl k) (fun r r1 r2 => by omega)
theorem swap_v {me : ME} {m a b : Nat} {R : Nat → Nat → Int} (hR : RwC me m R) (hm : m ≤ 9) (ha : a < m) (hb : b < m) : ∃ me1 : ME, mX7_swap S1 me 71 (iv a) (iv b) = some ((), me1) ∧ RwC me1 m (sw R a b) ∧ me1.1 = me.1 ∧ ∀ r, ¬ (73 ≤ r ∧ r ≤ 81) → me1.2 r = me.2 r := by
  let F : Nat → ME := fun i => (me.1, fun r j => if j < i then (if r = 73 + a then me.2 (73 + b) j else if r = 73 + b then me.2 (73 + a) j else me.2 r j) else me.2 r j)
  refine ⟨F 4, ?_, ⟨hR.1, fun r j hr hj => ?_⟩, rfl, fun r hr => ?_⟩
  · unfold mX7_swap
    refine lpn_up (P := fun i s => s = (F i, iv i)) (e := 4) ?_ ?_ 4 0 lpF _ (by omega) (by unfold lpF; omega) ?_
    · rintro i s kk hi rfl
      refine ⟨_, rfl, ?_⟩
      unfold mX7_swap_L2
      simp only [show (3 : Int32) = iv 3 from rfl]
      rw [if_neg (by rw [iv_lt (by omega) (by omega) (by omega) (by omega)]; omega)]
      simp only [rS_71_1, bs, row_iv (show a < 9 by omega), row_iv (show b < 9 by omega), aJr (show a < 9 by omega) (show i ≤ 3 by omega), aJr (show b < 9 by omega) (show i ≤ 3 by omega), uJr (show a < 9 by omega) (show i ≤ 3 by omega), uJr (show b < 9 by omega) (show i ≤ 3 by omega), show (1 : Int32) = iv 1 from rfl, iv_add]
      refine congrArg kk (Prod.ext (Prod.ext rfl ?_) rfl)
      have fi : ∀ r, (F i).2 r i = me.2 r i := fun r => by
        show (if i < i then _ else me.2 r i) = _
        rw [if_neg (by omega)]
      funext r j
      show up2 (up2 (F i).2 (73 + a) i ((F i).2 (73 + b) i)) (73 + b) i ((F i).2 (73 + a) i) r j = (if j < i + 1 then (if r = 73 + a then me.2 (73 + b) j else if r = 73 + b then me.2 (73 + a) j else me.2 r j) else me.2 r j)
      rw [fi, fi]
      by_cases e : j = i
      · subst e
        rw [if_pos (by omega)]
        by_cases c2 : r = 73 + b
        · subst c2
          rw [up2_s]
          by_cases c1 : 73 + b = 73 + a
          · rw [if_pos c1, c1]
          · rw [if_neg c1, if_pos rfl]
        · rw [up2_r _ _ _ c2]
          by_cases c1 : r = 73 + a
          · subst c1; rw [up2_s, if_pos rfl]
          · rw [up2_r _ _ _ c1, if_neg c1, if_neg c2, fi]
      · rw [up2_k _ _ _ _ e, up2_k _ _ _ _ e]
        show (if j < i then _ else me.2 r j) = _
        by_cases c : j < i
        · rw [if_pos c, if_pos (show j < i + 1 by omega)]
        · rw [if_neg c, if_neg (show ¬ j < i + 1 by omega)]
    · rintro s kk rfl
      unfold mX7_swap_L2 mX7_swap_j49
      simp only [show (3 : Int32) = iv 3 from rfl]
      rw [if_pos (by rw [iv_lt (by omega) (by omega) (by omega) (by omega)]; omega)]
    · refine Prod.ext (Prod.ext rfl ?_) rfl
      funext r j
      show me.2 r j = if j < 0 then (if r = 73 + a then me.2 (73 + b) j else if r = 73 + b then me.2 (73 + a) j else me.2 r j) else me.2 r j
      rw [if_neg (by omega)]
  · show (if j < 4 then (if 73 + r = 73 + a then me.2 (73 + b) j else if 73 + r = 73 + b then me.2 (73 + a) j else me.2 (73 + r) j) else me.2 (73 + r) j) = _
    rw [if_pos (by omega)]
    unfold sw
    by_cases c1 : r = a
    · rw [if_pos (by omega), if_pos c1]; exact hR.2 b j hb hj
    · rw [if_neg (by omega), if_neg c1]
      by_cases c2 : r = b
      · rw [if_pos (by omega), if_pos c2]; exact hR.2 a j ha hj
      · rw [if_neg (by omega), if_neg c2]; exact hR.2 r j hr hj
  · funext j
    show (if j < 4 then (if r = 73 + a then me.2 (73 + b) j else if r = 73 + b then me.2 (73 + a) j else me.2 r j) else me.2 r j) = _
    rw [if_neg (show ¬ r = 73 + a by omega), if_neg (show ¬ r = 73 + b by omega)]
    split <;> rfl
theorem reduce_v {me : ME} {r k c : Nat} {u v : Nat → Int} {last : Int} (hr : r < 9) (hk : k < 9) (hrk : r ≠ k) (hu : ∀ j, j ≤ 3 → me.2 (73 + r) j = jv (u j)) (hv : ∀ j, j ≤ 3 → me.2 (73 + k) j = jv (v j)) (hc : c < 3) (hl : last ≠ 0) (hlb : last.natAbs ≤ 13799808) (hb : ∀ j, j ≤ 3 → (v c * u j - u c * v j).natAbs ≤ 9000000000000000000) : mX7_reduce S1 me (73 + r) (73 + k) (iv c) (jv last) = some ((), (me.1, upR me.2 (73 + r) (fun j => (v c * u j - u c * v j).tdiv last))) := by
  unfold mX7_reduce
  rw [if_neg (by rw [lg_z (by omega)]; exact hl)]
  simp only [aJr hr (show c ≤ 3 by omega), aJr hk (show c ≤ 3 by omega), bs, hu c (by omega), hv c (by omega)]
  let F : Nat → ME := fun i => (me.1, fun r' j => if r' = 73 + r ∧ j < i then jv ((v c * u j - u c * v j).tdiv last) else me.2 r' j)
  refine lpn_up (P := fun i s => s = (F i, jv (u c), jv (v c), iv i)) (e := 4) ?_ ?_ 4 0 lpF _ (by omega) (by unfold lpF; omega) ?_
  · rintro i s kk hi rfl
    refine ⟨_, rfl, ?_⟩
    have f1 : (F i).2 (73 + r) i = jv (u i) := by
      show (if 73 + r = 73 + r ∧ i < i then _ else me.2 (73 + r) i) = _
      rw [if_neg (by omega)]; exact hu i (by omega)
    have f2 : (F i).2 (73 + k) i = jv (v i) := by
      show (if 73 + k = 73 + r ∧ i < i then _ else me.2 (73 + k) i) = _
      rw [if_neg (by omega)]; exact hv i (by omega)
    have hbi := hb i (by omega)
    unfold mX7_reduce_L20
    simp only [show (3 : Int32) = iv 3 from rfl]
    rw [if_neg (by rw [iv_lt (by omega) (by omega) (by omega) (by omega)]; omega)]
    simp only [aJr hr (show i ≤ 3 by omega), aJr hk (show i ≤ 3 by omega), bs, f1, f2, jv_mul, jv_sub]
    rw [if_neg (show ¬ jv last = 0 by rw [show (0 : Int64) = jv 0 from rfl, jv_eq (by omega) (by omega) (by omega) (by omega)]; exact hl), jv_div (by omega) (by omega) (by omega) (by omega)]
    simp only [uJr hr (show i ≤ 3 by omega), bs, show (1 : Int32) = iv 1 from rfl, iv_add]
    refine congrArg kk (Prod.ext (Prod.ext rfl ?_) rfl)
    funext r' j
    show up2 (F i).2 (73 + r) i (jv ((v c * u i - u c * v i).tdiv last)) r' j = (if r' = 73 + r ∧ j < i + 1 then jv ((v c * u j - u c * v j).tdiv last) else me.2 r' j)
    by_cases e : r' = 73 + r
    · subst e
      by_cases e2 : j = i
      · subst e2
        rw [up2_s, if_pos ⟨rfl, by omega⟩]
      · rw [up2_k _ _ _ _ e2]
        show (if 73 + r = 73 + r ∧ j < i then _ else me.2 (73 + r) j) = _
        by_cases c : j < i
        · rw [if_pos ⟨rfl, c⟩, if_pos ⟨rfl, by omega⟩]
        · rw [if_neg (by omega), if_neg (by omega)]
    · rw [up2_r _ _ _ e, if_neg (fun q => e q.1)]
      show (if r' = 73 + r ∧ j < i then _ else me.2 r' j) = _
      rw [if_neg (fun q => e q.1)]
  · rintro s kk rfl
    unfold mX7_reduce_L20 mX7_reduce_j53
    simp only [show (3 : Int32) = iv 3 from rfl]
    rw [if_pos (by rw [iv_lt (by omega) (by omega) (by omega) (by omega)]; omega)]
    refine congrArg (fun z => some ((), z)) (Prod.ext rfl ?_)
    funext r' j
    show (if r' = 73 + r ∧ j < 4 then jv ((v c * u j - u c * v j).tdiv last) else me.2 r' j) = (if r' = 73 + r ∧ j ≤ 3 then jv ((v c * u j - u c * v j).tdiv last) else me.2 r' j)
    by_cases e : r' = 73 + r ∧ j < 4
    · rw [if_pos e, if_pos ⟨e.1, by omega⟩]
    · rw [if_neg e, if_neg (by omega)]
  · refine Prod.ext (Prod.ext rfl ?_) rfl
    funext r' j
    show me.2 r' j = if r' = 73 + r ∧ j < 0 then jv ((v c * u j - u c * v j).tdiv last) else me.2 r' j
    rw [if_neg (by omega)]
def mixR (R : Nat → Nat → Int) (k p c : Nat) (last : Int) (r i j : Nat) : Int := if i < r then piv R k p c last i j else sw R k p i j
theorem mix_lt {R : Nat → Nat → Int} {k p c : Nat} {last : Int} {r i j : Nat} (h : i < r) : mixR R k p c last r i j = piv R k p c last i j := if_pos h
theorem mix_ge {R : Nat → Nat → Int} {k p c : Nat} {last : Int} {r i j : Nat} (h : ¬ i < r) : mixR R k p c last r i j = sw R k p i j := if_neg h
theorem C_elim {me : ME} {m : Nat} {E : Nat → Nat → Int} (hR : RwC me m E) (hm : m ≤ 9) (hB : Bd m E) : ∃ (me1 : ME) (k : Nat) (P R : Nat → Nat → Int) (last : Int), mX7_eliminate S1 me 71 = some ((), me1) ∧ Inv m E 3 k P R last ∧ RwC me1 m R ∧ me1.1 71 3 = iv k ∧ FrS me me1 := by
  unfold mX7_eliminate
  simp only [sI_k kS_71, bs]
  have key : ∀ (d c n : Nat) (m2 : ME) (k : Nat) (P R : Nat → Nat → Int) (last : Int), c + d = 3 → d < n → Inv m E c k P R last → RwC m2 m R → m2.1 71 3 = iv k → FrS me m2 → ∃ (me1 : ME) (k : Nat) (P R : Nat → Nat → Int) (last' : Int), lpn (mX7_eliminate_L9 S1 71) n (m2, jv last, iv c) = some ((), me1) ∧ Inv m E 3 k P R last' ∧ RwC me1 m R ∧ me1.1 71 3 = iv k ∧ FrS me me1 := by
    intro d
    induction d with
    | zero =>
      intro c n m2 k P R last e1 e2 f1 f2 f3 f4
      obtain ⟨n, rfl⟩ : ∃ z, n = z + 1 := ⟨n - 1, by omega⟩
      have : c = 3 := by omega
      subst this
      refine ⟨m2, k, P, R, last, ?_, f1, f2, f3, f4⟩
      show mX7_eliminate_L9 S1 71 _ _ = _
      unfold mX7_eliminate_L9 mX7_eliminate_j112
      simp only [show (3 : Int32) = iv 3 from rfl]
      rw [if_pos (by rw [iv_le (by omega) (by omega) (by omega) (by omega)]; omega)]
    | succ d ih =>
      intro c n m2 k P R last e1 e2 f1 f2 f3 f4
      obtain ⟨n, rfl⟩ : ∃ z, n = z + 1 := ⟨n - 1, by omega⟩
      have hc : c < 3 := by omega
      obtain ⟨hlb, hbd⟩ := Inv_bd f1 hB (by omega)
      have hkm : k ≤ m := f1.2.2.1
      obtain ⟨p, p1, p2⟩ := pivotOf_v f2 f3 hm hkm hc (fun r hr => (hbd r hr).1 c hc)
      rcases p2 with ⟨rfl, pz⟩ | ⟨q, rfl, q1, q2, q3⟩
      · have hstep : ∀ kk, mX7_eliminate_L9 S1 71 kk (m2, jv last, iv c) = kk (m2, jv last, iv ((c + 1 : Nat) : Int)) := by
          intro kk
          unfold mX7_eliminate_L9 mX7_eliminate_j106
          simp only [show (3 : Int32) = iv 3 from rfl]
          rw [if_neg (by rw [iv_le (by omega) (by omega) (by omega) (by omega)]; omega)]
          simp only [ck_s kS_71, bs, p1]
          rw [if_pos (by decide), show (1 : Int32) = iv 1 from rfl, iv_add]
          rfl
        rw [show lpn (mX7_eliminate_L9 S1 71) (n + 1) (m2, jv last, iv c) = lpn (mX7_eliminate_L9 S1 71) n (m2, jv last, iv ((c + 1 : Nat) : Int)) from hstep _]
        exact ih (c + 1) n m2 k P R last (by omega) (by omega) (f1.no hc pz) f2 f3 f4
      · have hk3 : k < 3 := by
          rcases f1.1 with ⟨q1, -⟩ | ⟨q1, -⟩ | ⟨q1, -⟩ | ⟨q1, q2, -⟩ <;> omega
        obtain ⟨m3, s1, s2, s3, s4⟩ := swap_v f2 hm (show k < m by omega) q2
        have f3' : m3.1 71 3 = iv k := by rw [s3]; exact f3
        -- bounds of the swapped rows
        have sb : ∀ r, r < m → (∀ j, j < 3 → (sw R k q r j).natAbs ≤ 13799808) ∧ (sw R k q r 3).natAbs ≤ 590778144 := fun r hr => by
          unfold sw
          split
          · exact ⟨(hbd q q2).1, (hbd q q2).2.2 hk3⟩
          · split
            · exact ⟨(hbd k (by omega)).1, (hbd k (by omega)).2.2 hk3⟩
            · exact ⟨(hbd r hr).1, (hbd r hr).2.2 hk3⟩
        have sb2 : ∀ r j, r < m → j ≤ 3 → (sw R k q r j).natAbs ≤ 590778144 := fun r j hr hj => by
          rcases Nat.lt_or_ge j 3 with z | z
          · have := (sb r hr).1 j z; omega
          · have : j = 3 := by omega
            subst this; exact (sb r hr).2
        have inner : ∀ (d r n2 : Nat) (m4 : ME) (k9 : ME × Int64 × Int32 → Option (Unit × ME)), r + d = m → d < n2 → RwC m4 m (mixR R k q c last r) → m4.1 = m3.1 → (∀ i, ¬ (73 ≤ i ∧ i ≤ 81) → m4.2 i = m3.2 i) → ∃ m5 : ME, lpn (mX7_eliminate_L39 S1 71 k9) n2 (m4, jv last, iv c, iv r) = mX7_eliminate_j84 S1 71 k9 m5 (iv c) ∧ RwC m5 m (piv R k q c last) ∧ m5.1 = m3.1 ∧ ∀ i, ¬ (73 ≤ i ∧ i ≤ 81) → m5.2 i = m3.2 i := by
          intro d
          induction d with
          | zero =>
            intro r n2 m4 k9 a1 a2 a3 a4 a5
            obtain ⟨n2, rfl⟩ : ∃ z, n2 = z + 1 := ⟨n2 - 1, by omega⟩
            have : r = m := by omega
            subst this
            refine ⟨m4, ?_, ⟨a3.1, fun i j hi hj => ?_⟩, a4, a5⟩
            · show mX7_eliminate_L39 S1 71 k9 _ _ = _
              unfold mX7_eliminate_L39
              simp only [gI_k kS_71, bs, a3.1]
              rw [if_pos (by rw [iv_le (by omega) (by omega) (by omega) (by omega)]; omega)]
            · rw [a3.2 i j hi hj, mix_lt hi]
          | succ d ihd =>
            intro r n2 m4 k9 a1 a2 a3 a4 a5
            obtain ⟨n2, rfl⟩ : ∃ z, n2 = z + 1 := ⟨n2 - 1, by omega⟩
            have hr : r < m := by omega
            have k4 : m4.1 71 3 = iv k := by rw [a4]; exact f3'
            have rowr : ∀ j, j ≤ 3 → m4.2 (73 + r) j = jv (sw R k q r j) := fun j hj => by rw [a3.2 r j hr hj, mix_ge (by omega)]
            have rowk : ∀ j, j ≤ 3 → m4.2 (73 + k) j = jv (sw R k q k j) := fun j hj => by
              rw [a3.2 k j (by omega) hj]
              by_cases c1 : k < r
              · rw [mix_lt c1]; unfold piv; rw [if_pos rfl]
              · rw [mix_ge c1]
            by_cases ck : r = k
            · have hs : ∀ k39, mX7_eliminate_L39 S1 71 k9 k39 (m4, jv last, iv c, iv r) = k39 (m4, jv last, iv c, iv ((r + 1 : Nat) : Int)) := by
                intro k39
                unfold mX7_eliminate_L39 mX7_eliminate_j78
                simp only [gI_k kS_71, bs, a3.1, k4]
                rw [if_neg (show ¬ iv m ≤ iv r by rw [iv_le (by omega) (by omega) (by omega) (by omega)]; omega), if_pos (by rw [ck]), show (1 : Int32) = iv 1 from rfl, iv_add]
                rfl
              rw [show lpn (mX7_eliminate_L39 S1 71 k9) (n2 + 1) (m4, jv last, iv c, iv r) = lpn (mX7_eliminate_L39 S1 71 k9) n2 (m4, jv last, iv c, iv ((r + 1 : Nat) : Int)) from hs _]
              refine ihd (r + 1) n2 m4 k9 (by omega) (by omega) ⟨a3.1, fun i j hi hj => ?_⟩ a4 a5
              rw [a3.2 i j hi hj]
              by_cases c1 : i < r
              · rw [mix_lt c1, mix_lt (by omega)]
              · rw [mix_ge c1]
                by_cases c2 : i = r
                · rw [mix_lt (by omega)]
                  unfold piv
                  rw [if_pos (by omega), show i = k by omega]
                · rw [mix_ge (by omega)]
            · have red := reduce_v (me := m4) (r := r) (k := k) (c := c) (u := sw R k q r) (v := sw R k q k) (last := last) (by omega) (by omega) ck rowr rowk hc f1.2.1 hlb (fun j hj => Nat.le_trans (na_sub (na_mul ((sb k (by omega)).1 c hc) (sb2 r j hr hj)) (na_mul ((sb r hr).1 c hc) (sb2 k j (by omega) hj))) (by decide))
              have hs : ∀ k39, mX7_eliminate_L39 S1 71 k9 k39 (m4, jv last, iv c, iv r) = k39 ((m4.1, upR m4.2 (73 + r) (piv R k q c last r)), jv last, iv c, iv ((r + 1 : Nat) : Int)) := by
                intro k39
                unfold mX7_eliminate_L39 mX7_eliminate_j78
                simp only [gI_k kS_71, bs, a3.1, k4]
                rw [if_neg (show ¬ iv m ≤ iv r by rw [iv_le (by omega) (by omega) (by omega) (by omega)]; omega), if_neg (show ¬ iv r = iv k by rw [iv_eq (by omega) (by omega) (by omega) (by omega)]; omega)]
                simp only [rS_71_1, bs, row_iv (show r < 9 by omega), row_iv (show k < 9 by omega), red, show (1 : Int32) = iv 1 from rfl, iv_add]
                have e : (fun j => (sw R k q k c * sw R k q r j - sw R k q r c * sw R k q k j).tdiv last) = piv R k q c last r := by
                  funext j
                  unfold piv
                  rw [if_neg ck]
                rw [e]
                rfl
              rw [show lpn (mX7_eliminate_L39 S1 71 k9) (n2 + 1) (m4, jv last, iv c, iv r) = lpn (mX7_eliminate_L39 S1 71 k9) n2 ((m4.1, upR m4.2 (73 + r) (piv R k q c last r)), jv last, iv c, iv ((r + 1 : Nat) : Int)) from hs _]
              refine ihd (r + 1) n2 _ k9 (by omega) (by omega) ⟨a3.1, fun i j hi hj => ?_⟩ a4 (fun i hi => ?_)
              · show upR m4.2 (73 + r) (piv R k q c last r) (73 + i) j = _
                by_cases c2 : i = r
                · subst c2
                  rw [upR_s _ _ _ hj, mix_lt (by omega)]
                · rw [upR_r _ _ (by omega), a3.2 i j hi hj]
                  by_cases c1 : i < r
                  · rw [mix_lt c1, mix_lt (by omega)]
                  · rw [mix_ge c1, mix_ge (by omega)]
              · show upR m4.2 (73 + r) (piv R k q c last r) i = _
                rw [upR_r _ _ (by omega)]
                exact a5 i hi
        obtain ⟨m5, g1, g2, g3, g4⟩ := inner m 0 lpF m3 (lpn (mX7_eliminate_L9 S1 71) n) (by omega) (by unfold lpF; omega) ⟨s2.1, fun i j hi hj => by rw [s2.2 i j hi hj, mix_ge (by omega)]⟩ rfl (fun _ _ => rfl)
        have hlead : m5.2 (73 + k) c = jv (R q c) := by
          rw [g2.2 k c (by omega) (by omega)]
          unfold piv
          rw [if_pos rfl, sw_k]
        have hstep : lpn (mX7_eliminate_L9 S1 71) (n + 1) (m2, jv last, iv c) = lpn (mX7_eliminate_L9 S1 71) n ((up2 m5.1 71 3 (iv ((k + 1 : Nat) : Int)), m5.2), jv (R q c), iv ((c + 1 : Nat) : Int)) := by
          have h1 : mX7_eliminate_j84 S1 71 (lpn (mX7_eliminate_L9 S1 71) n) m5 (iv c) = lpn (mX7_eliminate_L9 S1 71) n ((up2 m5.1 71 3 (iv ((k + 1 : Nat) : Int)), m5.2), jv (R q c), iv ((c + 1 : Nat) : Int)) := by
            have k5 : m5.1 71 3 = iv k := by rw [g3]; exact f3'
            generalize lpn (mX7_eliminate_L9 S1 71) n = k9
            unfold mX7_eliminate_j84 mX7_eliminate_j106
            simp only [rS_71_1, bs, gI_k kS_71, k5, row_iv (show k < 9 by omega), aJr (show k < 9 by omega) (show c ≤ 3 by omega), hlead, sI_k kS_71, show (1 : Int32) = iv 1 from rfl, iv_add]
            rfl
          rw [← h1, ← g1]
          show mX7_eliminate_L9 S1 71 (lpn (mX7_eliminate_L9 S1 71) n) (m2, jv last, iv c) = _
          generalize lpn (mX7_eliminate_L9 S1 71) n = k9
          unfold mX7_eliminate_L9
          simp only [show (3 : Int32) = iv 3 from rfl]
          rw [if_neg (by rw [iv_le (by omega) (by omega) (by omega) (by omega)]; omega)]
          simp only [ck_s kS_71, bs, p1]
          rw [if_neg (show ¬ iv q < 0 by rw [show (0 : Int32) = iv 0 from rfl, iv_lt (by omega) (by omega) (by omega) (by omega)]; omega)]
          simp only [gI_k kS_71, bs, f3, s1]
          rfl
        rw [hstep]
        refine ih (c + 1) n _ (k + 1) (sw P k q) (piv R k q c last) (R q c) (by omega) (by omega) (Inv_piv f1 hc q1 q2 q3) ⟨?_, g2.2⟩ (up2_s m5.1 71 3 _) (f4.trans ⟨fun r hr => ?_, fun r hr => ?_⟩)
        · show up2 m5.1 71 3 (iv ((k + 1 : Nat) : Int)) 71 2 = _
          rw [up2_k _ _ _ _ (by decide)]; exact g2.1
        · show up2 m5.1 71 3 (iv ((k + 1 : Nat) : Int)) r = _
          rw [up2_r _ _ _ hr, g3, s3]
        · show m5.2 r = _
          rw [g4 r (by omega), s4 r (by omega)]
  refine key 3 0 lpF _ 0 E E 1 (by omega) (by unfold lpF; omega) Inv.zero ⟨?_, hR.2⟩ (up2_s me.1 71 3 0) ⟨fun r hr => up2_r _ _ _ hr, fun _ _ => rfl⟩
  show up2 me.1 71 3 0 71 2 = _
  rw [up2_k _ _ _ _ (by decide)]; exact hR.1
