/-! ===== logs: copied, appended, struck ===== -/
theorem L_copy {me : ME} {o a ns : Nat} {g : LG} (ho : isLog o) (ha : isLog a) (hd : o + 3 < a ∨ a + 3 < o) (h : LogC me a ns g) (hg : g.1 ≤ 9) (hn : ns ≤ 6) : ∃ me1 : ME, mX2_copy S1 me o a = some ((), me1) ∧ LogC me1 o ns g ∧ (∀ r, ¬ (o ≤ r ∧ r ≤ o + 3) → me1.1 r = me.1 r) ∧ me1.2 = me.2 := by
  obtain ⟨o1, ⟨o2, o3, o4⟩, ⟨o5, o6, o7⟩, o8, o9, o10⟩ := ho
  obtain ⟨a1, ⟨a2, a3, a4⟩, ⟨a5, a6, a7⟩, a8, a9, a10⟩ := ha
  obtain ⟨g1, g2, g3⟩ := h
  unfold mX2_copy
  simp only [a2, o2, a3, o3, a4, o4, Option.bind_some, show (0 : Int32) = iv 0 from rfl, show (9 : Int32) = iv 9 from rfl, show (6 : Int32) = iv 6 from rfl, cpI_k a5 o5 a8 o8 (n := 9) (by omega) (by omega) (by omega) (by omega), cpI_k a6 o6 a9 o9 (n := 9) (by omega) (by omega) (by omega) (by omega), cpI_k a7 o7 a10 o10 (n := 6) (by omega) (by omega) (by omega) (by omega), gI_k a1, sI_k o1]
  refine ⟨_, rfl, ⟨?_, fun k hk => ⟨?_, ?_⟩, fun s hs => ?_⟩, fun r hr => ?_, rfl⟩
  · simp [up2, va_up, show a ≠ o + 1 by omega, show a ≠ o + 2 by omega, show a ≠ o + 3 by omega, g1]
  · have h1 := (g2 k hk).1
    have e : k < 9 := by omega
    simp [up2, va_up, va_cpy, e, show a + 1 ≠ o + 1 by omega, h1]
  · have h1 := (g2 k hk).2
    have e : k < 9 := by omega
    simp [up2, va_up, va_cpy, e, show a + 2 ≠ o + 1 by omega, h1]
  · have h1 := g3 s hs
    have e : s < 6 := by omega
    simp [up2, va_up, va_cpy, e, show a + 3 ≠ o + 1 by omega, show a + 3 ≠ o + 2 by omega, h1]
  · funext j
    simp [up2, va_up, show r ≠ o by omega, show r ≠ o + 1 by omega, show r ≠ o + 2 by omega, show r ≠ o + 3 by omega]
theorem min_v (S : SH) (me : ME) {x y : Int} (h1 : -2147483648 ≤ x) (h2 : x ≤ 2147483647) (h3 : -2147483648 ≤ y) (h4 : y ≤ 2147483647) : mJ9_min_7cf53 S me (iv x) (iv y) = some (iv (if y < x then y else x), me) := by
  unfold mJ9_min_7cf53 mJ9_min_7cf53_j10
  by_cases h : y < x
  · rw [if_pos (by rw [iv_lt h3 h4 h1 h2]; exact h), if_pos h]
  · rw [if_neg (by rw [iv_lt h3 h4 h1 h2]; exact h), if_neg h]
theorem rem10 {n : Nat} (h : n < 100) : iv n - iv n / iv 10 * iv 10 = iv ((n % 10 : Nat) : Int) := by
  rw [iv_div (by omega) (by omega) (by omega) (by omega), iv_mul, iv_sub]
  congr 1
  have : (n : Int).tdiv 10 = (n : Int) / 10 := Int.tdiv_eq_ediv_of_nonneg (by omega)
  rw [this]
  omega
def push (g : LG) (ps : List LG) : List LG := (g :: ps).take 10
theorem push_len (g : LG) {ps : List LG} (h : ps.length ≤ 10) : (push g ps).length = if 10 < ps.length + 1 then 10 else ps.length + 1 := by
  unfold push
  rw [List.length_take, List.length_cons]
  split <;> omega
theorem push_get {g : LG} {ps : List LG} {t : Nat} {g' : LG} (h : (push g ps)[t]? = some g') : t < 10 ∧ ((t = 0 ∧ g' = g) ∨ (0 < t ∧ ps[t - 1]? = some g')) := by
  unfold push at h
  rw [List.getElem?_take] at h
  by_cases ht : t < 10
  · rw [if_pos ht] at h
    refine ⟨ht, ?_⟩
    cases t with
    | zero => left; simp at h; exact ⟨rfl, h.symm⟩
    | succ t => right; simp at h; exact ⟨by omega, by simpa using h⟩
  · rw [if_neg ht] at h
    cases h
theorem C_push {me : ME} {ns : Nat} {ps : List LG} {g : LG} (hP : PaC me ns ps) (hl : ps.length ≤ 10) (h : LogC me 14 ns g) (hg : g.1 ≤ 9) (hn : ns ≤ 6) : ∃ me1 : ME, mX4_push S1 me 18 14 = some ((), me1) ∧ PaC me1 ns (push g ps) ∧ (∀ r, ¬ (18 ≤ r ∧ r < 60) → me1.1 r = me.1 r) ∧ me1.2 = me.2 := by
  obtain ⟨nx, n1, n2, n3, n4⟩ := hP
  obtain ⟨m1, c1, c2, c3, c4⟩ := L_copy (o := 20 + 4 * nx) (isLog_ring nx n1) isLog_14 (by omega) h hg hn
  have hr := ring_at nx n1
  rw [iv_nI] at hr
  have e18 : m1.1 18 = me.1 18 := c3 18 (by omega)
  unfold mX4_push
  simp only [rS_18_0, Option.bind_some, gI_k kS_18, n2, hr, ck_s (isLog_ring nx n1).1, c1, e18, show (1 : Int32) = iv 1 from rfl, show (10 : Int32) = iv 10 from rfl, iv_add, sI_k kS_18]
  have e1 : iv ((nx : Int) + 1) - iv ((nx : Int) + 1) / iv 10 * iv 10 = iv (((nx + 1) % 10 : Nat) : Int) := by
    have := rem10 (n := nx + 1) (by omega)
    rw [show ((nx + 1 : Nat) : Int) = (nx : Int) + 1 by omega] at this
    exact this
  rw [e1]
  simp only [up2_k (m1.1) 18 18 (iv (((nx + 1) % 10 : Nat) : Int)) (show (2 : Nat) ≠ 1 by decide), e18, n3, iv_add, min_v S1 _ (x := (ps.length : Int) + 1) (y := 10) (by omega) (by omega) (by omega) (by omega), Option.bind_some, sI_k kS_18]
  refine ⟨_, rfl, ⟨(nx + 1) % 10, Nat.mod_lt _ (by omega), ?_, ?_, fun t g' ht => ?_⟩, fun r hr => ?_, c4⟩
  · simp [up2]
  · rw [push_len g hl]
    simp only [up2_s]
    congr 1
    split <;> split <;> omega
  · obtain ⟨t1, t2⟩ := push_get ht
    rcases t2 with ⟨rfl, rfl⟩ | ⟨t3, t4⟩
    · have ei : ((nx + 1) % 10 + 9 - 0) % 10 = nx := by omega
      rw [ei]
      exact c2.keep (by simp [up2_r, show 20 + 4 * nx ≠ 18 by omega]) (by simp [up2_r, show 20 + 4 * nx + 1 ≠ 18 by omega]) (by simp [up2_r, show 20 + 4 * nx + 2 ≠ 18 by omega]) (by simp [up2_r, show 20 + 4 * nx + 3 ≠ 18 by omega])
    · have ei : ((nx + 1) % 10 + 9 - t) % 10 = (nx + 9 - (t - 1)) % 10 := by omega
      have hne : (nx + 9 - (t - 1)) % 10 ≠ nx := by omega
      have hlt : (nx + 9 - (t - 1)) % 10 < 10 := Nat.mod_lt _ (by omega)
      rw [ei]
      have q := n4 (t - 1) g' t4
      generalize (nx + 9 - (t - 1)) % 10 = j at hne hlt q ⊢
      have E : ∀ r, 20 + 4 * j ≤ r → r ≤ 20 + 4 * j + 3 → up2 (up2 m1.1 18 1 (iv (((nx + 1) % 10 : Nat) : Int))) 18 2 (iv (if (10 : Int) < (ps.length : Int) + 1 then 10 else (ps.length : Int) + 1)) r = me.1 r := fun r r1 r2 => by
        rw [up2_r _ _ _ (by omega), up2_r _ _ _ (by omega), c3 r (by omega)]
      exact q.keep (E _ (by omega) (by omega)) (E _ (by omega) (by omega)) (E _ (by omega) (by omega)) (E _ (by omega) (by omega))
  · show up2 (up2 m1.1 18 1 _) 18 2 _ r = _
    rw [up2_r _ _ _ (by omega), up2_r _ _ _ (by omega), c3 r (by omega)]
theorem C_pop {me : ME} {ns : Nat} {ps : List LG} {g : LG} (hP : PaC me ns (g :: ps)) (hl : ps.length < 10) (hg : g.1 ≤ 9) (hn : ns ≤ 6) : ∃ me1 : ME, mX4_pop S1 me 18 14 = some ((), me1) ∧ PaC me1 ns ps ∧ LogC me1 14 ns g ∧ (∀ r, ¬ (14 ≤ r ∧ r ≤ 18) → me1.1 r = me.1 r) ∧ me1.2 = me.2 := by
  obtain ⟨nx, n1, n2, n3, n4⟩ := hP
  have h0 := n4 0 g rfl
  have hj : (nx + 9 - 0) % 10 < 10 := Nat.mod_lt _ (by omega)
  have ej : (nx + 9 - 0) % 10 = (nx + 9) % 10 := by omega
  rw [ej] at h0 hj
  have hr := ring_at ((nx + 9) % 10) hj
  rw [iv_nI] at hr
  have h0' : LogC (up2 me.1 18 1 (iv (((nx + 9) % 10 : Nat) : Int)), me.2) (20 + 4 * ((nx + 9) % 10)) ns g := h0.keep (up2_r me.1 _ _ (by omega)) (up2_r me.1 _ _ (by omega)) (up2_r me.1 _ _ (by omega)) (up2_r me.1 _ _ (by omega))
  obtain ⟨m1, c1, c2, c3, c4⟩ := L_copy (o := 14) isLog_14 (isLog_ring _ hj) (by omega) h0' hg hn
  have e1 : iv ((nx : Int) + 10 - 1) - iv ((nx : Int) + 10 - 1) / iv 10 * iv 10 = iv (((nx + 9) % 10 : Nat) : Int) := by
    have := rem10 (n := nx + 9) (by omega)
    rw [show ((nx + 9 : Nat) : Int) = (nx : Int) + 10 - 1 by omega] at this
    exact this
  have e18 : m1.1 18 = up2 me.1 18 1 (iv (((nx + 9) % 10 : Nat) : Int)) 18 := c3 18 (by omega)
  have en : m1.1 18 2 = iv (((g :: ps).length : Nat) : Int) := by rw [e18, up2_k _ _ _ _ (by decide), n3]
  have en' : iv ((((g :: ps).length : Nat) : Int) - 1) = iv (ps.length : Int) := congrArg iv (by rw [List.length_cons]; omega)
  unfold mX4_pop
  simp only [rS_18_0, Option.bind_some, gI_k kS_18, n2, show (1 : Int32) = iv 1 from rfl, show (10 : Int32) = iv 10 from rfl, iv_add, iv_sub, e1, sI_k kS_18, up2_s, hr, ck_s kS_14, c1, en, en']
  have hk9 : ∀ a, a ≠ 18 → up2 m1.1 18 2 (iv (ps.length : Int)) a = m1.1 a := fun a h => up2_r _ _ _ h
  refine ⟨_, rfl, ⟨(nx + 9) % 10, hj, ?_, ?_, fun t g' ht => ?_⟩, c2.keep (hk9 14 (by omega)) (hk9 (14 + 1) (by omega)) (hk9 (14 + 2) (by omega)) (hk9 (14 + 3) (by omega)), fun r hr => ?_, c4⟩
  · show up2 m1.1 18 2 (iv (ps.length : Int)) 18 1 = _
    rw [up2_k _ _ _ _ (by decide), e18, up2_s]
  · exact up2_s m1.1 18 2 _
  · have q := n4 (t + 1) g' (by simpa using ht)
    have hlt : t < ps.length := (List.getElem?_eq_some_iff.mp ht).1
    have ei : (nx + 9 - (t + 1)) % 10 = ((nx + 9) % 10 + 9 - t) % 10 := by omega
    rw [ei] at q
    have hb : ((nx + 9) % 10 + 9 - t) % 10 < 10 := Nat.mod_lt _ (by omega)
    generalize ((nx + 9) % 10 + 9 - t) % 10 = j at q hb ⊢
    have E : ∀ r, 20 + 4 * j ≤ r → r ≤ 20 + 4 * j + 3 → up2 m1.1 18 2 (iv (ps.length : Int)) r = me.1 r := fun r r1 r2 => by
      rw [up2_r _ _ _ (by omega), c3 r (by omega)]
      exact up2_r me.1 _ _ (by omega)
    exact q.keep (E _ (by omega) (by omega)) (E _ (by omega) (by omega)) (E _ (by omega) (by omega)) (E _ (by omega) (by omega))
  · show up2 m1.1 18 2 (iv (ps.length : Int)) r = _
    rw [up2_r _ _ _ (by omega), c3 r (by omega)]
    exact up2_r me.1 _ _ (by omega)
def lgAdd (g : LG) (st to : Nat) : LG := (g.1 + 1, va_up g.2.1 g.1 st, va_up g.2.2.1 g.1 to, g.2.2.2)
theorem L_append {me : ME} {o ns : Nat} {g : LG} (ho : isLog o) (h : LogC me o ns g) (hg : g.1 < 9) (st to : Nat) : ∃ me1 : ME, mX2_append S1 me o (iv st) (iv to) = some ((), me1) ∧ LogC me1 o ns (lgAdd g st to) ∧ (∀ r, ¬ (o ≤ r ∧ r ≤ o + 2) → me1.1 r = me.1 r) ∧ me1.2 = me.2 := by
  obtain ⟨o1, ⟨o2, o3, o4⟩, ⟨o5, o6, o7⟩, o8, o9, o10⟩ := ho
  obtain ⟨g1, g2, g3⟩ := h
  unfold mX2_append mX2_append_j39
  simp only [gI_k o1, Option.bind_some, g1, show (9 : Int32) = iv 9 from rfl]
  rw [if_neg (by rw [iv_le (by omega) (by omega) (by omega) (by omega)]; omega)]
  simp only [o2, o3, Option.bind_some, uI_k o5 o8 (i := (g.1 : Int)) (by omega) (by omega) (by omega), Int.toNat_natCast, up2_r me.1 _ _ (show o ≠ o + 1 by omega), g1, uI_k o6 o9 (i := (g.1 : Int)) (by omega) (by omega) (by omega), sI_k o1, up2_r _ _ _ (show o ≠ o + 2 by omega), show (1 : Int32) = iv 1 from rfl, iv_add]
  refine ⟨_, rfl, ⟨?_, fun k hk => ⟨?_, ?_⟩, fun s hs => ?_⟩, fun r hr => ?_, rfl⟩
  · show up2 _ o 3 _ o 3 = _
    rw [up2_s]; rfl
  · show up2 (up2 (up2 me.1 (o + 1) g.1 (iv st)) (o + 2) g.1 (iv to)) o 3 _ (o + 1) k = iv ((va_up g.2.1 g.1 st k : Nat) : Int)
    have hk : k < g.1 + 1 := hk
    rw [up2_r _ _ _ (by omega), up2_r _ _ _ (by omega)]
    by_cases e : k = g.1
    · subst e; rw [up2_s]; simp [va_up]
    · rw [up2_k _ _ _ _ e, (g2 k (by omega)).1]; simp [va_up, e]
  · show up2 (up2 (up2 me.1 (o + 1) g.1 (iv st)) (o + 2) g.1 (iv to)) o 3 _ (o + 2) k = iv ((va_up g.2.2.1 g.1 to k : Nat) : Int)
    have hk : k < g.1 + 1 := hk
    rw [up2_r _ _ _ (by omega)]
    by_cases e : k = g.1
    · subst e; rw [up2_s]; simp [va_up]
    · rw [up2_k _ _ _ _ e, up2_r _ _ _ (by omega), (g2 k (by omega)).2]; simp [va_up, e]
  · show up2 (up2 (up2 me.1 (o + 1) g.1 (iv st)) (o + 2) g.1 (iv to)) o 3 _ (o + 3) s = _
    rw [up2_r _ _ _ (by omega), up2_r _ _ _ (by omega), up2_r _ _ _ (by omega)]
    exact g3 s hs
  · show up2 (up2 (up2 me.1 (o + 1) g.1 (iv st)) (o + 2) g.1 (iv to)) o 3 _ r = _
    rw [up2_r _ _ _ (by omega), up2_r _ _ _ (by omega), up2_r _ _ _ (by omega)]
def lgDel (g : LG) (k : Nat) : LG := (g.1 - 1, fun j => if k ≤ j then g.2.1 (j + 1) else g.2.1 j, fun j => if k ≤ j then g.2.2.1 (j + 1) else g.2.2.1 j, g.2.2.2)
theorem L_remove {me : ME} {o ns : Nat} {g : LG} (ho : isLog o) (h : LogC me o ns g) (hg : g.1 ≤ 9) {k : Nat} (hk : k < g.1) : ∃ me1 : ME, mX2_remove S1 me o (iv k) = some ((), me1) ∧ LogC me1 o ns (lgDel g k) ∧ (∀ r, ¬ (o ≤ r ∧ r ≤ o + 2) → me1.1 r = me.1 r) ∧ me1.2 = me.2 := by
  obtain ⟨o1, ⟨o2, o3, o4⟩, ⟨o5, o6, o7⟩, o8, o9, o10⟩ := ho
  obtain ⟨g1, g2, g3⟩ := h
  -- the memory when all up to i (from k on) are moved
  let F : Nat → ME := fun i => (va_up (va_up (va_up me.1 (o + 1) (fun j => if k ≤ j ∧ j < i then me.1 (o + 1) (j + 1) else me.1 (o + 1) j)) (o + 2) (fun j => if k ≤ j ∧ j < i then me.1 (o + 2) (j + 1) else me.1 (o + 2) j)) o (me.1 o), me.2)
  have hF : ∀ i, (F i).1 o = me.1 o := fun i => by simp [F, va_up]
  have hF1 : ∀ i, (F i).1 (o + 1) = fun j => if k ≤ j ∧ j < i then me.1 (o + 1) (j + 1) else me.1 (o + 1) j := fun i => by simp [F, va_up]
  have hF2 : ∀ i, (F i).1 (o + 2) = fun j => if k ≤ j ∧ j < i then me.1 (o + 2) (j + 1) else me.1 (o + 2) j := fun i => by simp [F, va_up]
  have hFr : ∀ i r, ¬ (o ≤ r ∧ r ≤ o + 2) → (F i).1 r = me.1 r := fun i r hr => by simp [F, va_up, show r ≠ o by omega, show r ≠ o + 1 by omega, show r ≠ o + 2 by omega]
  refine ⟨(up2 (F (g.1 - 1)).1 o 3 (iv ((g.1 : Int) - 1)), me.2), ?_, ⟨?_, fun j hj => ⟨?_, ?_⟩, fun s hs => ?_⟩, fun r hr => ?_, rfl⟩
  · unfold mX2_remove
    refine lpn_up (P := fun i s => k ≤ i ∧ s = (F i, iv i)) (e := g.1 - 1) ?_ ?_ (g.1 - 1 - k) k lpF (me, iv k) (by omega) (by unfold lpF; omega) ⟨Nat.le_refl k, ?_⟩
    · rintro i s kk hi ⟨hki, rfl⟩
      refine ⟨(F (i + 1), iv ((i + 1 : Nat) : Int)), ⟨by omega, rfl⟩, ?_⟩
      unfold mX2_remove_L2
      simp only [gI_k o1, Option.bind_some, hF, g1, show (1 : Int32) = iv 1 from rfl, iv_sub, iv_add]
      rw [if_neg (by rw [iv_le (by omega) (by omega) (by omega) (by omega)]; omega)]
      simp only [o2, o3, Option.bind_some, aI_k o5 o8 (i := (i : Int) + 1) (by omega) (by omega) (by omega), uI_k o5 o8 (i := (i : Int)) (by omega) (by omega) (by omega), aI_k o6 o9 (i := (i : Int) + 1) (by omega) (by omega) (by omega), uI_k o6 o9 (i := (i : Int)) (by omega) (by omega) (by omega), show ((i : Int) + 1).toNat = i + 1 by omega, Int.toNat_natCast]
      rw [show ((i + 1 : Nat) : Int) = (i : Int) + 1 by omega]
      congr 2
      refine Prod.ext ?_ rfl
      funext a j
      by_cases a0 : a = o
      · subst a0
        simp [up2, hF]
      · by_cases a1 : a = o + 1
        · subst a1
          by_cases ej : j = i
          · subst ej
            simp only [up2, hF1]
            simp [hki, show ¬ (j + 1 < j) by omega]
          · simp only [up2, hF1]
            simp [ej]
            by_cases q : k ≤ j ∧ j < i
            · rw [if_pos q, if_pos (by omega)]
            · rw [if_neg q, if_neg (by omega)]
        · by_cases a2 : a = o + 2
          · subst a2
            by_cases ej : j = i
            · subst ej
              simp only [up2, hF2]
              simp [hki, hF2, show ¬ (j + 1 < j) by omega]
            · simp only [up2, hF2]
              simp [ej]
              by_cases q : k ≤ j ∧ j < i
              · rw [if_pos q, if_pos (by omega)]
              · rw [if_neg q, if_neg (by omega)]
          · rw [hFr (i + 1) a (by omega)]
            simp [up2, a1, a2, hFr i a (by omega)]
    · rintro s kk ⟨hki, rfl⟩
      unfold mX2_remove_L2 mX2_remove_j46
      simp only [gI_k o1, Option.bind_some, hF, g1, show (1 : Int32) = iv 1 from rfl, iv_sub]
      rw [if_pos (by rw [iv_le (by omega) (by omega) (by omega) (by omega)]; omega)]
      simp only [sI_k o1, Option.bind_some]
      rfl
    · refine Prod.ext (Prod.ext ?_ rfl) rfl
      funext a j
      by_cases a0 : a = o
      · subst a0; rw [hF]
      · by_cases a1 : a = o + 1
        · subst a1; rw [hF1]; simp; intro q1 q2; omega
        · by_cases a2 : a = o + 2
          · subst a2; rw [hF2]; simp; intro q1 q2; omega
          · rw [hFr k a (by omega)]
  · show up2 (F (g.1 - 1)).1 o 3 _ o 3 = iv ((g.1 - 1 : Nat) : Int)
    rw [up2_s]; congr 1; omega
  · show up2 (F (g.1 - 1)).1 o 3 _ (o + 1) j = iv ((if k ≤ j then g.2.1 (j + 1) else g.2.1 j : Nat) : Int)
    have hj : j < g.1 - 1 := hj
    rw [up2_r _ _ _ (by omega), hF1]
    by_cases q : k ≤ j
    · simp only [q, hj, and_self, if_true]; exact (g2 (j + 1) (by omega)).1
    · simp only [q, false_and, if_false]; exact (g2 j (by omega)).1
  · show up2 (F (g.1 - 1)).1 o 3 _ (o + 2) j = iv ((if k ≤ j then g.2.2.1 (j + 1) else g.2.2.1 j : Nat) : Int)
    have hj : j < g.1 - 1 := hj
    rw [up2_r _ _ _ (by omega), hF2]
    by_cases q : k ≤ j
    · simp only [q, hj, and_self, if_true]; exact (g2 (j + 1) (by omega)).2
    · simp only [q, false_and, if_false]; exact (g2 j (by omega)).2
  · show up2 (F (g.1 - 1)).1 o 3 _ (o + 3) s = _
    rw [up2_r _ _ _ (by omega), hFr _ _ (by omega)]
    exact g3 s hs
  · show up2 (F (g.1 - 1)).1 o 3 _ r = _
    rw [up2_r _ _ _ (by omega), hFr _ _ hr]
