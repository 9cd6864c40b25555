/-! ===== station, due, times ===== -/
theorem lpn_ix {σ ρ : Type} {f : (σ → Option ρ) → σ → Option ρ} {res : Option ρ} (P : Nat → σ → Prop) (e : Nat) (hstep : ∀ (i : Nat) (s : σ) (k : σ → Option ρ), i ≤ e → P i s → (i < e ∧ ∃ s', P (i + 1) s' ∧ f k s = k s') ∨ f k s = res) : ∀ (d i n : Nat) (s : σ), i + d = e → d < n → P i s → lpn f n s = res := by
  intro d
  induction d with
  | zero =>
    intro i n s h1 h2 h3
    obtain ⟨n, rfl⟩ : ∃ m, n = m + 1 := ⟨n - 1, by omega⟩
    rcases hstep i s (lpn f n) (by omega) h3 with ⟨h, -⟩ | h
    · omega
    · exact h
  | succ d ih =>
    intro i n s h1 h2 h3
    obtain ⟨n, rfl⟩ : ∃ m, n = m + 1 := ⟨n - 1, by omega⟩
    rcases hstep i s (lpn f n) (by omega) h3 with ⟨-, s', h4, h5⟩ | h
    · show f (lpn f n) s = res
      rw [h5]
      exact ih (i + 1) n s' (by omega) (by omega) h4
    · exact h
def Rt (v w : Int) : Prop := (0 ≤ w ∧ w * w = v) ∨ (w = -1 ∧ ∀ r : Int, r * r ≠ v)
theorem Rt_ex (v : Int) : ∃ w, Rt v w := by
  by_cases h : ∃ r : Int, r * r = v
  · obtain ⟨r, hr⟩ := h
    by_cases h0 : 0 ≤ r
    · exact ⟨r, Or.inl ⟨h0, hr⟩⟩
    · exact ⟨-r, Or.inl ⟨by omega, by rw [Int.neg_mul_neg]; exact hr⟩⟩
  · exact ⟨-1, Or.inr ⟨rfl, fun r hr => h ⟨r, hr⟩⟩⟩
noncomputable def rtS (v : Int) : Int := Classical.choose (Rt_ex v)
theorem rtS_ok (v : Int) : Rt v (rtS v) := Classical.choose_spec (Rt_ex v)
theorem sq_nn (x : Int) : 0 ≤ x * x := by
  by_cases h : 0 ≤ x
  · exact Int.mul_nonneg h h
  · have := Int.mul_nonneg (show 0 ≤ -x by omega) (show 0 ≤ -x by omega); rw [Int.neg_mul_neg] at this; exact this
theorem sq_lt {a b : Int} (h0 : 0 ≤ a) (h : a < b) : a * a < b * b := Int.mul_self_lt_mul_self h0 h
theorem sq_inj {a b : Int} (h0 : 0 ≤ a) (h1 : 0 ≤ b) (h : a * a = b * b) : a = b := by
  rcases Int.lt_trichotomy a b with q | q | q
  · have := sq_lt h0 q; omega
  · exact q
  · have := sq_lt h1 q; omega
theorem Rt_un {v w : Int} (h : Rt v w) : w = rtS v := by
  have h2 := rtS_ok v
  rcases h with ⟨a, b⟩ | ⟨a, b⟩ <;> rcases h2 with ⟨c, d⟩ | ⟨c, d⟩
  · exact sq_inj a c (b.trans d.symm)
  · exact absurd b (d w)
  · exact absurd d (b _)
  · rw [a, c]
/-- no whole root between i - 1 and i -/
theorem no_rt {v i : Int} (hi : 0 ≤ i) (h1 : v < i * i) (h2 : ∀ j : Int, 0 ≤ j → j < i → j * j < v) : ∀ r : Int, r * r ≠ v := by
  intro r hr
  have key : ∀ r : Int, 0 ≤ r → r * r ≠ v := by
    intro r h0 hr
    by_cases h : r < i
    · have := h2 r h0 h; omega
    · rcases Int.lt_or_eq_of_le (Int.not_lt.mp h) with q | q
      · have := sq_lt hi q; omega
      · subst q; omega
  by_cases h0 : 0 ≤ r
  · exact key r h0 hr
  · exact key (-r) (by omega) (by rw [Int.neg_mul_neg]; exact hr)
theorem sq_b {i n : Int} (h0 : 0 ≤ i) (h : i ≤ n) : i * i ≤ n * n := Int.mul_self_le_mul_self h0 h
theorem wholeWay_v (S : SH) (me : ME) {x y : Int} (hx : -29 ≤ x ∧ x ≤ 29) (hy : -29 ≤ y ∧ y ≤ 29) : mX9_wholeWay S me (iv x) (iv y) = some (iv (rtS (x * x + y * y)), me) := by
  have hxx : x * x ≤ 29 * 29 := by
    by_cases h : 0 ≤ x
    · exact sq_b h (by omega)
    · have := sq_b (i := -x) (n := 29) (by omega) (by omega); rw [Int.neg_mul_neg] at this; exact this
  have hyy : y * y ≤ 29 * 29 := by
    by_cases h : 0 ≤ y
    · exact sq_b h (by omega)
    · have := sq_b (i := -y) (n := 29) (by omega) (by omega); rw [Int.neg_mul_neg] at this; exact this
  have hx0 : 0 ≤ x * x := sq_nn _
  have hy0 : 0 ≤ y * y := sq_nn _
  unfold mX9_wholeWay
  rw [iv_mul, iv_mul, iv_add]
  generalize hv : x * x + y * y = v at *
  have hv0 : 0 ≤ v := by omega
  have hv1 : v ≤ 1682 := by omega
  refine lpn_ix (P := fun i s => s = (me, iv v, iv i) ∧ ∀ j : Int, 0 ≤ j → j < i → j * j < v) (e := 42) ?_ 42 0 lpF _ (by omega) (by unfold lpF; omega) ⟨rfl, fun j h1 h2 => by omega⟩
  rintro i s k hi ⟨rfl, hP⟩
  have hib : (i : Int) * i ≤ 42 * 42 := sq_b (by omega) (by omega)
  have hi0 : 0 ≤ (i : Int) * i := sq_nn _
  unfold mX9_wholeWay_L10 mX9_wholeWay_j42 mX9_wholeWay_j23 mX9_wholeWay_j35
  simp only [show (41 : Int32) = iv 41 from rfl, show (1 : Int32) = iv 1 from rfl, iv_mul, iv_add]
  by_cases h42 : i = 42
  · subst h42
    right
    rw [if_pos (by rw [iv_lt (by omega) (by omega) (by omega) (by omega)]; omega)]
    have : Rt v (-1) := Or.inr ⟨rfl, no_rt (i := 42) (by omega) (by omega) (fun j h1 h2 => hP j h1 h2)⟩
    rw [← Rt_un this]
    rfl
  · rw [if_neg (by rw [iv_lt (by omega) (by omega) (by omega) (by omega)]; omega)]
    by_cases hlt : (i : Int) * i < v
    · left
      refine ⟨by omega, (me, iv v, iv ((i + 1 : Nat) : Int)), ⟨rfl, fun j h1 h2 => ?_⟩, ?_⟩
      · by_cases e : j < i
        · exact hP j h1 e
        · have : j = i := by omega
          subst this; exact hlt
      · rw [if_pos (by rw [iv_lt (by omega) (by omega) (by omega) (by omega)]; exact hlt), show ((i + 1 : Nat) : Int) = (i : Int) + 1 by omega]
    · right
      rw [if_neg (by rw [iv_lt (by omega) (by omega) (by omega) (by omega)]; exact hlt)]
      by_cases he : (i : Int) * i = v
      · rw [if_pos (by rw [he]), ← Rt_un (Or.inl ⟨by omega, he⟩ : Rt v i)]
      · rw [if_neg (by rw [iv_eq (by omega) (by omega) (by omega) (by omega)]; exact he)]
        have : Rt v (-1) := Or.inr ⟨rfl, no_rt (i := i) (by omega) (by omega) hP⟩
        rw [← Rt_un this]
        rfl
theorem root_v (S : SH) (me : ME) {v : Int} (hv0 : 0 ≤ v) (hv1 : v ≤ 1682) : mX10_root S me (iv v) = some (if rtS v < 0 then iv (-9) else iv (rtS v), me) := by
  unfold mX10_root
  refine lpn_ix (P := fun i s => s = (me, iv i) ∧ ∀ j : Int, 0 ≤ j → j < i → j * j < v) (e := 42) ?_ 42 0 lpF _ (by omega) (by unfold lpF; omega) ⟨rfl, fun j h1 h2 => by omega⟩
  rintro i s k hi ⟨rfl, hP⟩
  have hib : (i : Int) * i ≤ 42 * 42 := sq_b (by omega) (by omega)
  have hi0 : 0 ≤ (i : Int) * i := sq_nn _
  unfold mX10_root_L2 mX10_root_j15 mX10_root_j28
  simp only [show (1 : Int32) = iv 1 from rfl, iv_mul, iv_add]
  by_cases hlt : (i : Int) * i < v
  · left
    have : i < 42 := by
      rcases Nat.lt_or_ge i 42 with q | q
      · exact q
      · have : i = 42 := by omega
        subst this; omega
    refine ⟨this, (me, iv ((i + 1 : Nat) : Int)), ⟨rfl, fun j h1 h2 => ?_⟩, ?_⟩
    · by_cases e : j < i
      · exact hP j h1 e
      · have : j = i := by omega
        subst this; exact hlt
    · rw [if_neg (by rw [iv_le (by omega) (by omega) (by omega) (by omega)]; omega), show ((i + 1 : Nat) : Int) = (i : Int) + 1 by omega]
  · right
    rw [if_pos (by rw [iv_le (by omega) (by omega) (by omega) (by omega)]; omega)]
    by_cases he : (i : Int) * i = v
    · have hr := Rt_un (Or.inl ⟨by omega, he⟩ : Rt v i)
      rw [if_pos (by rw [he]), if_neg (by rw [← hr]; omega), ← hr]
    · rw [if_neg (by rw [iv_eq (by omega) (by omega) (by omega) (by omega)]; exact he)]
      have hr := Rt_un (Or.inr ⟨rfl, no_rt (i := i) (by omega) (by omega) hP⟩ : Rt v (-1))
      rw [if_pos (by rw [← hr]; omega)]
      rfl
theorem rtS_b {v : Int} (hv0 : 0 ≤ v) (hv1 : v ≤ 1682) : -1 ≤ rtS v ∧ rtS v ≤ 41 := by
  rcases rtS_ok v with ⟨a, b⟩ | ⟨a, b⟩
  · refine ⟨by omega, ?_⟩
    rcases Int.lt_or_le 41 (rtS v) with q | q
    · have := sq_b (i := 42) (n := rtS v) (by omega) (by omega); omega
    · exact q
  · omega
/-- the time of a reading -/
def tmS (c t : Nat) : Int := if c = 1 then (t : Int) - 3 else if c = 2 then t + 3 else if c = 3 then ((t / 2 : Nat) : Int) else if c = 4 then 60 - t else t
theorem tmS_b {c t : Nat} (h : t ≤ 60) : -3 ≤ tmS c t ∧ tmS c t ≤ 63 := by
  unfold tmS
  split
  · omega
  · split
    · omega
    · split
      · omega
      · split <;> omega
theorem half {t : Nat} (h : t ≤ 60) : iv t / iv 2 = iv ((t / 2 : Nat) : Int) := by
  rw [iv_div (by omega) (by omega) (by omega) (by omega)]
  exact congrArg iv (by rw [Int.tdiv_eq_ediv_of_nonneg (by omega)]; omega)
theorem timeOf_v (S : SH) (me : ME) {c t : Nat} (hc : c ≤ 4) (ht : t ≤ 60) : mX9_timeOf S me (iv c) (iv t) = some (iv (tmS c t), me) := by
  unfold mX9_timeOf tmS
  simp only [show (1 : Int32) = iv 1 from rfl, show (2 : Int32) = iv 2 from rfl, show (3 : Int32) = iv 3 from rfl, show (4 : Int32) = iv 4 from rfl, show (60 : Int32) = iv 60 from rfl, iv_sub, iv_add, half ht]
  rcases (show c = 0 ∨ c = 1 ∨ c = 2 ∨ c = 3 ∨ c = 4 by omega) with rfl | rfl | rfl | rfl | rfl
  · rw [if_neg (by decide), if_neg (by decide), if_neg (by decide), if_neg (by decide)]; rfl
  · rw [if_pos (by decide)]; rfl
  · rw [if_neg (by decide), if_pos (by decide)]; rfl
  · rw [if_neg (by decide), if_neg (by decide), if_pos (by decide)]; rfl
  · rw [if_neg (by decide), if_neg (by decide), if_neg (by decide), if_pos (by decide)]; rfl
/-- the time of the reading k -/
def tmA (A : AS) (k : Nat) : Int := tmS (A.2.2.1.2.2.2 (A.2.2.1.2.1 k)) (A.2.2.1.2.2.1 k)
theorem timeM_v {me : ME} {A : AS} (hR : RepM me A) (hA : ASok A) {k : Nat} (hk : k < A.2.2.1.1) : mX10_timeOf S1 me 91 (iv k) = some (iv (tmA A k), me) := by
  have hn := hA.2.2.1.1
  have hns := hA.2.1.1
  obtain ⟨b1, b2⟩ := hA.2.2.1.2.1 k hk
  have b3 := hA.2.2.1.2.2 _ b1
  obtain ⟨r1, r2⟩ := hR.2.2.1.2.1 k hk
  have r3 := hR.2.2.1.2.2 _ b1
  rw [Nat.zero_add] at r1 r2 r3
  unfold mX10_timeOf tmA
  generalize A.2.2.1.2.1 k = bk at *
  generalize A.2.2.1.2.2.1 k = t at *
  generalize A.2.2.1.2.2.2 bk = c at *
  simp only [rS_91_3, bs, show (1 : Int32) = iv 1 from rfl, show (7 : Int32) = iv 7 from rfl, show (16 : Int32) = iv 16 from rfl, iv_add, aI_k kS_94 lS_94 (i := 16 + (k : Int)) (by omega) (by omega) (by omega), aI_k kS_94 lS_94 (i := 7 + (k : Int)) (by omega) (by omega) (by omega), show (16 + (k : Int)).toNat = 16 + k by omega, show (7 + (k : Int)).toNat = 7 + k by omega, r1, r2, aI_k kS_94 lS_94 (i := 1 + (bk : Int)) (by omega) (by omega) (by omega), show (1 + (bk : Int)).toNat = 1 + bk by omega, r3, show (2 : Int32) = iv 2 from rfl, show (3 : Int32) = iv 3 from rfl, show (4 : Int32) = iv 4 from rfl, show (60 : Int32) = iv 60 from rfl, iv_sub, half b2]
  rcases (show c = 0 ∨ c = 1 ∨ c = 2 ∨ c = 3 ∨ c = 4 by omega) with rfl | rfl | rfl | rfl | rfl
  · rw [if_neg (by decide), if_neg (by decide), if_neg (by decide), if_neg (by decide)]; rfl
  · rw [if_pos (by decide)]; rfl
  · rw [if_neg (by decide), if_pos (by decide)]; rfl
  · rw [if_neg (by decide), if_neg (by decide), if_pos (by decide)]; rfl
  · rw [if_neg (by decide), if_neg (by decide), if_neg (by decide), if_pos (by decide)]; rfl
theorem xM_v {me : ME} {A : AS} (hR : RepM me A) (hA : ASok A) {k : Nat} (hk : k < A.2.2.1.1) : mX10_xOf S1 me 91 (iv k) = some (iv (A.2.1.2.1 (A.2.2.1.2.1 k)), me) := by
  have hn := hA.2.2.1.1
  have hns := hA.2.1.1
  obtain ⟨b1, b2⟩ := hA.2.2.1.2.1 k hk
  obtain ⟨r1, r2⟩ := hR.2.2.1.2.1 k hk
  have r3 := (hR.2.1.2 _ b1).1
  rw [Nat.zero_add] at r1
  unfold mX10_xOf
  simp only [rS_91_3, rS_91_1, bs, show (7 : Int32) = iv 7 from rfl, iv_add, aI_k kS_94 lS_94 (i := 7 + (k : Int)) (by omega) (by omega) (by omega), show (7 + (k : Int)).toNat = 7 + k by omega, r1, aI_k kS_92 lS_92 (i := (A.2.2.1.2.1 k : Int)) (by omega) (by omega) (by omega), Int.toNat_natCast, r3]
theorem yM_v {me : ME} {A : AS} (hR : RepM me A) (hA : ASok A) {k : Nat} (hk : k < A.2.2.1.1) : mX10_yOf S1 me 91 (iv k) = some (iv (A.2.1.2.2 (A.2.2.1.2.1 k)), me) := by
  have hn := hA.2.2.1.1
  have hns := hA.2.1.1
  obtain ⟨b1, b2⟩ := hA.2.2.1.2.1 k hk
  obtain ⟨r1, r2⟩ := hR.2.2.1.2.1 k hk
  have r3 := (hR.2.1.2 _ b1).2
  rw [Nat.zero_add] at r1
  unfold mX10_yOf
  simp only [rS_91_3, rS_91_2, bs, show (7 : Int32) = iv 7 from rfl, iv_add, aI_k kS_94 lS_94 (i := 7 + (k : Int)) (by omega) (by omega) (by omega), show (7 + (k : Int)).toNat = 7 + k by omega, r1, aI_k kS_93 lS_93 (i := (A.2.2.1.2.1 k : Int)) (by omega) (by omega) (by omega), Int.toNat_natCast, r3]
/-- station -/
def spStation (x y : Int) (A : AS) : Int × AS := (if (0 ≤ x ∧ x < A.2.1.1) ∧ 0 ≤ y ∧ y ≤ 2 then (if y = 0 then (A.2.1.2.1 x.toNat : Int) else if y = 1 then A.2.1.2.2 x.toNat else A.2.2.1.2.2.2 x.toNat) else -1, A)
theorem ok_station (x y : Int) : OpOK (spStation x y) := fun A h => h
theorem C_station {x y : Int} (h1 : -2147483648 ≤ x) (h2 : x ≤ 2147483647) (h3 : -2147483648 ≤ y) (h4 : y ≤ 2147483647) : OpC (fun me => mX9_station S1 me 0 (iv x) (iv y)) (spStation x y) := by
  intro me A hR hA
  have hns := hA.2.1.1
  refine ⟨me, ?_, hR, EqM.rfl'⟩
  show mX9_station S1 me 0 (iv x) (iv y) = some (iv (spStation x y A).1, me)
  unfold mX9_station mX9_station_j16 spStation
  simp only [ck_s kS_0, bs, hasStation_v hR hA h1 h2]
  by_cases hx : 0 ≤ x ∧ x < A.2.1.1
  · simp only [if_pos hx]
    rw [if_neg (by decide)]
    by_cases hy : 0 ≤ y ∧ y ≤ 2
    · simp only [show (2 : Int32) = iv 2 from rfl, within_t S1 me hy (by omega), bs]
      rw [if_neg (by decide), if_pos (show (0 ≤ x ∧ x < (A.2.1.1 : Int)) ∧ 0 ≤ y ∧ y ≤ 2 from ⟨hx, hy⟩)]
      obtain ⟨s1, s2⟩ := hR.2.1.2 x.toNat (by omega)
      have s3 := hR.2.2.1.2.2 x.toNat (by omega)
      simp only [rS_0_2, rS_0_3, rS_11_0, rS_11_1, rS_14_2, bs, aI_k kS_12 lS_12 (i := x) (by omega) (by omega) (by omega), aI_k kS_13 lS_13 (i := x) (by omega) (by omega) (by omega), aI_k kS_17 lS_17 (i := x) (by omega) (by omega) (by omega), s1, s2, s3]
      rcases (show y = 0 ∨ y = 1 ∨ y = 2 by omega) with rfl | rfl | rfl
      · rw [if_pos (by decide), if_pos (by decide)]
      · rw [if_neg (by decide), if_pos (by decide), if_neg (by decide), if_pos (by decide)]
      · rw [if_neg (by decide), if_neg (by decide), if_neg (by decide), if_neg (by decide)]
    · simp only [show (2 : Int32) = iv 2 from rfl, within_f S1 me hy h3 h4 (by omega) (by omega), bs]
      rw [if_pos trivial, if_neg (fun q => hy q.2)]
      rfl
  · simp only [if_neg hx]
    rw [if_pos trivial, if_neg (fun q => hx q.1)]
    rfl
theorem M_station {x y : Int} (h1 : -2147483648 ≤ x) (h2 : x ≤ 2147483647) (h3 : -2147483648 ≤ y) (h4 : y ≤ 2147483647) : OpM (fun me => mX10_station S1 me 91 (iv x) (iv y)) (spStation x y) := by
  intro me A hR hA
  have hns := hA.2.1.1
  refine ⟨me, ?_, hR, EqC.rfl'⟩
  show mX10_station S1 me 91 (iv x) (iv y) = some (iv (spStation x y A).1, me)
  unfold mX10_station mX10_station_j17 mX10_station_j54 spStation
  simp only [ck_s kS_91, bs, isStation_v hR hA h1 h2]
  by_cases hx : 0 ≤ x ∧ x < A.2.1.1
  · simp only [if_pos hx]
    rw [if_neg (by decide)]
    by_cases hy : 0 ≤ y ∧ y ≤ 2
    · simp only [show (2 : Int32) = iv 2 from rfl, show (0 : Int32) = iv 0 from rfl, in_t S1 me hy (by omega) (by omega), bs]
      rw [if_neg (by decide), if_pos (show (0 ≤ x ∧ x < (A.2.1.1 : Int)) ∧ 0 ≤ y ∧ y ≤ 2 from ⟨hx, hy⟩)]
      obtain ⟨s1, s2⟩ := hR.2.1.2 x.toNat (by omega)
      have s3 := hR.2.2.1.2.2 x.toNat (by omega)
      rw [Nat.zero_add] at s3
      simp only [rS_91_1, rS_91_2, rS_91_3, bs, show (1 : Int32) = iv 1 from rfl, iv_add, aI_k kS_92 lS_92 (i := x) (by omega) (by omega) (by omega), aI_k kS_93 lS_93 (i := x) (by omega) (by omega) (by omega), aI_k kS_94 lS_94 (i := 1 + x) (by omega) (by omega) (by omega), show (1 + x).toNat = 1 + x.toNat by omega, s1, s2, s3]
      rcases (show y = 0 ∨ y = 1 ∨ y = 2 by omega) with rfl | rfl | rfl
      · rw [if_pos (by decide), if_pos (by decide)]
      · rw [if_neg (by decide), if_pos (by decide), if_neg (by decide), if_pos (by decide)]
      · rw [if_neg (by decide), if_neg (by decide), if_neg (by decide), if_neg (by decide)]
    · simp only [show (2 : Int32) = iv 2 from rfl, show (0 : Int32) = iv 0 from rfl, in_f S1 me hy h3 h4 (by omega) (by omega) (by omega) (by omega), bs]
      rw [if_pos trivial, if_neg (fun q => hy q.2)]
      rfl
  · simp only [if_neg hx]
    rw [if_pos trivial, if_neg (fun q => hx q.1)]
    rfl
