/-! ===== bits ===== -/
theorem sh_ok : ∀ n, n < 32 → ((nI n &&& 31).toBitVec.smod 32).toNat = n := by decide +kernel
theorem bit_v {b k : Nat} (hb : b < 2147483648) (hk : k < 31) : ((iv b >>> (iv k &&& 31)) &&& 1) = iv ((b / 2 ^ k % 2 : Nat) : Int) := by
  rw [← iv_nI, ← iv_nI, pk_shrN (by omega) (nI k &&& 31) k (sh_ok k (by omega)), pk_andN (n := b / 2 ^ k) (by have := Nat.div_le_self b (2 ^ k); omega) (m := 1) 1 (by decide), iv_nI]
theorem tb_iff (b k : Nat) : b.testBit k = true ↔ b / 2 ^ k % 2 = 1 := by rw [Nat.testBit_eq_decide_div_mod_eq]; simp
theorem has_v (S : SH) (me : ME) {b k : Nat} (hb : b < 2147483648) (hk : k < 31) : mX10_has S me (iv b) (iv k) = some (if b.testBit k = true then 1 else 0, me) := by
  unfold mX10_has mX10_has_j14
  rw [bit_v hb hk]
  have hm : b / 2 ^ k % 2 < 2 := Nat.mod_lt _ (by decide)
  by_cases h : b.testBit k = true
  · rw [if_pos (by rw [(tb_iff b k).mp h]; rfl), if_pos (Or.inr rfl), if_pos h]
  · have : b / 2 ^ k % 2 = 0 := by
      have h9 : ¬ b / 2 ^ k % 2 = 1 := fun q => h ((tb_iff b k).mpr q)
      generalize b / 2 ^ k % 2 = z at hm h9 ⊢
      omega
    rw [this, if_neg (by decide), if_pos (Or.inl rfl), if_neg h]
theorem holds_v (S : SH) (me : ME) {b k : Nat} (hb : b < 2147483648) (hk : k < 31) : mX9_holds S me (iv b) (iv k) = some (if b.testBit k = true then 1 else 0, me) := by
  unfold mX9_holds mX9_holds_j13
  rw [bit_v hb hk]
  have hm : b / 2 ^ k % 2 < 2 := Nat.mod_lt _ (by decide)
  by_cases h : b.testBit k = true
  · rw [(tb_iff b k).mp h, if_neg (by decide), if_pos (Or.inr rfl), if_pos h]
  · have : b / 2 ^ k % 2 = 0 := by
      have h9 : ¬ b / 2 ^ k % 2 = 1 := fun q => h ((tb_iff b k).mpr q)
      generalize b / 2 ^ k % 2 = z at hm h9 ⊢
      omega
    rw [this, if_pos (by decide), if_pos (Or.inl rfl), if_neg h]
theorem or_v (a b : Nat) : iv a ||| iv b = iv ((a ||| b : Nat) : Int) := by
  rw [← iv_nI, ← iv_nI, ← iv_nI]
  apply Int32.toBitVec_inj.mp
  simp [nI]
theorem shl_v {k : Nat} (hk : k < 31) : (1 : Int32) <<< (iv k &&& 31) = iv ((2 ^ k : Nat) : Int) := by
  have := pk_shlN (n := 1) (nI k &&& 31) k (sh_ok k (by omega)) (by have := Nat.pow_lt_pow_right (a := 2) (by decide) (show k < 32 by omega); omega)
  rw [Nat.one_mul, iv_nI, iv_nI] at this
  exact this
theorem or_bit (b k j : Nat) : (b ||| 2 ^ k).testBit j = (b.testBit j || decide (k = j)) := by
  rw [Nat.testBit_or, Nat.testBit_two_pow]
theorem or_lt {b k : Nat} (hb : b < 512) (hk : k < 9) : b ||| 2 ^ k < 512 := Nat.or_lt_two_pow (n := 9) hb (Nat.pow_lt_pow_right (by decide) hk)
/-! ===== the order of the readings, and the groups ===== -/
def PB (A : AS) (k : Nat) : Int := A.2.2.1.2.1 k
def PX (A : AS) (k : Nat) : Int := A.2.1.2.1 (A.2.2.1.2.1 k)
def PY (A : AS) (k : Nat) : Int := A.2.1.2.2 (A.2.2.1.2.1 k)
def PN (A : AS) : Nat := A.2.2.1.1
theorem P_b {A : AS} (hA : ASok A) {k : Nat} (hk : k < PN A) : (0 ≤ PB A k ∧ PB A k ≤ 5) ∧ (0 ≤ PX A k ∧ PX A k ≤ 29) ∧ (0 ≤ PY A k ∧ PY A k ≤ 29) ∧ -3 ≤ tmA A k ∧ tmA A k ≤ 63 := by
  have h1 := hA.2.2.1.2.1 k hk
  have h2 := hA.2.1.2 _ h1.1
  have h3 := hA.2.1.1
  have h4 := tmS_b (c := A.2.2.1.2.2.2 (A.2.2.1.2.1 k)) h1.2
  unfold PB PX PY
  exact ⟨by omega, by omega, by omega, h4⟩
/-- a comes ahead of b -/
def Ah (A : AS) (a b : Nat) : Prop := tmA A a < tmA A b ∨ (tmA A a = tmA A b ∧ (PB A a < PB A b ∨ (PB A a = PB A b ∧ a < b)))
theorem Ah_ir {A : AS} {a : Nat} : ¬ Ah A a a := by unfold Ah; omega
theorem Ah_tr {A : AS} {a b c : Nat} (h : Ah A a b) (h2 : Ah A b c) : Ah A a c := by unfold Ah at *; omega
theorem Ah_to {A : AS} {a b : Nat} (h : a ≠ b) : Ah A a b ∨ Ah A b a := by unfold Ah; omega
/-- k is the first of those that u doesn't hold -/
def Pick (A : AS) (u : Nat → Prop) (k : Nat) : Prop := (k < PN A ∧ ¬ u k) ∧ ∀ j, j < PN A → ¬ u j → j = k ∨ Ah A k j
theorem Pick_un {A : AS} {u : Nat → Prop} {k k' : Nat} (h : Pick A u k) (h' : Pick A u k') : k = k' := by
  rcases h.2 k' h'.1.1 h'.1.2 with q | q
  · exact q.symm
  · rcases h'.2 k h.1.1 h.1.2 with q' | q'
    · exact q'
    · exact absurd (Ah_tr q q') Ah_ir
noncomputable def pkE (A : AS) (u : Nat → Prop) : Nat := Classical.epsilon (Pick A u)
theorem pkE_eq {A : AS} {u : Nat → Prop} {k : Nat} (h : Pick A u k) : pkE A u = k := Pick_un (Classical.epsilon_spec ⟨k, h⟩) h
noncomputable def picks (A : AS) : Nat → List Nat
  | 0 => []
  | i + 1 => picks A i ++ [pkE A (fun j => j ∈ picks A i)]
noncomputable def nth (A : AS) (i : Nat) : Nat := pkE A (fun j => j ∈ picks A i)
theorem picks_succ (A : AS) (i : Nat) : picks A (i + 1) = picks A i ++ [nth A i] := rfl
theorem picks_mem (A : AS) (i j : Nat) : j ∈ picks A i ↔ ∃ t, t < i ∧ nth A t = j := by
  induction i with
  | zero => simp [picks]
  | succ i ih =>
    rw [picks_succ, List.mem_append, ih, List.mem_singleton]
    constructor
    · rintro (⟨t, h1, h2⟩ | h)
      · exact ⟨t, by omega, h2⟩
      · exact ⟨i, by omega, h.symm⟩
    · rintro ⟨t, h1, h2⟩
      by_cases e : t = i
      · subst e; exact Or.inr h2.symm
      · exact Or.inl ⟨t, by omega, h2⟩
/-- a row that is sorted and holds all is the row of the picks -/
theorem nth_of {A : AS} {o : Nat → Nat} (h1 : ∀ i j, i < j → j < PN A → Ah A (o i) (o j)) (h2 : ∀ i, i < PN A → o i < PN A) (h3 : ∀ k, k < PN A → ∃ i, i < PN A ∧ o i = k) : ∀ i, i < PN A → nth A i = o i := by
  have inj : ∀ i j, i < PN A → j < PN A → o i = o j → i = j := by
    intro i j hi hj e
    rcases Nat.lt_trichotomy i j with q | q | q
    · have := h1 i j q hj; rw [e] at this; exact absurd this Ah_ir
    · exact q
    · have := h1 j i q hi; rw [e] at this; exact absurd this Ah_ir
  intro i
  induction i using Nat.strongRecOn with
  | ind i ih =>
    intro hi
    refine pkE_eq ⟨⟨h2 i hi, fun hm => ?_⟩, fun j hj hu => ?_⟩
    · obtain ⟨t, t1, t2⟩ := (picks_mem A i (o i)).mp hm
      rw [ih t t1 (by omega)] at t2
      have := inj t i (by omega) hi t2
      omega
    · obtain ⟨t, t1, t2⟩ := h3 j hj
      by_cases e : t = i
      · subst e; exact Or.inl t2.symm
      · right
        have : i < t := by
          rcases Nat.lt_or_ge t i with q | q
          · exact absurd ((picks_mem A i j).mpr ⟨t, q, by rw [ih t q t1]; exact t2⟩) hu
          · omega
        rw [← t2]
        exact h1 i t this t1
def Tog (A : AS) (a b : Nat) : Prop := PB A a ≠ PB A b ∧ (tmA A a - tmA A b) * (tmA A a - tmA A b) ≤ (PX A a - PX A b) * (PX A a - PX A b) + (PY A a - PY A b) * (PY A a - PY A b)
def Fit (A : AS) (b k : Nat) : Prop := ∀ j, j < PN A → b.testBit j = true → Tog A j k
/-- the first below m of which P holds, else m -/
noncomputable def fstN (P : Nat → Prop) : Nat → Nat
  | 0 => 0
  | m + 1 => if fstN P m < m then fstN P m else @ite _ (P m) (Classical.propDecidable _) m (m + 1)
theorem fstN_ok (P : Nat → Prop) : ∀ m, (fstN P m < m ∧ P (fstN P m) ∧ ∀ g, g < fstN P m → ¬ P g) ∨ (fstN P m = m ∧ ∀ g, g < m → ¬ P g) := by
  intro m
  induction m with
  | zero => exact Or.inr ⟨rfl, fun g h => by omega⟩
  | succ m ih =>
    unfold fstN
    rcases ih with ⟨a, b, c⟩ | ⟨a, b⟩
    · rw [if_pos a]
      exact Or.inl ⟨by omega, b, c⟩
    · rw [if_neg (by omega)]
      by_cases h : P m
      · rw [if_pos h]; exact Or.inl ⟨by omega, h, b⟩
      · rw [if_neg h]
        refine Or.inr ⟨rfl, fun g hg => ?_⟩
        by_cases e : g = m
        · subst e; exact h
        · exact b g (by omega)
theorem fstN_eq {P : Nat → Prop} {m r : Nat} (h : (r < m ∧ P r ∧ ∀ g, g < r → ¬ P g) ∨ (r = m ∧ ∀ g, g < m → ¬ P g)) : fstN P m = r := by
  rcases fstN_ok P m with ⟨a, b, c⟩ | ⟨a, b⟩ <;> rcases h with ⟨a', b', c'⟩ | ⟨a', b'⟩
  · rcases Nat.lt_trichotomy (fstN P m) r with q | q | q
    · exact absurd b (c' _ q)
    · exact q
    · exact absurd b' (c _ q)
  · exact absurd b (b' _ a)
  · exact absurd b' (b _ a')
  · omega
/-- behind i picks: how many groups, which readings each has, the group of each reading -/
noncomputable def grp (A : AS) : Nat → Nat × (Nat → Nat) × (Nat → Nat)
  | 0 => (0, fun _ => 0, fun _ => 0)
  | i + 1 =>
    let q := grp A i
    let to := fstN (fun g => Fit A (q.2.1 g) (nth A i)) q.1
    (if to = q.1 then q.1 + 1 else q.1, va_up q.2.1 to ((if to = q.1 then 0 else q.2.1 to) ||| 2 ^ nth A i), va_up q.2.2 (nth A i) to)
noncomputable def gto (A : AS) (i : Nat) : Nat := fstN (fun g => Fit A ((grp A i).2.1 g) (nth A i)) (grp A i).1
theorem grp_succ (A : AS) (i : Nat) : grp A (i + 1) = (if gto A i = (grp A i).1 then (grp A i).1 + 1 else (grp A i).1, va_up (grp A i).2.1 (gto A i) ((if gto A i = (grp A i).1 then 0 else (grp A i).2.1 (gto A i)) ||| 2 ^ nth A i), va_up (grp A i).2.2 (nth A i) (gto A i)) := rfl
theorem gto_le (A : AS) (i : Nat) : gto A i ≤ (grp A i).1 := by
  rcases fstN_ok (fun g => Fit A ((grp A i).2.1 g) (nth A i)) (grp A i).1 with ⟨a, -⟩ | ⟨a, -⟩
  · unfold gto; omega
  · unfold gto; omega
theorem grp_le (A : AS) (i : Nat) : (grp A i).1 ≤ i := by
  induction i with
  | zero => exact Nat.le_refl 0
  | succ i ih =>
    rw [grp_succ]
    show (if gto A i = (grp A i).1 then (grp A i).1 + 1 else (grp A i).1) ≤ i + 1
    split <;> omega
theorem grp_lt {A : AS} {i : Nat} (hn : ∀ t, t < i → nth A t < 9) : ∀ g, (grp A i).2.1 g < 512 := by
  induction i with
  | zero => intro g; exact (by decide : 0 < 512)
  | succ i ih =>
    intro g
    rw [grp_succ]
    show va_up (grp A i).2.1 (gto A i) ((if gto A i = (grp A i).1 then 0 else (grp A i).2.1 (gto A i)) ||| 2 ^ nth A i) g < 512
    by_cases e : g = gto A i
    · subst e
      simp only [va_up, if_true]
      refine or_lt ?_ (hn i (by omega))
      split
      · decide
      · exact ih (fun t ht => hn t (by omega)) _
    · simp only [va_up, if_neg e]
      exact ih (fun t ht => hn t (by omega)) g
