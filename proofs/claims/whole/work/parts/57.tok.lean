/-! ===== the text read: tokens ===== -/
abbrev TX : Type := Nat × (Nat → Int32)
def skp (t : TX) : Nat → Nat → Nat
  | 0, p => p
  | d + 1, p => if t.2 p = 32 then skp t d (p + 1) else p
def sk (t : TX) (p : Nat) : Nat := skp t (t.1 - p) p
theorem sk_go {t : TX} {p : Nat} (h : p < t.1) (h2 : t.2 p = 32) : sk t p = sk t (p + 1) := by
  unfold sk
  rw [show t.1 - p = (t.1 - (p + 1)) + 1 by omega]
  show (if t.2 p = 32 then skp t (t.1 - (p + 1)) (p + 1) else p) = _
  rw [if_pos h2]
theorem sk_stop {t : TX} {p : Nat} (h : ¬ (p < t.1 ∧ t.2 p = 32)) : sk t p = p := by
  unfold sk
  by_cases c : p < t.1
  · rw [show t.1 - p = (t.1 - (p + 1)) + 1 by omega]
    show (if t.2 p = 32 then skp t (t.1 - (p + 1)) (p + 1) else p) = _
    rw [if_neg (fun q => h ⟨c, q⟩)]
  · rw [show t.1 - p = 0 by omega]
    rfl
theorem sk_b' (t : TX) : ∀ d p, p + d = t.1 → p ≤ sk t p ∧ sk t p ≤ t.1 ∧ ¬ (sk t p < t.1 ∧ t.2 (sk t p) = 32) := by
  intro d
  induction d with
  | zero =>
    intro p hp
    have e : ¬ (p < t.1 ∧ t.2 p = 32) := fun q => by omega
    rw [sk_stop e]
    exact ⟨Nat.le_refl p, by omega, e⟩
  | succ d ih =>
    intro p hp
    by_cases c : t.2 p = 32
    · rw [sk_go (by omega) c]
      have := ih (p + 1) (by omega)
      exact ⟨by omega, this.2⟩
    · have e : ¬ (p < t.1 ∧ t.2 p = 32) := fun q => c q.2
      rw [sk_stop e]
      exact ⟨Nat.le_refl p, by omega, e⟩
theorem sk_b {t : TX} {p : Nat} (h : p ≤ t.1) : p ≤ sk t p ∧ sk t p ≤ t.1 ∧ ¬ (sk t p < t.1 ∧ t.2 (sk t p) = 32) := sk_b' t (t.1 - p) p (by omega)
theorem sk_sk {t : TX} {p : Nat} (h : p ≤ t.1) : sk t (sk t p) = sk t p := sk_stop (sk_b h).2.2
abbrev isD (c : Int32) : Prop := 48 ≤ c.toInt ∧ c.toInt ≤ 57
def nmf (t : TX) : Nat → Nat → Nat → Nat × Nat
  | 0, v, p => (v, p)
  | d + 1, v, p => if isD (t.2 p) then nmf t d (min 100 (10 * v + ((t.2 p).toInt - 48).toNat)) (p + 1) else (v, p)
def nm (t : TX) (v p : Nat) : Nat × Nat := nmf t (t.1 - p) v p
theorem nm_go {t : TX} {v p : Nat} (h : p < t.1) (h2 : isD (t.2 p)) : nm t v p = nm t (min 100 (10 * v + ((t.2 p).toInt - 48).toNat)) (p + 1) := by
  unfold nm
  rw [show t.1 - p = (t.1 - (p + 1)) + 1 by omega]
  show (if isD (t.2 p) then nmf t (t.1 - (p + 1)) (min 100 (10 * v + ((t.2 p).toInt - 48).toNat)) (p + 1) else (v, p)) = _
  rw [if_pos h2]
theorem nm_stop {t : TX} {v p : Nat} (h : ¬ (p < t.1 ∧ isD (t.2 p))) : nm t v p = (v, p) := by
  unfold nm
  by_cases c : p < t.1
  · rw [show t.1 - p = (t.1 - (p + 1)) + 1 by omega]
    show (if isD (t.2 p) then nmf t (t.1 - (p + 1)) (min 100 (10 * v + ((t.2 p).toInt - 48).toNat)) (p + 1) else (v, p)) = _
    rw [if_neg (fun q => h ⟨c, q⟩)]
  · rw [show t.1 - p = 0 by omega]
    rfl
theorem nm_b (t : TX) : ∀ d v p, p + d = t.1 → v ≤ 100 → p ≤ (nm t v p).2 ∧ (nm t v p).2 ≤ t.1 ∧ (nm t v p).1 ≤ 100 := by
  intro d
  induction d with
  | zero =>
    intro v p hp hv
    rw [nm_stop (fun q => by omega)]
    exact ⟨Nat.le_refl p, by show p ≤ t.1; omega, hv⟩
  | succ d ih =>
    intro v p hp hv
    by_cases c : isD (t.2 p)
    · rw [nm_go (by omega) c]
      have := ih (min 100 (10 * v + ((t.2 p).toInt - 48).toNat)) (p + 1) (by omega) (by omega)
      exact ⟨by omega, this.2⟩
    · rw [nm_stop (fun q => c q.2)]
      exact ⟨Nat.le_refl p, by show p ≤ t.1; omega, hv⟩
theorem nm_lt {t : TX} {v p : Nat} (h : p < t.1) (h2 : isD (t.2 p)) : p < (nm t v p).2 := by
  rw [nm_go h h2]
  have := nm_b t (t.1 - (p + 1)) (min 100 (10 * v + ((t.2 p).toInt - 48).toNat)) (p + 1) (by omega) (by omega)
  omega
/-- a token: its kind, its value, where it begins, where it is over -/
def tok (t : TX) (p : Nat) : Nat × Int × Nat × Nat :=
  if sk t p < t.1 then
    if isD (t.2 (sk t p)) then
      if 99 < (nm t 0 (sk t p)).1 ∨ (t.2 (sk t p) = 48 ∧ 1 < (nm t 0 (sk t p)).2 - sk t p) then (4, 0, sk t p, (nm t 0 (sk t p)).2) else (2, ((nm t 0 (sk t p)).1 : Int), sk t p, (nm t 0 (sk t p)).2)
    else if 97 ≤ (t.2 (sk t p)).toInt ∧ (t.2 (sk t p)).toInt ≤ 122 then (1, (t.2 (sk t p)).toInt, sk t p, sk t p + 1)
    else if t.2 (sk t p) = 59 then (3, 0, sk t p, sk t p + 1) else (4, 0, sk t p, sk t p + 1)
  else (0, 0, sk t p, sk t p)
theorem tok_sk {t : TX} {p : Nat} (h : p ≤ t.1) : tok t (sk t p) = tok t p := by
  unfold tok
  rw [sk_sk h]
/-- where a token is -/
theorem tok_b {t : TX} {p : Nat} (h : p ≤ t.1) : (tok t p).2.2.1 = sk t p ∧ p ≤ (tok t p).2.2.2 ∧ (tok t p).2.2.2 ≤ t.1 ∧ (tok t p).1 ≤ 4 ∧ ((tok t p).1 ≠ 0 → p < (tok t p).2.2.2) ∧ ((tok t p).1 = 0 ↔ ¬ sk t p < t.1) := by
  have hs := sk_b h
  unfold tok
  by_cases c : sk t p < t.1
  · rw [if_pos c]
    by_cases d : isD (t.2 (sk t p))
    · have b1 := nm_lt (v := 0) c d
      have b2 := nm_b t (t.1 - sk t p) 0 (sk t p) (by omega) (by omega)
      rw [if_pos d]
      split <;> exact ⟨rfl, by dsimp only; omega, by dsimp only; omega, Nat.le_of_ble_eq_true rfl, fun _ => by dsimp only; omega, by simp [c]⟩
    · rw [if_neg d]
      split
      · exact ⟨rfl, by dsimp only; omega, by dsimp only; omega, Nat.le_of_ble_eq_true rfl, fun _ => by dsimp only; omega, by simp [c]⟩
      · split <;> exact ⟨rfl, by dsimp only; omega, by dsimp only; omega, Nat.le_of_ble_eq_true rfl, fun _ => by dsimp only; omega, by simp [c]⟩
  · rw [if_neg c]
    exact ⟨rfl, by dsimp only; omega, by dsimp only; omega, Nat.le_of_ble_eq_true rfl, fun q => absurd rfl q, by simp [c]⟩
theorem nq {a b : Nat} (h : Nat.beq a b = false) {C : Prop} (q : a = b) : C := absurd q (Nat.ne_of_beq_eq_false h)
/-- the values of numbers and letters -/
theorem tok_v {t : TX} {p : Nat} (h : p ≤ t.1) : ((tok t p).1 = 2 → 0 ≤ (tok t p).2.1 ∧ (tok t p).2.1 ≤ 99) ∧ ((tok t p).1 = 1 → 97 ≤ (tok t p).2.1 ∧ (tok t p).2.1 ≤ 122) := by
  have hs := sk_b h
  unfold tok
  by_cases c : sk t p < t.1
  · rw [if_pos c]
    by_cases d : isD (t.2 (sk t p))
    · rw [if_pos d]
      split
      · exact ⟨fun q => nq rfl q, fun q => nq rfl q⟩
      · exact ⟨fun _ => by dsimp only; omega, fun q => nq rfl q⟩
    · rw [if_neg d]
      split
      · exact ⟨fun q => nq rfl q, fun _ => by dsimp only; omega⟩
      · split <;> exact ⟨fun q => nq rfl q, fun q => nq rfl q⟩
  · rw [if_neg c]
    exact ⟨fun q => nq rfl q, fun q => nq rfl q⟩
theorem lt_ti (c : Int32) (n : Int32) : (c < n) = (c.toInt < n.toInt) := propext Int32.lt_iff_toInt_lt
theorem iv_ti (c : Int32) : iv c.toInt = c := Int32.ofInt_toInt c
theorem ti_b (c : Int32) : -2147483648 ≤ c.toInt ∧ c.toInt ≤ 2147483647 := ⟨Int32.le_toInt c, by have := Int32.toInt_lt c; omega⟩
theorem isDigit_v (S : SH) (me : ME) (c : Int32) : mX3_isDigit S me c = some (if isD c then 1 else 0, me) := by
  unfold mX3_isDigit mX3_isDigit_j16 mX3_isDigit_j17
  by_cases h1 : c.toInt < 48
  · rw [if_pos (show c < 48 by rw [lt_ti]; exact h1), if_neg (show ¬ isD c from fun q => by have := q.1; omega), if_pos (Or.inl rfl)]
  · rw [if_neg (show ¬ c < 48 by rw [lt_ti]; exact h1)]
    by_cases h2 : 57 < c.toInt
    · rw [if_pos (show 57 < c by rw [lt_ti]; exact h2), if_neg (show ¬ isD c from fun q => by have := q.2; omega), if_pos (Or.inl rfl)]
    · rw [if_neg (show ¬ 57 < c by rw [lt_ti]; exact h2), if_pos (show isD c from ⟨by omega, by omega⟩), if_pos (Or.inr rfl)]
theorem up2_kn {α : Type} (f : Nat → Nat → α) (r a : Nat) {k j : Nat} (v : α) (h : j ≠ k) : up2 f r k v a j = f a j := up2_k f r a v h
theorem up2_rn {α : Type} (f : Nat → Nat → α) {r a : Nat} (k j : Nat) (v : α) (h : a ≠ r) : up2 f r k v a j = f a j := by rw [up2_r f k v h]
