/-! ===== rows of the abstract heap, in whole numbers ===== -/
/-- not by rfl: simp must not hand it to the kernel as a mere unfolding -/
theorem bs {α β : Type} (x : α) (f : α → Option β) : Option.bind (some x) f = f x := of_eq_true (eq_self (f x))
theorem gI_k {S : SH} {me : ME} {c k r : Nat} (h : kO S r = c) : gI S me c k r = some (me.1 r k) := if_pos h
theorem gJ_k {S : SH} {me : ME} {c k r : Nat} (h : kO S r = c) : gJ S me c k r = some (me.2 r k) := if_pos h
theorem sI_k {S : SH} {me : ME} {c k r : Nat} {v : Int32} (h : kO S r = c) : sI S me c k r v = some (up2 me.1 r k v, me.2) := if_pos h
theorem sJ_k {S : SH} {me : ME} {c k r : Nat} {v : Int64} (h : kO S r = c) : sJ S me c k r v = some (me.1, up2 me.2 r k v) := if_pos h
theorem ck_s {S : SH} {c r : Nat} (h : kO S r = c) : ck S c r = some () := if_pos h
theorem ix_k {n : Nat} {i : Int} (h0 : 0 ≤ i) (h1 : i < n) (hn : n ≤ 1000) : ¬ (iv i < 0 ∨ n ≤ (iv i).toNatClampNeg) := by
  rw [iv_clamp (by omega) (by omega), show (0 : Int32) = iv 0 from rfl, iv_lt (by omega) (by omega) (by omega) (by omega)]
  omega
theorem aI_k {S : SH} {me : ME} {c r n : Nat} (h : kO S r = c) (hl : lO S r = n) {i : Int} (h0 : 0 ≤ i) (h1 : i < n) (hn : n ≤ 1000) : aI S me c r (iv i) = some (me.1 r i.toNat) := by
  unfold aI
  rw [if_pos ⟨h, by rw [hl]; exact ix_k h0 h1 hn⟩, iv_clamp (by omega) (by omega)]
theorem aJ_k {S : SH} {me : ME} {r n : Nat} (h : kO S r = 12) (hl : lO S r = n) {i : Int} (h0 : 0 ≤ i) (h1 : i < n) (hn : n ≤ 1000) : aJ S me r (iv i) = some (me.2 r i.toNat) := by
  unfold aJ
  rw [if_pos ⟨h, by rw [hl]; exact ix_k h0 h1 hn⟩, iv_clamp (by omega) (by omega)]
theorem uI_k {S : SH} {me : ME} {r n : Nat} {v : Int32} (h : kO S r = 11) (hl : lO S r = n) {i : Int} (h0 : 0 ≤ i) (h1 : i < n) (hn : n ≤ 1000) : uI S me r (iv i) v = some (up2 me.1 r i.toNat v, me.2) := by
  unfold uI
  rw [if_pos ⟨h, by rw [hl]; exact ix_k h0 h1 hn⟩, iv_clamp (by omega) (by omega)]
theorem uZ_k {S : SH} {me : ME} {r n : Nat} {v : Int32} (h : kO S r = 13) (hl : lO S r = n) {i : Int} (h0 : 0 ≤ i) (h1 : i < n) (hn : n ≤ 1000) : uZ S me r (iv i) v = some (up2 me.1 r i.toNat (vp_nar .boolean v), me.2) := by
  unfold uZ
  rw [if_pos ⟨h, by rw [hl]; exact ix_k h0 h1 hn⟩, iv_clamp (by omega) (by omega)]
theorem uJ_k {S : SH} {me : ME} {r n : Nat} {v : Int64} (h : kO S r = 12) (hl : lO S r = n) {i : Int} (h0 : 0 ≤ i) (h1 : i < n) (hn : n ≤ 1000) : uJ S me r (iv i) v = some (me.1, up2 me.2 r i.toNat v) := by
  unfold uJ
  rw [if_pos ⟨h, by rw [hl]; exact ix_k h0 h1 hn⟩, iv_clamp (by omega) (by omega)]
theorem cpI_k {S : SH} {me : ME} {r0 r1 n0 n1 : Nat} {n : Int} (h0 : kO S r0 = 11) (h1 : kO S r1 = 11) (l0 : lO S r0 = n0) (l1 : lO S r1 = n1) (g0 : 0 ≤ n) (g1 : n ≤ n0) (g2 : n ≤ n1) (g3 : n0 ≤ 1000) : cpI S me r0 (iv 0) r1 (iv 0) (iv n) = some (va_up me.1 r1 (va_cpy (me.1 r0) (me.1 r1) 0 0 n.toNat), me.2) := by
  unfold cpI
  have e0 : (iv 0).toNatClampNeg = 0 := by rw [iv_clamp (by omega) (by omega)]; rfl
  have en : (iv n).toNatClampNeg = n.toNat := iv_clamp (by omega) (by omega)
  have hn : ¬ iv n < 0 := by rw [show (0 : Int32) = iv 0 from rfl, iv_lt (by omega) (by omega) (by omega) (by omega)]; omega
  have h00 : ¬ iv 0 < 0 := by decide
  rw [e0, en, if_pos ⟨⟨h0, h1⟩, ⟨h00, h00, hn⟩, by omega, by omega⟩]
/-- a loop that counts up: from i0 on to e, with the invariant P -/
theorem lpn_up {σ ρ : Type} {f : (σ → Option ρ) → σ → Option ρ} {res : Option ρ} (P : Nat → σ → Prop) (e : Nat) (hstep : ∀ (i : Nat) (s : σ) (k : σ → Option ρ), i < e → P i s → ∃ s', P (i + 1) s' ∧ f k s = k s') (hend : ∀ (s : σ) (k : σ → Option ρ), P e s → f k s = res) : ∀ (d i n : Nat) (s : σ), i + d = e → d < n → P i s → lpn f n s = res := by
  intro d
  induction d with
  | zero =>
    intro i n s h1 h2 h3
    have hi : i = e := by omega
    subst hi
    obtain ⟨n, rfl⟩ : ∃ m, n = m + 1 := ⟨n - 1, by omega⟩
    exact hend s _ h3
  | succ d ih =>
    intro i n s h1 h2 h3
    obtain ⟨n, rfl⟩ : ∃ m, n = m + 1 := ⟨n - 1, by omega⟩
    obtain ⟨s', h4, h5⟩ := hstep i s (lpn f n) (by omega) h3
    show f (lpn f n) s = res
    rw [h5]
    exact ih (i + 1) n s' (by omega) (by omega) h4
/-- the general form: a measure falls, or the loop ends -/
theorem lpn_mu {σ ρ : Type} {f : (σ → Option ρ) → σ → Option ρ} {res : Option ρ} (P : σ → Prop) (μ : σ → Nat) (hstep : ∀ (s : σ) (k : σ → Option ρ), P s → (∃ s', P s' ∧ μ s' < μ s ∧ f k s = k s') ∨ f k s = res) : ∀ (n : Nat) (s : σ), μ s < n → P s → lpn f n s = res := by
  intro n
  induction n with
  | zero => intro s h; omega
  | succ n ih =>
    intro s h1 h2
    show f (lpn f n) s = res
    rcases hstep s (lpn f n) h2 with ⟨s', h3, h4, h5⟩ | h5
    · rw [h5]
      exact ih s' (by omega) h3
    · exact h5
/-! ===== what both are told: the state as it is meant ===== -/
/-- readings and clocks: how many, of which station, what was told; the clocks -/
abbrev LG : Type := Nat × (Nat → Nat) × (Nat → Nat) × (Nat → Nat)
/-- the text; the stations; the log; what may be undone, the latest first; the images -/
abbrev AS : Type := (Nat × (Nat → Int32)) × (Nat × (Nat → Nat) × (Nat → Nat)) × LG × List LG × (Nat → Option LG)
def LogOK (ns : Nat) (g : LG) : Prop := g.1 ≤ 9 ∧ (∀ k, k < g.1 → g.2.1 k < ns ∧ g.2.2.1 k ≤ 60) ∧ ∀ s, s < ns → g.2.2.2 s ≤ 4
def ASok (A : AS) : Prop := A.1.1 ≤ 110 ∧ (A.2.1.1 ≤ 6 ∧ ∀ s, s < A.2.1.1 → A.2.1.2.1 s ≤ 29 ∧ A.2.1.2.2 s ≤ 29) ∧ LogOK A.2.1.1 A.2.2.1 ∧ (A.2.2.2.1.length ≤ 10 ∧ ∀ g ∈ A.2.2.2.1, LogOK A.2.1.1 g) ∧ ∀ i g, A.2.2.2.2 i = some g → LogOK A.2.1.1 g
/-- the log at the object o of the class -/
def LogC (me : ME) (o ns : Nat) (g : LG) : Prop := me.1 o 3 = iv g.1 ∧ (∀ k, k < g.1 → me.1 (o + 1) k = iv (g.2.1 k) ∧ me.1 (o + 2) k = iv (g.2.2.1 k)) ∧ ∀ s, s < ns → me.1 (o + 3) s = iv (g.2.2.2 s)
/-- the log in a row of the model, from off on -/
def LogM (me : ME) (a off ns : Nat) (g : LG) : Prop := me.1 a off = iv g.1 ∧ (∀ k, k < g.1 → me.1 a (off + 7 + k) = iv (g.2.1 k) ∧ me.1 a (off + 16 + k) = iv (g.2.2.1 k)) ∧ ∀ s, s < ns → me.1 a (off + 1 + s) = iv (g.2.2.2 s)
def TxC (me : ME) (t : Nat × (Nat → Int32)) : Prop := me.1 1 1 = iv t.1 ∧ ∀ i, i < t.1 → me.1 2 i = t.2 i
def StC (me : ME) (s : Nat × (Nat → Nat) × (Nat → Nat)) : Prop := me.1 11 2 = iv s.1 ∧ ∀ j, j < s.1 → me.1 12 j = iv (s.2.1 j) ∧ me.1 13 j = iv (s.2.2 j)
def PaC (me : ME) (ns : Nat) (ps : List LG) : Prop := ∃ nx : Nat, nx < 10 ∧ me.1 18 1 = iv nx ∧ me.1 18 2 = iv ps.length ∧ ∀ (t : Nat) (g : LG), ps[t]? = some g → LogC me (20 + 4 * ((nx + 9 - t) % 10)) ns g
def ImC (me : ME) (ns : Nat) (im : Nat → Option LG) : Prop := ∀ i, i < 2 → (im i = none ∧ me.1 61 i = 0) ∨ ∃ g, im i = some g ∧ me.1 61 i = 1 ∧ LogC me (83 + 4 * i) ns g
def RepC (me : ME) (A : AS) : Prop := TxC me A.1 ∧ StC me A.2.1 ∧ LogC me 14 A.2.1.1 A.2.2.1 ∧ PaC me A.2.1.1 A.2.2.2.1 ∧ ImC me A.2.1.1 A.2.2.2.2
def TxM (me : ME) (t : Nat × (Nat → Int32)) : Prop := me.1 91 9 = iv t.1 ∧ ∀ i, i < t.1 → me.1 98 i = t.2 i
def StM (me : ME) (s : Nat × (Nat → Nat) × (Nat → Nat)) : Prop := me.1 91 0 = iv s.1 ∧ ∀ j, j < s.1 → me.1 92 j = iv (s.2.1 j) ∧ me.1 93 j = iv (s.2.2 j)
def PaM (me : ME) (ns : Nat) (ps : List LG) : Prop := ∃ nx : Nat, nx < 10 ∧ me.1 91 5 = iv nx ∧ me.1 91 4 = iv ps.length ∧ ∀ (t : Nat) (g : LG), ps[t]? = some g → LogM me 95 (25 * ((nx + 9 - t) % 10)) ns g
def ImM (me : ME) (ns : Nat) (im : Nat → Option LG) : Prop := ∀ i, i < 2 → (im i = none ∧ me.1 96 i = 0) ∨ ∃ g, im i = some g ∧ me.1 96 i = 1 ∧ LogM me 97 (25 * i) ns g
def RepM (me : ME) (A : AS) : Prop := TxM me A.1 ∧ StM me A.2.1 ∧ LogM me 94 0 A.2.1.1 A.2.2.1 ∧ PaM me A.2.1.1 A.2.2.2.1 ∧ ImM me A.2.1.1 A.2.2.2.2
/-- the class's part of the heap is as it was; the model's -/
def EqM (me me1 : ME) : Prop := ∀ r, 91 ≤ r → me1.1 r = me.1 r ∧ me1.2 r = me.2 r
def EqC (me me1 : ME) : Prop := ∀ r, r < 91 → me1.1 r = me.1 r ∧ me1.2 r = me.2 r
theorem EqM.rfl' {me : ME} : EqM me me := fun _ _ => ⟨rfl, rfl⟩
theorem EqC.rfl' {me : ME} : EqC me me := fun _ _ => ⟨rfl, rfl⟩
theorem EqM.trans {a b c : ME} (h : EqM a b) (h2 : EqM b c) : EqM a c := fun r hr => ⟨(h2 r hr).1.trans (h r hr).1, (h2 r hr).2.trans (h r hr).2⟩
theorem EqC.trans {a b c : ME} (h : EqC a b) (h2 : EqC b c) : EqC a c := fun r hr => ⟨(h2 r hr).1.trans (h r hr).1, (h2 r hr).2.trans (h r hr).2⟩
theorem up2_s {α : Type} (f : Nat → Nat → α) (r k : Nat) (v : α) : up2 f r k v r k = v := by simp [up2]
theorem up2_r {α : Type} (f : Nat → Nat → α) {r a : Nat} (k : Nat) (v : α) (h : a ≠ r) : up2 f r k v a = f a := by funext j; simp [up2, h]
theorem up2_k {α : Type} (f : Nat → Nat → α) (r a : Nat) {k j : Nat} (v : α) (h : j ≠ k) : up2 f r k v a j = f a j := by simp [up2, h]
theorem EqM.up {me : ME} {r k : Nat} {v : Int32} (h : r < 91) : EqM me (up2 me.1 r k v, me.2) := fun a ha => ⟨up2_r _ _ _ (by omega), rfl⟩
theorem EqC.up {me : ME} {r k : Nat} {v : Int32} (h : 91 ≤ r) : EqC me (up2 me.1 r k v, me.2) := fun a ha => ⟨up2_r _ _ _ (by omega), rfl⟩
theorem LogC.keep {me me1 : ME} {o ns : Nat} {g : LG} (h : LogC me o ns g) (e0 : me1.1 o = me.1 o) (e1 : me1.1 (o + 1) = me.1 (o + 1)) (e2 : me1.1 (o + 2) = me.1 (o + 2)) (e3 : me1.1 (o + 3) = me.1 (o + 3)) : LogC me1 o ns g := by
  unfold LogC at h ⊢
  rw [e0, e1, e2, e3]
  exact h
theorem LogM.keep' {me me1 : ME} {a off ns : Nat} {g : LG} (h : LogM me a off ns g) (e : me1.1 a = me.1 a) : LogM me1 a off ns g := by
  unfold LogM at h ⊢
  rw [e]
  exact h
theorem LogM.keep {me me1 : ME} {a off ns : Nat} {g : LG} (h : LogM me a off ns g) (e : ∀ j, off ≤ j → j < off + 25 → me1.1 a j = me.1 a j) (hg : LogOK ns g) (hn : ns ≤ 6) : LogM me1 a off ns g := by
  obtain ⟨h1, h2, h3⟩ := h
  obtain ⟨g1, -, -⟩ := hg
  refine ⟨by rw [e _ (by omega) (by omega)]; exact h1, fun k hk => ⟨?_, ?_⟩, fun s hs => ?_⟩
  · rw [e _ (by omega) (by omega)]; exact (h2 k hk).1
  · rw [e _ (by omega) (by omega)]; exact (h2 k hk).2
  · rw [e _ (by omega) (by omega)]; exact h3 s hs
theorem TxC.keep {me me1 : ME} {t : Nat × (Nat → Int32)} (h : TxC me t) (e1 : me1.1 1 = me.1 1) (e2 : me1.1 2 = me.1 2) : TxC me1 t := by
  unfold TxC at h ⊢; rw [e1, e2]; exact h
theorem StC.keep {me me1 : ME} {t : Nat × (Nat → Nat) × (Nat → Nat)} (h : StC me t) (e1 : me1.1 11 = me.1 11) (e2 : me1.1 12 = me.1 12) (e3 : me1.1 13 = me.1 13) : StC me1 t := by
  unfold StC at h ⊢; rw [e1, e2, e3]; exact h
theorem PaC.keep {me me1 : ME} {ns : Nat} {ps : List LG} (h : PaC me ns ps) (E : ∀ r, 18 ≤ r → r < 60 → me1.1 r = me.1 r) : PaC me1 ns ps := by
  obtain ⟨nx, n1, n2, n3, n4⟩ := h
  exact ⟨nx, n1, by rw [E 18 (by omega) (by omega)]; exact n2, by rw [E 18 (by omega) (by omega)]; exact n3, fun t g hg => (n4 t g hg).keep (E _ (by omega) (by omega)) (E _ (by omega) (by omega)) (E _ (by omega) (by omega)) (E _ (by omega) (by omega))⟩
theorem ImC.keep {me me1 : ME} {ns : Nat} {im : Nat → Option LG} (h : ImC me ns im) (e0 : me1.1 61 = me.1 61) (E : ∀ r, 83 ≤ r → r < 91 → me1.1 r = me.1 r) : ImC me1 ns im := by
  intro i hi
  rw [e0]
  rcases h i hi with q | ⟨g, q1, q2, q3⟩
  · exact Or.inl q
  · exact Or.inr ⟨g, q1, q2, q3.keep (E _ (by omega) (by omega)) (E _ (by omega) (by omega)) (E _ (by omega) (by omega)) (E _ (by omega) (by omega))⟩
theorem TxM.keep {me me1 : ME} {t : Nat × (Nat → Int32)} (h : TxM me t) (e1 : me1.1 91 9 = me.1 91 9) (e2 : me1.1 98 = me.1 98) : TxM me1 t := by
  unfold TxM at h ⊢; rw [e1, e2]; exact h
theorem StM.keep {me me1 : ME} {t : Nat × (Nat → Nat) × (Nat → Nat)} (h : StM me t) (e1 : me1.1 91 0 = me.1 91 0) (e2 : me1.1 92 = me.1 92) (e3 : me1.1 93 = me.1 93) : StM me1 t := by
  unfold StM at h ⊢; rw [e1, e2, e3]; exact h
theorem PaM.keep {me me1 : ME} {ns : Nat} {ps : List LG} (h : PaM me ns ps) (e4 : me1.1 91 4 = me.1 91 4) (e5 : me1.1 91 5 = me.1 91 5) (e : me1.1 95 = me.1 95) : PaM me1 ns ps := by
  obtain ⟨nx, n1, n2, n3, n4⟩ := h
  exact ⟨nx, n1, by rw [e5]; exact n2, by rw [e4]; exact n3, fun t g hg => (n4 t g hg).keep' e⟩
theorem ImM.keep {me me1 : ME} {ns : Nat} {im : Nat → Option LG} (h : ImM me ns im) (e0 : me1.1 96 = me.1 96) (e : me1.1 97 = me.1 97) : ImM me1 ns im := by
  intro i hi
  rw [e0]
  rcases h i hi with q | ⟨g, q1, q2, q3⟩
  · exact Or.inl q
  · exact Or.inr ⟨g, q1, q2, q3.keep' e⟩
theorem RepC.keep {me me1 : ME} {A : AS} (h : RepC me A) (e : EqC me me1) : RepC me1 A := by
  have E : ∀ r, r < 91 → me1.1 r = me.1 r := fun r hr => (e r hr).1
  exact ⟨h.1.keep (E _ (by omega)) (E _ (by omega)), h.2.1.keep (E _ (by omega)) (E _ (by omega)) (E _ (by omega)), h.2.2.1.keep (E _ (by omega)) (E _ (by omega)) (E _ (by omega)) (E _ (by omega)), h.2.2.2.1.keep (fun r _ h2 => E r (by omega)), h.2.2.2.2.keep (E _ (by omega)) (fun r _ h2 => E r (by omega))⟩
theorem RepM.keep {me me1 : ME} {A : AS} (h : RepM me A) (e : EqM me me1) : RepM me1 A := by
  have E : ∀ r, 91 ≤ r → me1.1 r = me.1 r := fun r hr => (e r hr).1
  have e91 := E 91 (by omega)
  exact ⟨h.1.keep (by rw [e91]) (E _ (by omega)), h.2.1.keep (by rw [e91]) (E _ (by omega)) (E _ (by omega)), h.2.2.1.keep' (E _ (by omega)), h.2.2.2.1.keep (by rw [e91]) (by rw [e91]) (E _ (by omega)), h.2.2.2.2.keep (E _ (by omega)) (E _ (by omega))⟩
theorem RepC.text {me me1 : ME} {A : AS} {t : Nat × (Nat → Int32)} (h : RepC me A) (F : ∀ r, r < 91 → r ≠ 1 → r ≠ 2 → me1.1 r = me.1 r) (ht : TxC me1 t) : RepC me1 (t, A.2) :=
  ⟨ht, h.2.1.keep (F _ (by omega) (by omega) (by omega)) (F _ (by omega) (by omega) (by omega)) (F _ (by omega) (by omega) (by omega)), h.2.2.1.keep (F _ (by omega) (by omega) (by omega)) (F _ (by omega) (by omega) (by omega)) (F _ (by omega) (by omega) (by omega)) (F _ (by omega) (by omega) (by omega)), h.2.2.2.1.keep (fun r h1 h2 => F r (by omega) (by omega) (by omega)), h.2.2.2.2.keep (F _ (by omega) (by omega) (by omega)) (fun r h1 h2 => F r (by omega) (by omega) (by omega))⟩
theorem RepM.text {me me1 : ME} {A : AS} {t : Nat × (Nat → Int32)} (h : RepM me A) (F : ∀ r, 91 < r → r ≠ 98 → me1.1 r = me.1 r) (G : ∀ k, k ≠ 9 → me1.1 91 k = me.1 91 k) (ht : TxM me1 t) : RepM me1 (t, A.2) :=
  ⟨ht, h.2.1.keep (G _ (by omega)) (F _ (by omega) (by omega)) (F _ (by omega) (by omega)), h.2.2.1.keep' (F _ (by omega) (by omega)), h.2.2.2.1.keep (G _ (by omega)) (G _ (by omega)) (F _ (by omega) (by omega)), h.2.2.2.2.keep (F _ (by omega) (by omega)) (F _ (by omega) (by omega))⟩
theorem up2_a {α : Type} (f : Nat → Nat → α) {r k a j : Nat} (v : α) (h : ¬ (a = r ∧ j = k)) : up2 f r k v a j = f a j := by
  unfold up2
  by_cases ha : a = r
  · rw [if_pos ha, if_neg (fun e => h ⟨ha, e⟩)]
  · rw [if_neg ha]
