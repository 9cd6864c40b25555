theorem tw {w : Cond} (i : Nat) (h : lw_tbl[i]? = some w) (hg : goodWord w = true) : w ∈ lw_good := List.mem_filter.mpr ⟨List.mem_of_getElem? h, hg⟩
theorem tn {w : Cond} (i : Nat) (h : lw_tbl[i]? = some w) (hg : lw_isNw w = true) : w ∈ lw_nw := List.mem_filter.mpr ⟨List.mem_of_getElem? h, hg⟩
theorem inGood (ws : List Cond) (ps : List Nat) (hp : ws = ps.filterMap (fun i => lw_tbl[i]?)) (h : ws.all goodWord = true) : ∀ w ∈ ws, w ∈ lw_good := by
  intro w hw
  have h1 := List.all_eq_true.mp h w hw
  rw [hp] at hw
  obtain ⟨i, -, hi⟩ := List.mem_filterMap.mp hw
  exact tw i hi h1
/-- a loop, at most n times round -/
def lpn {σ ρ : Type} (f : (σ → Option ρ) → σ → Option ρ) : Nat → σ → Option ρ
  | 0, _ => none
  | n + 1, s => f (lpn f n) s
def lpF : Nat := 5000
def ck (S : SH) (c r : Nat) : Option Unit := if kO S r = c then some () else none
theorem ck_k {S : SH} {c r : Nat} {u : Unit} (h : ck S c r = some u) : kO S r = c := (ite_o h).1
theorem if_n {α : Type} {c : Prop} [Decidable c] {b : Option α} {r : α} (h : (if c then none else b) = some r) : ¬ c ∧ b = some r := by
  by_cases hc : c
  · rw [if_pos hc] at h
    cases h
  · rw [if_neg hc] at h
    exact ⟨hc, h⟩
def nwO (lim : Nat × Nat) (S : SH) (me : ME) (c n : Nat) : Option (SH × ME) := if S.1.length + 1 ≤ lim.1 ∧ sO S + n ≤ lim.2 then some (nS S c n, nM S me) else none
def nwA (lim : Nat × Nat) (S : SH) (me : ME) (c : Nat) (n : Int32) : Option (SH × ME) := if (¬ n < 0 ∧ n.toNatClampNeg ≤ 60000000) ∧ S.1.length + 1 ≤ lim.1 ∧ sO S + n.toNatClampNeg ≤ lim.2 then some (nS S c n.toNatClampNeg, nM S me) else none
/-- new long[n][k] -/
def gS (S : SH) (n k : Nat) : SH := (S.1 ++ ((15, n) :: List.replicate n (12, k)), fun a => if a = S.1.length then (fun i => if i < n then some (S.1.length + 1 + i) else none) else if S.1.length ≤ a then (fun _ => none) else S.2 a)
def gM (S : SH) (me : ME) : ME := (fun a => if S.1.length ≤ a then (fun _ => 0) else me.1 a, fun a => if S.1.length ≤ a then (fun _ => 0) else me.2 a)
def nwG (lim : Nat × Nat) (S : SH) (me : ME) (n k : Int32) : Option (SH × ME) := if ((¬ n < 0 ∧ n.toNatClampNeg ≤ 60000000) ∧ ¬ k < 0 ∧ k.toNatClampNeg ≤ 60000000) ∧ S.1.length + (1 + n.toNatClampNeg) ≤ lim.1 ∧ sO S + (n.toNatClampNeg + n.toNatClampNeg * k.toNatClampNeg) ≤ lim.2 then some (gS S n.toNatClampNeg k.toNatClampNeg, gM S me) else none
def ckC (lim : Nat × Nat) (S S1 : SH) (mz sz : Nat) : Option Unit := if (S1.1.length = S.1.length + mz ∧ sO S1 = sO S + sz) ∧ S.1.length + mz ≤ lim.1 ∧ sO S + sz ≤ lim.2 then some () else none
section WROWS6
variable {X : XT} {l : Launch} {D : va_G} {b : Nat} {cc : ByteArray} {nL : Nat} {own nm : String} {fr lo mc ms : Nat} {S S1 : SH} {me me1 : ME} {pc : Nat} {lv lv' : List (Nat × Value)} {st : List Value} {lim : Nat × Nat}
theorem ws_iretM (cx : CX X l D b cc nL own nm fr lo mc ms) {v : Int32} {q : Int32 × ME} (ex : EX X b (some .int) S q.2 (some (.int q.1))) (hM : some (v, me) = some q) (d : decode cc pc = .ok (.ireturn, 1)) : WS X b nL S me pc lv [.int v] := by
  obtain rfl := Option.some.inj hM
  exact ws_iret cx ex rfl rfl rfl d
theorem ws_zretM (cx : CX X l D b cc nL own nm fr lo mc ms) {v : Int32} {q : Int32 × ME} (ex : EX X b (some .boolean) S q.2 (some (.int q.1))) (h : v = 0 ∨ v = 1) (hM : some (v, me) = some q) (d : decode cc pc = .ok (.ireturn, 1)) : WS X b nL S me pc lv [.int v] := by
  obtain rfl := Option.some.inj hM
  exact ws_zret cx ex h rfl rfl rfl d
theorem ws_lretM (cx : CX X l D b cc nL own nm fr lo mc ms) {v : Int64} {q : Int64 × ME} (ex : EX X b (some .long) S q.2 (some (.long q.1))) (hM : some (v, me) = some q) (d : decode cc pc = .ok (.lreturn, 1)) : WS X b nL S me pc lv [.long v] := by
  obtain rfl := Option.some.inj hM
  exact ws_lret cx ex rfl rfl rfl d
theorem ws_vretM (cx : CX X l D b cc nL own nm fr lo mc ms) {q : Unit × ME} (ex : EX X b none S q.2 none) (hM : some ((), me) = some q) (d : decode cc pc = .ok (.return_, 1)) : WS X b nL S me pc lv [] := by
  obtain rfl := Option.some.inj hM
  exact ws_vret cx ex rfl rfl rfl d
theorem ws_vretC (cx : CX X l D b cc nL own nm fr lo mc ms) {q : SH × ME} (ex : EX X b none q.1 q.2 none) (hM : some (S, me) = some q) (d : decode cc pc = .ok (.return_, 1)) : WS X b nL S me pc lv [] := by
  obtain rfl := Option.some.inj hM
  exact ws_vret cx ex rfl rfl rfl d
theorem ws_newM (cx : CX X l D b cc nL own nm fr lo mc ms) (hL : LX X lim mc ms) {index c n : Nat} {q : SH × ME} (hN : NC own index c) (hn : nF c = n) (h : nwO lim S me c n = some q) (d : decode cc pc = .ok (.new index, 3)) (kk : WS X b nL q.1 q.2 (pc + 3) lv (.ref (b + S.1.length) :: st)) : WS X b nL S me pc lv st := by
  obtain ⟨h1, rfl⟩ := ite_s h rfl
  subst hn
  exact ws_new cx hL hN h1 d kk
theorem ws_newaM (cx : CX X l D b cc nL own nm fr lo mc ms) (hL : LX X lim mc ms) {c : Nat} {a : ArrayType} {n : Int32} {q : SH × ME} (ha : newarray.typeOf a = aTy c ∧ (c = 11 ∨ c = 12 ∨ c = 13)) (hw : Cond.arrayClass (newarray.typeOf a) ∈ lw_good) (h : nwA lim S me c n = some q) (d : decode cc pc = .ok (.newarray a, 2)) (kk : WS X b nL q.1 q.2 (pc + 2) lv (.ref (b + S.1.length) :: st)) : WS X b nL S me pc lv (.int n :: st) := by
  obtain ⟨h1, rfl⟩ := ite_s h rfl
  refine ws_newa cx hL ha hw h1.1.1 ?_ h1.2 d kk
  have h8 : componentBytes (newarray.typeOf a) ≤ 8 := by
    rw [ha.1]
    rcases ha.2 with rfl | rfl | rfl <;> decide
  have := Nat.mul_le_mul h1.1.2 h8
  omega
theorem ws_anewM (cx : CX X l D b cc nL own nm fr lo mc ms) (hL : LX X lim mc ms) {index : Nat} {n : Int32} {q : SH × ME} (hw : Cond.arrayOver (.object "StrokeSeek$Log") ∈ lw_nw) (hcl : Cond.classLink own index "StrokeSeek$Log" ∈ lw_good) (h : nwA lim S me 14 n = some q) (d : decode cc pc = .ok (.anewarray index, 3)) (kk : WS X b nL q.1 q.2 (pc + 3) lv (.ref (b + S.1.length) :: st)) : WS X b nL S me pc lv (.int n :: st) := by
  obtain ⟨h1, rfl⟩ := ite_s h rfl
  exact ws_anew cx hL hw hcl h1.1.1 (by have := h1.1.2; omega) h1.2 d kk
theorem ckC_s {u : Unit} {mz sz : Nat} (h : ckC lim S S1 mz sz = some u) : (S1.1.length = S.1.length + mz ∧ sO S1 = sO S + sz) ∧ S.1.length + mz ≤ lim.1 ∧ sO S + sz ≤ lim.2 := (ite_o h).1
theorem ws_mnaM (cx : CX X l D b cc nL own nm fr lo mc ms) (hL : LX X lim mc ms) {index : Nat} {n k : Int32} {q : SH × ME} (hw : Cond.arrayOver (.array .long) ∈ lw_nw) (ha : Cond.arrayClass .long ∈ lw_good) (hcl : Cond.classLink own index "[[J" ∈ lw_good) (h : nwG lim S me n k = some q) (d : decode cc pc = .ok (.multianewarray index 2, 4)) (kk : WS X b nL q.1 q.2 (pc + 4) lv (.ref (b + S.1.length) :: st)) : WS X b nL S me pc lv (.int k :: .int n :: st) := sorry
end WROWS6
