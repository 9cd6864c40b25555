theorem tw {w : Cond} (i : Nat) (h : lw_tbl[i]? = some w) (hg : goodWord w = true) : w ∈ lw_good := List.mem_filter.mpr ⟨List.mem_of_getElem? h, hg⟩
theorem tn {w : Cond} (i : Nat) (h : lw_tbl[i]? = some w) (hg : lw_isNw w = true) : w ∈ lw_nw := List.mem_filter.mpr ⟨List.mem_of_getElem? h, hg⟩
theorem inGood (ws : List Cond) (ps : List Nat) (hp : ws = ps.filterMap (fun i => lw_tbl[i]?)) (h : ws.all goodWord = true) : ∀ w ∈ ws, w ∈ lw_good := by
  intro w hw
  have h1 := List.all_eq_true.mp h w hw
  rw [hp] at hw
  obtain ⟨i, -, hi⟩ := List.mem_filterMap.mp hw
  exact tw i hi h1
/-- a loop, at most n times round -/
def lpn {σ ρ : Type} (f : (σ → Option ρ) → σ → Option ρ) : Nat → σ → Option ρ
  | 0, _ => none
  | n + 1, s => f (lpn f n) s
def lpF : Nat := 5000
def ck (S : SH) (c r : Nat) : Option Unit := if kO S r = c then some () else none
theorem ck_k {S : SH} {c r : Nat} {u : Unit} (h : ck S c r = some u) : kO S r = c := (ite_o h).1
theorem if_n {α : Type} {c : Prop} [Decidable c] {b : Option α} {r : α} (h : (if c then none else b) = some r) : ¬ c ∧ b = some r := by
  by_cases hc : c
  · rw [if_pos hc] at h
    cases h
  · rw [if_neg hc] at h
    exact ⟨hc, h⟩
def nwO (lim : Nat × Nat) (S : SH) (me : ME) (c n : Nat) : Option (SH × ME) := if S.1.length + 1 ≤ lim.1 ∧ sO S + n ≤ lim.2 then some (nS S c n, nM S me) else none
def nwA (lim : Nat × Nat) (S : SH) (me : ME) (c : Nat) (n : Int32) : Option (SH × ME) := if (¬ n < 0 ∧ n.toNatClampNeg ≤ 60000000) ∧ S.1.length + 1 ≤ lim.1 ∧ sO S + n.toNatClampNeg ≤ lim.2 then some (nS S c n.toNatClampNeg, nM S me) else none
/-- new long[n][k] -/
def gS (S : SH) (n k : Nat) : SH := (S.1 ++ ((15, n) :: List.replicate n (12, k)), fun a => if a = S.1.length then (fun i => if i < n then some (S.1.length + 1 + i) else none) else if S.1.length ≤ a then (fun _ => none) else S.2 a)
def gM (S : SH) (me : ME) : ME := (fun a => if S.1.length ≤ a then (fun _ => 0) else me.1 a, fun a => if S.1.length ≤ a then (fun _ => 0) else me.2 a)
def nwG (lim : Nat × Nat) (S : SH) (me : ME) (n k : Int32) : Option (SH × ME) := if ((¬ n < 0 ∧ n.toNatClampNeg ≤ 60000000) ∧ ¬ k < 0 ∧ k.toNatClampNeg ≤ 60000000) ∧ S.1.length + (1 + n.toNatClampNeg) ≤ lim.1 ∧ sO S + (n.toNatClampNeg + n.toNatClampNeg * k.toNatClampNeg) ≤ lim.2 then some (gS S n.toNatClampNeg k.toNatClampNeg, gM S me) else none
def ckC (lim : Nat × Nat) (S S1 : SH) (mz sz : Nat) : Option Unit := if (S1.1.length = S.1.length + mz ∧ sO S1 = sO S + sz) ∧ S.1.length + mz ≤ lim.1 ∧ sO S + sz ≤ lim.2 then some () else none
section WROWS6
variable {X : XT} {l : Launch} {D : va_G} {b : Nat} {cc : ByteArray} {nL : Nat} {own nm : String} {fr lo mc ms : Nat} {S S1 : SH} {me me1 : ME} {pc : Nat} {lv lv' : List (Nat × Value)} {st : List Value} {lim : Nat × Nat}
theorem ws_iretM (cx : CX X l D b cc nL own nm fr lo mc ms) {v : Int32} {q : Int32 × ME} (ex : EX X b (some .int) S q.2 (some (.int q.1))) (hM : some (v, me) = some q) (d : decode cc pc = .ok (.ireturn, 1)) : WS X b nL S me pc lv [.int v] := by
  obtain rfl := Option.some.inj hM
  exact ws_iret cx ex rfl rfl rfl d
theorem ws_zretM (cx : CX X l D b cc nL own nm fr lo mc ms) {v : Int32} {q : Int32 × ME} (ex : EX X b (some .boolean) S q.2 (some (.int q.1))) (h : v = 0 ∨ v = 1) (hM : some (v, me) = some q) (d : decode cc pc = .ok (.ireturn, 1)) : WS X b nL S me pc lv [.int v] := by
  obtain rfl := Option.some.inj hM
  exact ws_zret cx ex h rfl rfl rfl d
theorem ws_lretM (cx : CX X l D b cc nL own nm fr lo mc ms) {v : Int64} {q : Int64 × ME} (ex : EX X b (some .long) S q.2 (some (.long q.1))) (hM : some (v, me) = some q) (d : decode cc pc = .ok (.lreturn, 1)) : WS X b nL S me pc lv [.long v] := by
  obtain rfl := Option.some.inj hM
  exact ws_lret cx ex rfl rfl rfl d
theorem ws_vretM (cx : CX X l D b cc nL own nm fr lo mc ms) {q : Unit × ME} (ex : EX X b none S q.2 none) (hM : some ((), me) = some q) (d : decode cc pc = .ok (.return_, 1)) : WS X b nL S me pc lv [] := by
  obtain rfl := Option.some.inj hM
  exact ws_vret cx ex rfl rfl rfl d
theorem ws_vretC (cx : CX X l D b cc nL own nm fr lo mc ms) {q : SH × ME} (ex : EX X b none q.1 q.2 none) (hM : some (S, me) = some q) (d : decode cc pc = .ok (.return_, 1)) : WS X b nL S me pc lv [] := by
  obtain rfl := Option.some.inj hM
  exact ws_vret cx ex rfl rfl rfl d
theorem ws_newM (cx : CX X l D b cc nL own nm fr lo mc ms) (hL : LX X lim mc ms) {index c n : Nat} {q : SH × ME} (hN : NC own index c) (hn : nF c = n) (h : nwO lim S me c n = some q) (d : decode cc pc = .ok (.new index, 3)) (kk : WS X b nL q.1 q.2 (pc + 3) lv (.ref (b + S.1.length) :: st)) : WS X b nL S me pc lv st := by
  obtain ⟨h1, rfl⟩ := ite_s h rfl
  subst hn
  exact ws_new cx hL hN h1 d kk
theorem ws_newaM (cx : CX X l D b cc nL own nm fr lo mc ms) (hL : LX X lim mc ms) {c : Nat} {a : ArrayType} {n : Int32} {q : SH × ME} (ha : newarray.typeOf a = aTy c ∧ (c = 11 ∨ c = 12 ∨ c = 13)) (hw : Cond.arrayClass (newarray.typeOf a) ∈ lw_good) (h : nwA lim S me c n = some q) (d : decode cc pc = .ok (.newarray a, 2)) (kk : WS X b nL q.1 q.2 (pc + 2) lv (.ref (b + S.1.length) :: st)) : WS X b nL S me pc lv (.int n :: st) := by
  obtain ⟨h1, rfl⟩ := ite_s h rfl
  refine ws_newa cx hL ha hw h1.1.1 ?_ h1.2 d kk
  have h8 : componentBytes (newarray.typeOf a) ≤ 8 := by
    rw [ha.1]
    rcases ha.2 with rfl | rfl | rfl <;> decide
  have := Nat.mul_le_mul h1.1.2 h8
  omega
theorem ws_anewM (cx : CX X l D b cc nL own nm fr lo mc ms) (hL : LX X lim mc ms) {index : Nat} {n : Int32} {q : SH × ME} (hw : Cond.arrayOver (.object "StrokeSeek$Log") ∈ lw_nw) (hcl : Cond.classLink own index "StrokeSeek$Log" ∈ lw_good) (h : nwA lim S me 14 n = some q) (d : decode cc pc = .ok (.anewarray index, 3)) (kk : WS X b nL q.1 q.2 (pc + 3) lv (.ref (b + S.1.length) :: st)) : WS X b nL S me pc lv (.int n :: st) := by
  obtain ⟨h1, rfl⟩ := ite_s h rfl
  exact ws_anew cx hL hw hcl h1.1.1 (by have := h1.1.2; omega) h1.2 d kk
theorem ckC_s {u : Unit} {mz sz : Nat} (h : ckC lim S S1 mz sz = some u) : (S1.1.length = S.1.length + mz ∧ sO S1 = sO S + sz) ∧ S.1.length + mz ≤ lim.1 ∧ sO S + sz ≤ lim.2 := (ite_o h).1
theorem gS_get (S : SH) (n k r : Nat) : (gS S n k).1.getD r (99, 0) = if r < S.1.length then S.1.getD r (99, 0) else if r = S.1.length then (15, n) else if r < S.1.length + 1 + n then (12, k) else (99, 0) := by
  unfold gS
  simp only [List.getD_eq_getElem?_getD, List.getElem?_append]
  by_cases h : r < S.1.length
  · rw [if_pos h, if_pos h]
  · rw [if_neg h, if_neg h]
    obtain ⟨j, rfl⟩ : ∃ j, r = S.1.length + j := ⟨r - S.1.length, by omega⟩
    rw [Nat.add_sub_cancel_left]
    cases j with
    | zero => simp
    | succ j =>
      rw [if_neg (by omega), List.getElem?_cons_succ, List.getElem?_replicate]
      by_cases hj : j < n
      · rw [if_pos hj, if_pos (by omega)]; rfl
      · rw [if_neg hj, if_neg (by omega)]; rfl
theorem kO_grid_old (S : SH) (n k : Nat) {r : Nat} (h : r < S.1.length) : kO (gS S n k) r = kO S r := by unfold kO; rw [gS_get, if_pos h]
theorem lO_grid_old (S : SH) (n k : Nat) {r : Nat} (h : r < S.1.length) : lO (gS S n k) r = lO S r := by unfold lO; rw [gS_get, if_pos h]
theorem kO_grid_0 (S : SH) (n k : Nat) : kO (gS S n k) S.1.length = 15 := by unfold kO; rw [gS_get, if_neg (by omega), if_pos rfl]
theorem lO_grid_0 (S : SH) (n k : Nat) : lO (gS S n k) S.1.length = n := by unfold lO; rw [gS_get, if_neg (by omega), if_pos rfl]
theorem kO_grid_j (S : SH) (n k : Nat) {j : Nat} (h : j < n) : kO (gS S n k) (S.1.length + 1 + j) = 12 := by unfold kO; rw [gS_get, if_neg (by omega), if_neg (by omega), if_pos (by omega)]
theorem lO_grid_j (S : SH) (n k : Nat) {j : Nat} (h : j < n) : lO (gS S n k) (S.1.length + 1 + j) = k := by unfold lO; rw [gS_get, if_neg (by omega), if_neg (by omega), if_pos (by omega)]
theorem len_grid (S : SH) (n k : Nat) : (gS S n k).1.length = S.1.length + (1 + n) := by
  unfold gS
  rw [List.length_append, List.length_cons, List.length_replicate]
  omega
theorem sO_grid (S : SH) (n k : Nat) : sO (gS S n k) = sO S + (n + n * k) := by
  unfold sO gS
  rw [List.map_append, List.sum_append, List.map_cons, List.sum_cons, List.map_replicate, List.sum_replicate_nat]
theorem gq_outer (c : ClassId) (N h0 : Nat) : ∀ i : Nat, Jvm.Free.Multi.outerC c N h0 i = arrV c N (fun j => va_rf (if j < i then some (h0 + 1 + j) else none))
  | 0 => by
    show ({ cls := c, slots := Array.replicate N .null, vm := .none } : Cell) = _
    rw [arrV_new]
    exact congrArg (arrV c N) (funext fun j => by rw [if_neg (Nat.not_lt_zero j)]; rfl)
  | i + 1 => by
    show (Jvm.Free.Multi.outerC c N h0 i).setSlot i (.ref (h0 + 1 + i)) = _
    rw [gq_outer c N h0 i, arrV_store]
    refine congrArg (arrV c N) (funext fun j => ?_)
    unfold updV
    by_cases e : j = i
    · rw [if_pos e, if_pos (by omega), e]; rfl
    · rw [if_neg e]
      show va_rf (if j < i then some (h0 + 1 + j) else none) = _
      by_cases h : j < i
      · rw [if_pos h, if_pos (by omega)]
      · rw [if_neg h, if_neg (by omega)]
theorem HR_grid {U : State} {D : va_G} {b : Nat} {S : SH} {me : ME} {H H1 : Heap} {n k : Nat} {cA cy : ClassId} (h : HR U D b S me H) (hz : H1.size = H.size + 1 + n) (ho : ∀ q : Nat, q < H.size → H1[q]? = H[q]?) (hA : ArrOfT U cA (.array .long) ∧ va_RA U cA (.array .long)) (hC : ArrOfT U cy .long ∧ va_RA U cy .long) (h0 : H1[H.size]? = some (arrV cA n (fun j => va_rf (if j < n then some (H.size + 1 + j) else none)))) (hj : ∀ j : Nat, j < n → H1[H.size + 1 + j]? = some (arrV cy k (fun _ => .long 0))) : HR U D b (gS S n k) (gM S me) H1 := by
  refine ⟨by rw [len_grid, hz, h.1]; omega, fun a ha => ?_⟩
  rw [len_grid] at ha
  rcases Nat.lt_trichotomy a S.1.length with hlt | rfl | hgt
  · have e1 : H1[b + a]? = H[b + a]? := ho _ (by rw [h.1]; omega)
    have hne : ¬ S.1.length ≤ a := by omega
    have hne2 : ¬ a = S.1.length := by omega
    have eF : fV b (gS S n k) (gM S me) (kO S a) a = fV b S me (kO S a) a := by
      funext j
      simp only [fV, gS, gM, if_neg hne, if_neg hne2]
    have eA : aV b (gS S n k) (gM S me) (kO S a) a = aV b S me (kO S a) a := by
      funext j
      simp only [aV, gS, gM, if_neg hne, if_neg hne2]
    unfold cO
    rw [kO_grid_old S n k hlt, lO_grid_old S n k hlt, eF, eA]
    refine ⟨fun q => ((h.2 a hlt).1 q).kept e1, fun q => ?_⟩
    obtain ⟨c1, h1, h2⟩ := (h.2 a hlt).2 q
    exact ⟨c1, h1, e1.trans h2⟩
  · unfold cO
    rw [kO_grid_0, lO_grid_0]
    refine ⟨fun q => absurd q (by decide), fun _ => ⟨cA, hA, ?_⟩⟩
    rw [← h.1, h0]
    refine congrArg (fun z => some (arrV cA n z)) (funext fun j => ?_)
    show va_rf (if j < n then some (H.size + 1 + j) else none) = aV b (gS S n k) (gM S me) 15 S.1.length j
    unfold aV gS
    rw [if_neg (show ¬ (15 = 11 ∨ 15 = 13) by decide), if_neg (show ¬ 15 = 12 by decide)]
    simp only [if_true]
    by_cases c : j < n
    · rw [if_pos c, if_pos c, h.1]
      show va_rf (some (b + S.1.length + 1 + j)) = va_rf (some (b + (S.1.length + 1 + j)))
      rw [show b + S.1.length + 1 + j = b + (S.1.length + 1 + j) by omega]
    · rw [if_neg c, if_neg c]; rfl
  · obtain ⟨j, rfl⟩ : ∃ j, a = S.1.length + 1 + j := ⟨a - (S.1.length + 1), by omega⟩
    have hjn : j < n := by omega
    unfold cO
    rw [kO_grid_j S n k hjn, lO_grid_j S n k hjn]
    refine ⟨fun q => absurd q (by decide), fun _ => ⟨cy, hC, ?_⟩⟩
    rw [show b + (S.1.length + 1 + j) = H.size + 1 + j by rw [h.1]; omega, hj j hjn]
    refine congrArg (fun z => some (arrV cy k z)) (funext fun i => ?_)
    show Value.long 0 = aV b (gS S n k) (gM S me) 12 (S.1.length + 1 + j) i
    unfold aV gM
    rw [if_neg (by decide), if_pos rfl]
    simp only [if_pos (show S.1.length ≤ S.1.length + 1 + j by omega)]
theorem ws_mnaM (cx : CX X l D b cc nL own nm fr lo mc ms) (hL : LX X lim mc ms) {index : Nat} {n k : Int32} {q : SH × ME} (hw : Cond.arrayOver (.array .long) ∈ lw_nw) (ha : Cond.arrayClass .long ∈ lw_good) (hcl : Cond.classLink own index "[[J" ∈ lw_good) (h : nwG lim S me n k = some q) (d : decode cc pc = .ok (.multianewarray index 2, 4)) (kk : WS X b nL q.1 q.2 (pc + 4) lv (.ref (b + S.1.length) :: st)) : WS X b nL S me pc lv (.int k :: .int n :: st) := by
  obtain ⟨⟨⟨⟨n1, n2⟩, k1, k2⟩, hr1, hr2⟩, rfl⟩ := ite_s h rfl
  obtain ⟨p, l', e, R, s, m, args, below, meth, cd, D', Q, n0, m0⟩ := X
  obtain ⟨rfl, rfl, hx, hb, hml, hown, hts, hKD, hbs, ⟨r1, r2, r3, r4⟩, hnm, hlk⟩ := cx
  obtain ⟨f1, f2⟩ := hL
  intro H locs ls h1 h2 h3 h4 h5
  have hz := h1.1
  have w := fun H1 g1 g2 => kk H1 locs ls g1 g2 h3 (by rw [len_grid, sO_grid]; omega) h5
  have ec : (gS S n.toNatClampNeg k.toNatClampNeg).1.length - n0 = S.1.length - n0 + 1 + n.toNatClampNeg := by rw [len_grid]; omega
  have eo : sO (gS S n.toNatClampNeg k.toNatClampNeg) - m0 = sO S - m0 + n.toNatClampNeg + n.toNatClampNeg * k.toNatClampNeg := by rw [sO_grid]; omega
  simp only [ec, eo] at w
  intro T hT Xs
  have es : "[" ++ (FieldType.array FieldType.long).toString = "[[J" := by decide +kernel
  obtain ⟨vm₁, cA, comp, -, fA, fC, hO, hI, X', step⟩ := Xs.multianewarray2F hx hown (index := index) (ty := .long) (by rw [es]; exact hts _ hcl) (hKD.2 _ hw) (hts _ ha) (g := F0 m pc ls (.int k :: .int n :: st)) rfl (by rw [hb]; exact d) rfl n1 k1 (by omega) (by show k.toNatClampNeg * 8 ≤ _; omega) (by omega) rfl rfl (by omega) (by omega)
  have hTh : (T.setVm vm₁).heap = H := hT
  obtain ⟨g1, g2, -, -⟩ := Jvm.Free.Multi.fill_facts (T.setVm vm₁) cA comp n.toNatClampNeg k.toNatClampNeg (defaultValue .long) n.toNatClampNeg
  have g3 : ∀ x : Nat, x < H.size → (Jvm.Free.Multi.fill (T.setVm vm₁) cA comp n.toNatClampNeg k.toNatClampNeg (defaultValue .long) n.toNatClampNeg).heap[x]? = H[x]? := fun x hx => by
    rw [Jvm.Free.Multi.fill_old (T.setVm vm₁) cA comp n.toNatClampNeg k.toNatClampNeg (defaultValue .long) (a := x) (by rw [hTh]; exact hx) n.toNatClampNeg, hTh]
  have g4 := Jvm.Free.Multi.fill_inner (T.setVm vm₁) cA comp n.toNatClampNeg k.toNatClampNeg (defaultValue .long) n.toNatClampNeg
  rw [hTh] at g1 g2 g4
  generalize Jvm.Free.Multi.fill (T.setVm vm₁) cA comp n.toNatClampNeg k.toNatClampNeg (defaultValue .long) n.toNatClampNeg = F at X' step g1 g2 g3 g4
  rw [gq_outer] at g2
  have hA : ArrOfT s cA (.array .long) ∧ va_RA s cA (.array .long) := by
    obtain ⟨-, kA, q2, cm, q3⟩ := (hO 0 0 0).1
    exact ⟨fun n z => ⟨fun k h => (by cases h), kA, q2, cm, q3⟩, fA⟩
  have hC : ArrOfT s comp .long ∧ va_RA s comp .long := by
    obtain ⟨-, kA, q2, cm, q3⟩ := (hI 0 .null).1
    exact ⟨fun n z => ⟨fun k h => (by cases h), kA, q2, cm, q3⟩, fC⟩
  have hH := HR_grid (k := k.toNatClampNeg) h1 g1 g3 hA hC g2 (fun j hj => by
    rw [g4 j hj]
    exact congrArg some (arrV_new comp k.toNatClampNeg (.long 0)))
  rw [hT, hz] at step
  obtain ⟨t, a1, b1⟩ := w F.heap hH (fun x hx => (g3 x (by omega)).trans (h2 x hx)) F rfl X'
  exact ⟨t, step t a1, b1⟩
end WROWS6
