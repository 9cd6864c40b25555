section WROWS5
variable {X : XT} {l : Launch} {D : va_G} {b : Nat} {cc : ByteArray} {nL : Nat} {own nm : String} {fr lo mc ms : Nat} {S S1 : SH} {me me1 : ME} {pc : Nat} {lv lv' : List (Nat × Value)} {st : List Value} {lim : Nat × Nat}
/-- a class whose objects a method of class own makes -/
def NC (own : String) (index c : Nat) : Prop := c < 11 ∧ ∃ q : vw_C, vwCl[c]? = some q ∧ q.2.2 = nF c ∧ (∀ w ∈ u_ws q.1 q.2.1 q.2.2, w ∈ lw_good) ∧ Cond.classLink own index q.1 ∈ lw_good ∧ Cond.instantiable q.1 q.2.2 ∈ lw_good ∧ Cond.initialized q.1 ∈ lw_good ∧ ∃ ty0 : Nat → FieldType, (∀ j, j < q.2.2 → parseFieldDescriptor (q.2.1 j).2.2.1 = some (ty0 j)) ∧ (∀ j, j < q.2.2 → defaultValue (ty0 j) = if fty c j = 0 then .int 0 else if fty c j = 1 then .long 0 else .null)
theorem ws_new (cx : CX X l D b cc nL own nm fr lo mc ms) (hL : LX X lim mc ms) {index c : Nat} (hN : NC own index c) (hr : S.1.length + 1 ≤ lim.1 ∧ sO S + nF c ≤ lim.2) (d : decode cc pc = .ok (.new index, 3)) (kk : WS X b nL (nS S c (nF c)) (nM S me) (pc + 3) lv (.ref (b + S.1.length) :: st)) : WS X b nL S me pc lv st := by
  obtain ⟨p, l', e, R, s, m, args, below, meth, cd, D', Q, n0, m0⟩ := X
  obtain ⟨rfl, rfl, hx, hb, hml, hown, hts, hKD, hbs, ⟨r1, r2, r3, r4⟩, hnm, hlk⟩ := cx
  obtain ⟨f1, f2⟩ := hL
  obtain ⟨hc, q, hq, hqn, hin, hcl, hins, hini, ty0, hty, hdf⟩ := hN
  intro H locs ls h1 h2 h3 h4 h5
  have hKn := hKD.1 c _ hq
  have hz := h1.1
  have w := fun H1 g1 g2 => kk H1 locs ls g1 g2 h3 (by rw [len_new, sO_new]; omega) h5
  rw [len_new, sO_new] at w
  refine W.newcK hx hb hown (hts _ hcl) (hts _ hins) (hts _ hini) (g := F0 m pc ls st) rfl d (by omega) (by rw [hqn]; omega) hKn.2.1 (h := b + S.1.length) hz fun H1 kC hkC e1 z1 o1 => ?_
  refine W.widen (k := S.1.length + 1 - n0) (n := sO S + nF c - m0) (by omega) (by rw [hqn]; omega) (w H1 (HR_new h1 (by rw [z1, hz]) (fun x hx => o1 x (by rw [← hz]; exact hx)) ⟨fun _ => ?_, fun g => ?_⟩) (fun x hx => (o1 x (by omega)).trans (h2 x hx)))
  · rw [kO_new]
    have hB := u_born ty0 hts hin hKn hkC e1 hty
    rw [hqn] at hB
    refine hB.to (fun j hj => ?_)
    rw [hdf j (by rw [hqn]; exact hj)]
    by_cases t0 : fty c j = 0
    · simp [fV, t0, nM]
    · by_cases t1 : fty c j = 1
      · simp [fV, t1, nM]
      · simp [fV, t0, t1, nS, va_rf]
  · rw [kO_new] at g
    omega
/-- a row of ints, longs or booleans -/
theorem ws_newa (cx : CX X l D b cc nL own nm fr lo mc ms) (hL : LX X lim mc ms) {c : Nat} {a : ArrayType} {n : Int32} (ha : newarray.typeOf a = aTy c ∧ (c = 11 ∨ c = 12 ∨ c = 13)) (hw : Cond.arrayClass (newarray.typeOf a) ∈ lw_good) (hn : ¬ n < 0) (hby : n.toNatClampNeg * componentBytes (newarray.typeOf a) ≤ 536870912) (hr : S.1.length + 1 ≤ lim.1 ∧ sO S + n.toNatClampNeg ≤ lim.2) (d : decode cc pc = .ok (.newarray a, 2)) (kk : WS X b nL (nS S c n.toNatClampNeg) (nM S me) (pc + 2) lv (.ref (b + S.1.length) :: st)) : WS X b nL S me pc lv (.int n :: st) := by
  obtain ⟨p, l', e, R, s, m, args, below, meth, cd, D', Q, n0, m0⟩ := X
  obtain ⟨rfl, rfl, hx, hb, hml, hown, hts, hKD, hbs, ⟨r1, r2, r3, r4⟩, hnm, hlk⟩ := cx
  obtain ⟨f1, f2⟩ := hL
  intro H locs ls h1 h2 h3 h4 h5
  have hz := h1.1
  have w := fun H1 g1 g2 => kk H1 locs ls g1 g2 h3 (by rw [len_new, sO_new]; omega) h5
  rw [len_new, sO_new] at w
  refine va_newaK hx hb (hts _ hw) (g := F0 m pc ls (.int n :: st)) rfl d rfl hn rfl hby (by omega) (by omega) (h := b + S.1.length) hz fun H1 cA e1 z1 o1 hAr hNm => ?_
  refine W.widen (k := S.1.length + 1 - n0) (n := sO S + n.toNatClampNeg - m0) (by omega) (by omega) (w H1 (HR_new h1 (by rw [z1, hz]) (fun x hx => o1 x (by rw [← hz]; exact hx)) ⟨fun g => ?_, fun _ => ?_⟩) (fun x hx => (o1 x (by omega)).trans (h2 x hx)))
  · rw [kO_new] at g
    omega
  · rw [kO_new, lO_new]
    obtain ⟨ha1, ha2⟩ := ha
    rw [ha1] at hAr hNm e1
    refine ⟨cA, ⟨hAr, ?_⟩, ?_⟩
    · rcases ha2 with rfl | rfl | rfl <;> exact hNm
    · rw [e1]
      congr 2
      funext j
      rcases ha2 with rfl | rfl | rfl <;> simp [aV, aTy, nM, defaultValue]
theorem ws_anew (cx : CX X l D b cc nL own nm fr lo mc ms) (hL : LX X lim mc ms) {index : Nat} {n : Int32} (hw : Cond.arrayOver (.object "StrokeSeek$Log") ∈ lw_nw) (hcl : Cond.classLink own index "StrokeSeek$Log" ∈ lw_good) (hn : ¬ n < 0) (hby : n.toNatClampNeg * 4 ≤ 536870912) (hr : S.1.length + 1 ≤ lim.1 ∧ sO S + n.toNatClampNeg ≤ lim.2) (d : decode cc pc = .ok (.anewarray index, 3)) (kk : WS X b nL (nS S 14 n.toNatClampNeg) (nM S me) (pc + 3) lv (.ref (b + S.1.length) :: st)) : WS X b nL S me pc lv (.int n :: st) := by
  obtain ⟨p, l', e, R, s, m, args, below, meth, cd, D', Q, n0, m0⟩ := X
  obtain ⟨rfl, rfl, hx, hb, hml, hown, hts, hKD, hbs, ⟨r1, r2, r3, r4⟩, hnm, hlk⟩ := cx
  obtain ⟨f1, f2⟩ := hL
  intro H locs ls h1 h2 h3 h4 h5
  have hz := h1.1
  have w := fun H1 g1 g2 => kk H1 locs ls g1 g2 h3 (by rw [len_new, sO_new]; omega) h5
  rw [len_new, sO_new] at w
  refine W.anew hx hb hown (hts _ hcl) (hKD.2 _ hw) (g := F0 m pc ls (.int n :: st)) rfl d rfl hn hby (by omega) (by omega) fun cA kA comp k1 k2 k3 k4 => ?_
  rw [hz]
  have o1 : ∀ x : Nat, x < H.size → (H.push ({ cls := cA, slots := Array.replicate n.toNatClampNeg .null, vm := .none } : Cell))[x]? = H[x]? := fun x hx => by rw [Array.getElem?_push, if_neg (Nat.ne_of_lt hx)]
  refine W.widen (k := S.1.length + 1 - n0) (n := sO S + n.toNatClampNeg - m0) (by omega) (by omega) (w _ (HR_new h1 (by simp) o1 ⟨fun g => ?_, fun _ => ?_⟩) (fun x hx => (o1 x (by omega)).trans (h2 x hx)))
  · rw [kO_new] at g
    omega
  · rw [kO_new, lO_new]
    refine ⟨cA, ⟨fun n z => ⟨fun k h => (by cases h), kA, k2, comp, k3⟩, kA, comp, k2, k3, k4, k1⟩, ?_⟩
    rw [← hz, arrV_new]
    simp only [Array.getElem?_push_size]
    congr 2
    funext j
    simp [aV, nS, va_rf]
theorem ws_objInit (cx : CX X l D b cc nL own nm fr lo mc ms) {index r : Nat} (hw1 : Cond.methodLink own index Lib.objectInit ∈ lw_good) (hw2 : Cond.instanceMethod Lib.objectInit ∈ lw_good) (hw3 : Cond.code Lib.objectInit ⟨#[0xb1]⟩ 1 none ∈ lw_good) (hR : 1 ≤ fr ∧ (st.map fun v => v.category).sum + 12 ≤ lo) (d : decode cc pc = .ok (.invokespecial index, 3)) (kk : WS X b nL S me (pc + 3) lv st) : WS X b nL S me pc lv (.ref (b + r) :: st) := by
  obtain ⟨p, l', e, R, s, m, args, below, meth, cd, D', Q, n0, m0⟩ := X
  obtain ⟨rfl, rfl, hx, hb, hml, hown, hts, hKD, hbs, ⟨r1, r2, r3, r4⟩, hnm, hlk⟩ := cx
  intro H locs ls h1 h2 h3 h4 h5
  exact W.objInit hx hb hown (hts _ hw1) (hts _ hw2) (hts _ hw3) (g := F0 m pc ls (.ref (b + r) :: st)) rfl (by rw [hml]; exact h5.1) rfl d (by omega) (by show 2 * 0 + _ + 12 ≤ _; omega) (kk H locs ls h1 h2 h3 h4 h5)
theorem ws_copy (cx : CX X l D b cc nL own nm fr lo mc ms) {index r0 r1 : Nat} {sp dp n : Int32} (hw1 : Cond.methodLink own index arraycopyName ∈ lw_good) (hw2 : Cond.native arraycopyName ∈ lw_good) (hw3 : Cond.static arraycopyName ∈ lw_good) (hw4 : Cond.initialized "java/lang/System" ∈ lw_good) (hv : cpI S me r0 sp r1 dp n = some me1) (hR : 1 ≤ fr ∧ (st.map fun v => v.category).sum + (nativeFrameWords "java/lang/System" "arraycopy" 5 + 11) ≤ lo) (d : decode cc pc = .ok (.invokestatic index, 3)) (kk : WS X b nL S me1 (pc + 3) lv st) : WS X b nL S me pc lv (.int n :: .int dp :: .ref (b + r1) :: .int sp :: .ref (b + r0) :: st) := by
  obtain ⟨p, l', e, R, s, m, args, below, meth, cd, D', Q, n0, m0⟩ := X
  obtain ⟨rfl, rfl, hx, hb, hml, hown, hts, hKD, hbs, ⟨q1, q2, q3, q4⟩, hnm, hlk⟩ := cx
  intro H locs ls h1 h2 h3 h4 h5
  obtain ⟨⟨⟨g0, g1⟩, ⟨p1, p2, p3⟩, p4, p5⟩, rfl⟩ := ite_s hv rfl
  obtain ⟨c0, ⟨hA0, -⟩, hc0⟩ := (h1.2 r0 (kO_lt g0 (by omega))).2 (by omega)
  obtain ⟨c1, ⟨hA1, hB1⟩, hc1⟩ := (h1.2 r1 (kO_lt g1 (by omega))).2 (by omega)
  rw [g0] at hA0 hc0
  rw [g1] at hA1 hB1 hc1
  have nn : ∀ z : Int32, ¬ z < 0 → z.toInt = (z.toNatClampNeg : Int) := by
    intro z hz
    have hz0 : (0 : Int) ≤ z.toInt := by
      have := Int32.not_lt.mp hz
      simpa using Int32.le_iff_toInt_le.mp this
    show z.toInt = ((z.toInt.toNat : Nat) : Int)
    omega
  intro T hT Xs
  obtain ⟨-, k0, hk0, cm0, hkk0⟩ := hA0 (lO S r0) (aV b S me 11 r0)
  obtain ⟨-, k1, hk1, cm1, hkk1⟩ := hA1 (lO S r1) (aV b S me 11 r1)
  obtain ⟨vm', X', step⟩ := Xs.arraycopy hx hown (hts _ hw1) (hts _ hw2) (hts _ hw3) (hts _ hw4) (src := b + r0) (dst := b + r1) (cs := arrV c0 (lO S r0) (aV b S me 11 r0)) (cd := arrV c1 (lO S r1) (aV b S me 11 r1)) (srcPos := sp) (destPos := dp) (n := n) (by rw [hT]; exact hc0) (by rw [hT]; exact hc1)
    (fun _ h => by cases h) (fun _ h => by cases h) (fun h => by cases h) (fun h => by cases h) hk0 hk1 hkk0 hkk1 (by rfl) p1 p2 p3
    (by rw [nn sp p1, nn n p3, arrV_size]; omega)
    (by rw [nn dp p2, nn n p3, arrV_size]; omega)
    (fun vm₁ _ i hi => by
      have e : (arrV c0 (lO S r0) (aV b S me 11 r0)).slots.getD (sp.toNatClampNeg + i) .null = .int (me.1 r0 (sp.toNatClampNeg + i)) := by
        rw [Array.getD_eq_getD_getElem?, arrV_read _ _ (by omega)]
        simp [aV]
      refine ⟨?_, ?_⟩
      · rw [e]; rfl
      · rw [e]; exact trivial)
    (g := F0 m pc ls (.int n :: .int dp :: .ref (b + r1) :: .int sp :: .ref (b + r0) :: st)) rfl (by rw [hml]; exact h5.1) (rest := st) rfl (by rw [hb]; exact d) (by omega) (by show 2 * 0 + _ + _ ≤ _; omega)
  have e1 : copied (arrV c0 (lO S r0) (aV b S me 11 r0)) (arrV c1 (lO S r1) (aV b S me 11 r1)) sp dp n = arrV c1 (lO S r1) (fun j => .int (va_cpy (me.1 r0) (me.1 r1) sp.toNatClampNeg dp.toNatClampNeg n.toNatClampNeg j)) := by
    have e0 : ∀ r, aV b S me 11 r = fun j => Value.int (me.1 r j) := fun r => by funext j; simp [aV]
    rw [e0, e0]
    exact va_copied (fun z => .int z) c0 c1 (me.1 r0) (me.1 r1) p4
  rw [e1] at X' step
  have hl : b + r1 < H.size := (Array.getElem?_eq_some_iff.mp hc1).1
  have oq : ∀ (q : Nat) (z : Cell), q ≠ b + r1 → (H.setIfInBounds (b + r1) z)[q]? = H[q]? := fun q z hq => by simp [Array.getElem?_setIfInBounds, Ne.symm hq]
  have w := kk (H.setIfInBounds (b + r1) (arrV c1 (lO S r1) (fun j => .int (va_cpy (me.1 r0) (me.1 r1) sp.toNatClampNeg dp.toNatClampNeg n.toNatClampNeg j)))) (locs ++ (((arrV c0 (lO S r0) (aV b S me 11 r0)).stretch sp.toNatClampNeg n.toNatClampNeg).zipIdx).map (fun (q : Value × Nat) => ⟨b + r1, dp.toNatClampNeg + q.2⟩)) ls (HR_put h1 (by simp) (fun q hq => oq q _ hq) (fun a ha => by simp [va_up, ha]) (fun a ha => rfl) (fun _ => ⟨fun q => absurd q (by omega), fun _ => ?_⟩)) (fun q hq => (oq q _ (Nat.ne_of_lt (Nat.lt_of_lt_of_le hq (Nat.le_add_right b r1)))).trans (h2 q hq)) (fun q hq => ?_) h4 h5
  · have hheap : ((T.setVm vm').setCell (b + r1) (arrV c1 (lO S r1) (fun j => .int (va_cpy (me.1 r0) (me.1 r1) sp.toNatClampNeg dp.toNatClampNeg n.toNatClampNeg j)))).heap = H.setIfInBounds (b + r1) (arrV c1 (lO S r1) (fun j => .int (va_cpy (me.1 r0) (me.1 r1) sp.toNatClampNeg dp.toNatClampNeg n.toNatClampNeg j))) := by rw [← hT]; rfl
    obtain ⟨t, a1, b1⟩ := w _ hheap X'
    exact ⟨t, step t a1, b1⟩
  · rw [g1]
    refine ⟨c1, ⟨hA1, hB1⟩, ?_⟩
    rw [Array.getElem?_setIfInBounds, if_pos rfl, if_pos hl]
    congr 2
    funext j
    simp [aV, va_up]
  · rcases List.mem_append.mp hq with h | h
    · exact h3 q h
    · obtain ⟨z, -, hz⟩ := List.mem_map.mp h
      rw [← hz]
      exact Nat.le_add_right b r1
end WROWS5
