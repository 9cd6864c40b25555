def sR (S : SH) (c k r v : Nat) : Option SH := if kO S r = c then some (S.1, up2 S.2 r k (some v)) else none
def uR (S : SH) (r : Nat) (i : Int32) (v : Nat) : Option SH := if (kO S r = 14 ∧ kO S v = 2) ∧ ¬ (i < 0 ∨ lO S r ≤ i.toNatClampNeg) then some (S.1, up2 S.2 r i.toNatClampNeg (some v)) else none
/-- a cell that comes behind the others, all of it 0 and null -/
def nS (S : SH) (c n : Nat) : SH := (S.1 ++ [(c, n)], fun a => if a = S.1.length then (fun _ => none) else S.2 a)
def nM (S : SH) (me : ME) : ME := (fun a => if a = S.1.length then (fun _ => 0) else me.1 a, fun a => if a = S.1.length then (fun _ => 0) else me.2 a)
def cpI (S : SH) (me : ME) (r0 : Nat) (sp : Int32) (r1 : Nat) (dp n : Int32) : Option ME := if (kO S r0 = 11 ∧ kO S r1 = 11) ∧ (¬ sp < 0 ∧ ¬ dp < 0 ∧ ¬ n < 0) ∧ sp.toNatClampNeg + n.toNatClampNeg ≤ lO S r0 ∧ dp.toNatClampNeg + n.toNatClampNeg ≤ lO S r1 then some (va_up me.1 r1 (va_cpy (me.1 r0) (me.1 r1) sp.toNatClampNeg dp.toNatClampNeg n.toNatClampNeg), me.2) else none
theorem HR_putS {U : State} {D : va_G} {b : Nat} {S S1 : SH} {me : ME} {H H1 : Heap} {r : Nat} (h : HR U D b S me H) (hz : H1.size = H.size) (ho : ∀ q : Nat, q ≠ b + r → H1[q]? = H[q]?) (hk : S1.1 = S.1) (hR : ∀ a, a ≠ r → S1.2 a = S.2 a) (hc : r < S.1.length → cO U D b S1 me H1 r) : HR U D b S1 me H1 := by
  refine ⟨by rw [hk]; exact hz.trans h.1, fun a ha => ?_⟩
  rw [hk] at ha
  by_cases hr : a = r
  · subst hr
    exact hc ha
  · have e1 : H1[b + a]? = H[b + a]? := ho _ (by omega)
    have ek : kO S1 a = kO S a := by simp only [kO, hk]
    have el : lO S1 a = lO S a := by simp only [lO, hk]
    have eF : fV b S1 me (kO S a) a = fV b S me (kO S a) a := by
      funext k
      simp only [fV, hR a hr]
    have eA : aV b S1 me (kO S a) a = aV b S me (kO S a) a := by
      funext k
      simp only [aV, hR a hr]
    unfold cO
    rw [ek, el, eF, eA]
    refine ⟨fun q => ((h.2 a ha).1 q).kept e1, fun q => ?_⟩
    obtain ⟨cA, h1, h2⟩ := (h.2 a ha).2 q
    exact ⟨cA, h1, e1.trans h2⟩
theorem kO_new (S : SH) (c n : Nat) : kO (nS S c n) S.1.length = c := by simp [kO, nS, List.getD]
theorem lO_new (S : SH) (c n : Nat) : lO (nS S c n) S.1.length = n := by simp [lO, nS, List.getD]
theorem kO_old (S : SH) (c n : Nat) {a : Nat} (h : a < S.1.length) : kO (nS S c n) a = kO S a := by simp [kO, nS, List.getD, List.getElem?_append_left h]
theorem lO_old (S : SH) (c n : Nat) {a : Nat} (h : a < S.1.length) : lO (nS S c n) a = lO S a := by simp [lO, nS, List.getD, List.getElem?_append_left h]
theorem sO_new (S : SH) (c n : Nat) : sO (nS S c n) = sO S + n := by simp [sO, nS, List.sum_append]
theorem len_new (S : SH) (c n : Nat) : (nS S c n).1.length = S.1.length + 1 := by simp [nS]
theorem HR_new {U : State} {D : va_G} {b : Nat} {S : SH} {me : ME} {H H1 : Heap} {c n : Nat} (h : HR U D b S me H) (hz : H1.size = H.size + 1) (ho : ∀ q : Nat, q < H.size → H1[q]? = H[q]?) (hc : cO U D b (nS S c n) (nM S me) H1 S.1.length) : HR U D b (nS S c n) (nM S me) H1 := by
  refine ⟨by rw [len_new, hz, h.1]; omega, fun a ha => ?_⟩
  rw [len_new] at ha
  by_cases hr : a = S.1.length
  · subst hr
    exact hc
  · have hlt : a < S.1.length := by omega
    have e1 : H1[b + a]? = H[b + a]? := ho _ (by rw [h.1]; omega)
    have eF : fV b (nS S c n) (nM S me) (kO S a) a = fV b S me (kO S a) a := by
      funext k
      simp only [fV, nS, nM, if_neg hr]
    have eA : aV b (nS S c n) (nM S me) (kO S a) a = aV b S me (kO S a) a := by
      funext k
      simp only [aV, nS, nM, if_neg hr]
    unfold cO
    rw [kO_old S c n hlt, lO_old S c n hlt, eF, eA]
    refine ⟨fun q => ((h.2 a hlt).1 q).kept e1, fun q => ?_⟩
    obtain ⟨cA, h1, h2⟩ := (h.2 a hlt).2 q
    exact ⟨cA, h1, e1.trans h2⟩
theorem locs_put {b a z : Nat} {locs : List Loc} (h3 : ∀ q ∈ locs, b ≤ q.base) (ha : b ≤ a) : ∀ q ∈ locs ++ [⟨a, z⟩], b ≤ q.base := fun q hq => by
  rcases List.mem_append.mp hq with h | h
  · exact h3 q h
  · rw [List.mem_singleton.mp h]; exact ha
section WROWS2
variable {X : XT} {l : Launch} {D : va_G} {b : Nat} {cc : ByteArray} {nL : Nat} {own nm : String} {fr lo mc ms : Nat} {S S1 : SH} {me me1 : ME} {pc : Nat} {lv : List (Nat × Value)} {st : List Value}
theorem ws_putR (cx : CX X l D b cc nL own nm fr lo mc ms) {c k r v index : Nat} {fin : Bool} (hF : FF own index c k 2 fin) (hfi : fin = false ∨ (nm = "<init>" ∧ ∀ q : vw_C, vwCl[c]? = some q → q.1 = own)) (hv : sR S c k r v = some S1) (d : decode cc pc = .ok (.putfield index, 3)) (kk : WS X b nL S1 me (pc + 3) lv st) : WS X b nL S me pc lv (.ref (b + v) :: .ref (b + r) :: st) := by
  obtain ⟨p, l', e, R, s, m, args, below, meth, cd, D', Q, n0, m0⟩ := X
  obtain ⟨rfl, rfl, hx, hb, hml, hown, hts, hKD, -, -, hnm, -⟩ := cx
  intro H locs ls h1 h2 h3 h4 h5
  obtain ⟨g1, rfl⟩ := ite_s hv rfl
  have hlt := hF.1
  have hrl := kO_lt g1 (by omega)
  have hc := (h1.2 r hrl).1 (by omega)
  rw [g1] at hc
  refine w_put hx hb hown hts hKD hF (hfi.imp_right fun q => ⟨hnm.trans q.1, q.2⟩) hc (v := .ref (b + v)) (fun ty _ _ a => by have := a rfl; cases ty <;> first | exact ⟨rfl, rfl⟩ | (simp [FieldType.isReference] at this)) d (fun H1 z e1 e2 e3 => ?_)
  refine kk H1 _ ls (HR_putS h1 e2 e3 rfl (fun a ha => by funext j; simp [up2, ha]) (fun _ => ⟨fun _ => ?_, fun q => absurd (show 11 ≤ kO S r from q) (by omega)⟩)) (fun q hq => (e3 q (Nat.ne_of_lt (Nat.lt_of_lt_of_le hq (Nat.le_add_right b r)))).trans (h2 q hq)) (locs_put h3 (Nat.le_add_right b r)) h4 h5
  have g1' : kO (S.1, up2 S.2 r k (some v)) r = c := g1
  rw [g1']
  refine e1.to (fun j _ => ?_)
  by_cases hj : j = k
  · subst hj
    simp [updV, fV, hF.2.1, up2, va_rf]
  · simp [updV, fV, up2, hj]
theorem ws_iald (cx : CX X l D b cc nL own nm fr lo mc ms) {r : Nat} {i v : Int32} (hv : aI S me 11 r i = some v) (d : decode cc pc = .ok (.iaload, 1)) (kk : WS X b nL S me (pc + 1) lv (.int v :: st)) : WS X b nL S me pc lv (.int i :: .ref (b + r) :: st) := by
  obtain ⟨p, l', e, R, s, m, args, below, meth, cd, D', Q, n0, m0⟩ := X
  obtain ⟨rfl, rfl, hx, hb, -⟩ := cx
  intro H locs ls h1 h2 h3 h4 h5
  obtain ⟨⟨g1, g2⟩, rfl⟩ := ite_s hv rfl
  obtain ⟨cA, ⟨hA, -⟩, hc⟩ := (h1.2 r (kO_lt g1 (by omega))).2 (by omega)
  rw [g1] at hA hc
  exact W.iald (v := .int (me.1 r i.toNatClampNeg)) hx hb hc (hA _ _) (fun q => by cases q) (by rw [arrV_size]; exact g2) (by rw [arrV_read _ _ (by omega)]; simp [aV]) rfl rfl d (kk H locs ls h1 h2 h3 h4 h5)
theorem ws_zald (cx : CX X l D b cc nL own nm fr lo mc ms) {r : Nat} {i v : Int32} (hv : aI S me 13 r i = some v) (d : decode cc pc = .ok (.baload, 1)) (kk : WS X b nL S me (pc + 1) lv (.int v :: st)) : WS X b nL S me pc lv (.int i :: .ref (b + r) :: st) := by
  obtain ⟨p, l', e, R, s, m, args, below, meth, cd, D', Q, n0, m0⟩ := X
  obtain ⟨rfl, rfl, hx, hb, -⟩ := cx
  intro H locs ls h1 h2 h3 h4 h5
  obtain ⟨⟨g1, g2⟩, rfl⟩ := ite_s hv rfl
  obtain ⟨cA, ⟨hA, -⟩, hc⟩ := (h1.2 r (kO_lt g1 (by omega))).2 (by omega)
  rw [g1] at hA hc
  exact W.zald (v := .int (me.1 r i.toNatClampNeg)) hx hb hc (hA _ _) (fun q => by cases q) (by rw [arrV_size]; exact g2) (by rw [arrV_read _ _ (by omega)]; simp [aV]) rfl rfl d (kk H locs ls h1 h2 h3 h4 h5)
theorem ws_lald (cx : CX X l D b cc nL own nm fr lo mc ms) {r : Nat} {i : Int32} {v : Int64} (hv : aJ S me r i = some v) (d : decode cc pc = .ok (.laload, 1)) (kk : WS X b nL S me (pc + 1) lv (.long v :: st)) : WS X b nL S me pc lv (.int i :: .ref (b + r) :: st) := by
  obtain ⟨p, l', e, R, s, m, args, below, meth, cd, D', Q, n0, m0⟩ := X
  obtain ⟨rfl, rfl, hx, hb, -⟩ := cx
  intro H locs ls h1 h2 h3 h4 h5
  obtain ⟨⟨g1, g2⟩, rfl⟩ := ite_s hv rfl
  obtain ⟨cA, ⟨hA, -⟩, hc⟩ := (h1.2 r (kO_lt g1 (by omega))).2 (by omega)
  rw [g1] at hA hc
  exact W.lald (v := .long (me.2 r i.toNatClampNeg)) hx hb hc (hA _ _) (fun q => by cases q) (by rw [arrV_size]; exact g2) (by rw [arrV_read _ _ (by omega)]; simp [aV]) rfl rfl d (kk H locs ls h1 h2 h3 h4 h5)
theorem ws_aald (cx : CX X l D b cc nL own nm fr lo mc ms) {c r v : Nat} {i : Int32} (hc9 : c = 14 ∨ c = 15) (hv : aR S c r i = some v) (d : decode cc pc = .ok (.aaload, 1)) (kk : WS X b nL S me (pc + 1) lv (.ref (b + v) :: st)) : WS X b nL S me pc lv (.int i :: .ref (b + r) :: st) := by
  obtain ⟨p, l', e, R, s, m, args, below, meth, cd, D', Q, n0, m0⟩ := X
  obtain ⟨rfl, rfl, hx, hb, -⟩ := cx
  intro H locs ls h1 h2 h3 h4 h5
  obtain ⟨⟨g1, g2⟩, g3⟩ := ite_o hv
  obtain ⟨cA, ⟨hA, -⟩, hc⟩ := (h1.2 r (kO_lt g1 (by omega))).2 (by omega)
  rw [g1] at hA hc
  have hty : (aTy c).isReference = true := by rcases hc9 with rfl | rfl <;> rfl
  exact W.aald (v := .ref (b + v)) hx hb hc (hA _ _) hty (fun q => by cases q) (by rw [arrV_size]; exact g2) (by rw [arrV_read _ _ (by omega)]; rcases hc9 with rfl | rfl <;> simp [aV, g3, va_rf]) rfl rfl d (kk H locs ls h1 h2 h3 h4 h5)
theorem ws_iast (cx : CX X l D b cc nL own nm fr lo mc ms) {r : Nat} {i v : Int32} (hv : uI S me r i v = some me1) (d : decode cc pc = .ok (.iastore, 1)) (kk : WS X b nL S me1 (pc + 1) lv st) : WS X b nL S me pc lv (.int v :: .int i :: .ref (b + r) :: st) := by
  obtain ⟨p, l', e, R, s, m, args, below, meth, cd, D', Q, n0, m0⟩ := X
  obtain ⟨rfl, rfl, hx, hb, -⟩ := cx
  intro H locs ls h1 h2 h3 h4 h5
  obtain ⟨⟨g1, g2⟩, rfl⟩ := ite_s hv rfl
  obtain ⟨cA, ⟨hA, hA2⟩, hc⟩ := (h1.2 r (kO_lt g1 (by omega))).2 (by omega)
  rw [g1] at hA hA2 hc
  refine W.iast hx hb hc (hA _ _) (fun q => by cases q) (by rw [arrV_size]; exact g2) rfl rfl d (fun H1 e1 e2 e3 => ?_)
  refine kk H1 _ ls (HR_put h1 e2 e3 (fun a ha => by funext j; simp [up2, ha]) (fun a ha => rfl) (fun _ => ⟨fun q => absurd q (by omega), fun _ => ?_⟩)) (fun q hq => (e3 q (Nat.ne_of_lt (Nat.lt_of_lt_of_le hq (Nat.le_add_right b r)))).trans (h2 q hq)) (locs_put h3 (Nat.le_add_right b r)) h4 h5
  rw [g1]
  refine ⟨cA, ⟨hA, hA2⟩, ?_⟩
  rw [e1, arrV_store]
  congr 2
  funext j
  by_cases hj : j = i.toNatClampNeg <;> simp [updV, aV, up2, hj]
theorem ws_zast (cx : CX X l D b cc nL own nm fr lo mc ms) {r : Nat} {i v : Int32} (hv : uZ S me r i v = some me1) (d : decode cc pc = .ok (.bastore, 1)) (kk : WS X b nL S me1 (pc + 1) lv st) : WS X b nL S me pc lv (.int v :: .int i :: .ref (b + r) :: st) := by
  obtain ⟨p, l', e, R, s, m, args, below, meth, cd, D', Q, n0, m0⟩ := X
  obtain ⟨rfl, rfl, hx, hb, -⟩ := cx
  intro H locs ls h1 h2 h3 h4 h5
  obtain ⟨⟨g1, g2⟩, rfl⟩ := ite_s hv rfl
  obtain ⟨cA, ⟨hA, hA2⟩, hc⟩ := (h1.2 r (kO_lt g1 (by omega))).2 (by omega)
  rw [g1] at hA hA2 hc
  refine W.zast hx hb hc (hA _ _) (fun q => by cases q) (by rw [arrV_size]; exact g2) rfl rfl d (fun H1 e1 e2 e3 => ?_)
  refine kk H1 _ ls (HR_put h1 e2 e3 (fun a ha => by funext j; simp [up2, ha]) (fun a ha => rfl) (fun _ => ⟨fun q => absurd q (by omega), fun _ => ?_⟩)) (fun q hq => (e3 q (Nat.ne_of_lt (Nat.lt_of_lt_of_le hq (Nat.le_add_right b r)))).trans (h2 q hq)) (locs_put h3 (Nat.le_add_right b r)) h4 h5
  rw [g1]
  refine ⟨cA, ⟨hA, hA2⟩, ?_⟩
  rw [e1, arrV_store]
  congr 2
  funext j
  by_cases hj : j = i.toNatClampNeg
  · simp [updV, aV, up2, hj, vp_nar, narrow]
  · simp [updV, aV, up2, hj]
theorem ws_last (cx : CX X l D b cc nL own nm fr lo mc ms) {r : Nat} {i : Int32} {v : Int64} (hv : uJ S me r i v = some me1) (d : decode cc pc = .ok (.lastore, 1)) (kk : WS X b nL S me1 (pc + 1) lv st) : WS X b nL S me pc lv (.long v :: .int i :: .ref (b + r) :: st) := by
  obtain ⟨p, l', e, R, s, m, args, below, meth, cd, D', Q, n0, m0⟩ := X
  obtain ⟨rfl, rfl, hx, hb, -⟩ := cx
  intro H locs ls h1 h2 h3 h4 h5
  obtain ⟨⟨g1, g2⟩, rfl⟩ := ite_s hv rfl
  obtain ⟨cA, ⟨hA, hA2⟩, hc⟩ := (h1.2 r (kO_lt g1 (by omega))).2 (by omega)
  rw [g1] at hA hA2 hc
  refine W.last hx hb hc (hA _ _) (fun q => by cases q) (by rw [arrV_size]; exact g2) rfl rfl d (fun H1 e1 e2 e3 => ?_)
  refine kk H1 _ ls (HR_put h1 e2 e3 (fun a ha => rfl) (fun a ha => by funext j; simp [up2, ha]) (fun _ => ⟨fun q => absurd q (by omega), fun _ => ?_⟩)) (fun q hq => (e3 q (Nat.ne_of_lt (Nat.lt_of_lt_of_le hq (Nat.le_add_right b r)))).trans (h2 q hq)) (locs_put h3 (Nat.le_add_right b r)) h4 h5
  rw [g1]
  refine ⟨cA, ⟨hA, hA2⟩, ?_⟩
  rw [e1, arrV_store]
  congr 2
  funext j
  by_cases hj : j = i.toNatClampNeg <;> simp [updV, aV, up2, hj]
theorem ws_aast (cx : CX X l D b cc nL own nm fr lo mc ms) {r v : Nat} {i : Int32} (hv : uR S r i v = some S1) (d : decode cc pc = .ok (.aastore, 1)) (kk : WS X b nL S1 me (pc + 1) lv st) : WS X b nL S me pc lv (.ref (b + v) :: .int i :: .ref (b + r) :: st) := by
  obtain ⟨p, l', e, R, s, m, args, below, meth, cd, D', Q, n0, m0⟩ := X
  obtain ⟨rfl, rfl, hx, hb, hml, hown, hts, hKD, -⟩ := cx
  intro H locs ls h1 h2 h3 h4 h5
  obtain ⟨⟨⟨g1, g0⟩, g2⟩, rfl⟩ := ite_s hv rfl
  obtain ⟨cA, ⟨hA, hA2⟩, hc⟩ := (h1.2 r (kO_lt g1 (by omega))).2 (by omega)
  have hcv := (h1.2 v (kO_lt g0 (by omega))).1 (by omega)
  rw [g0] at hcv
  rw [g1] at hA hA2 hc
  obtain ⟨cv, v1, v2, v3, -⟩ := hcv
  have hcls := (hKD.1 2 (RX2, TX2, 4) rfl).2
  have hA3 := hA2
  obtain ⟨kA, comp, k1, k2, k3, -⟩ : ∃ (kA : Class) (comp : ClassId), s.vm.classes[cA]? = some kA ∧ kA.kind = .array comp (.object "StrokeSeek$Log") ∧ s.vm.findClass "StrokeSeek$Log" = some comp ∧ s.vm.findClass ("[" ++ (FieldType.object "StrokeSeek$Log").toString) = some cA := hA3
  have hcomp : comp = D'.1 2 := Option.some.inj (k3.symm.trans hcls.1)
  subst hcomp
  obtain ⟨kC, hkC, hkind⟩ := hcls.2
  refine W.aast hx hb hc (fun q h => by cases h) (fun h => by cases h) k1 k2 rfl hkC ⟨fun q => g2 (Or.inl q), by rw [arrV_size]; omega⟩ v1 (fun q h => by rw [v3] at h; cases h) (by rw [v2]; exact hkC) (by rw [v2]; exact va_assign (C := "StrokeSeek$Log") hcls) rfl rfl d (fun H1 e1 e2 e3 => ?_)
  refine kk H1 _ ls (HR_putS h1 e2 e3 rfl (fun a ha => by funext j; simp [up2, ha]) (fun _ => ⟨fun q => absurd (show kO S r < 11 from q) (by omega), fun _ => ?_⟩)) (fun q hq => (e3 q (Nat.ne_of_lt (Nat.lt_of_lt_of_le hq (Nat.le_add_right b r)))).trans (h2 q hq)) (locs_put h3 (Nat.le_add_right b r)) h4 h5
  have g1' : kO (S.1, up2 S.2 r i.toNatClampNeg (some v)) r = 14 := g1
  have l1' : lO (S.1, up2 S.2 r i.toNatClampNeg (some v)) r = lO S r := rfl
  rw [g1', l1']
  refine ⟨cA, ⟨hA, hA2⟩, ?_⟩
  rw [e1, arrV_store]
  congr 2
  funext j
  by_cases hj : j = i.toNatClampNeg <;> simp [updV, aV, up2, hj, va_rf]
end WROWS2
