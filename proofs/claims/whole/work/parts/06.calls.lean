section WROWS4
variable {X : XT} {l : Launch} {D : va_G} {b : Nat} {cc : ByteArray} {nL : Nat} {own nm : String} {fr lo mc ms : Nat} {S S1 : SH} {me me1 : ME} {pc : Nat} {lv lv' : List (Nat × Value)} {st : List Value}
/-- what a constructor may yet make -/
def LX : XT → Nat × Nat → Nat → Nat → Prop
  | (p, l, e, R, s, m, args, below, meth, c, D, Q, n0, m0), lim, mc, ms => lim.1 = n0 + mc ∧ lim.2 = m0 + ms
/-- a method that may be called: of an object of its class (vi = true), or static -/
def MV (vi : Bool) (y : MethodName) (bytes : ByteArray) (maxL : Nat) (ret : Option FieldType) (n : Nat) : Prop :=
  Cond.code y bytes maxL ret ∈ lw_good ∧ Cond.initialized y.cls ∈ lw_good ∧ (y.cls ≠ "java/lang/invoke/MethodHandle" ∧ y.cls ≠ "java/lang/invoke/VarHandle") ∧ (parseMethodDescriptor y.desc).map (fun d => d.parameters.length) = some n ∧ ((vi = true → Cond.instanceMethod y ∈ lw_good) ∧ (vi = false → Cond.static y ∈ lw_good))
theorem good_pay {args : Array Value} {s : State} (hts : ∀ w ∈ lw_good, w.before args s = true) {y : MethodName} {bytes : ByteArray} {maxL : Nat} {ret : Option FieldType} (hc : Cond.code y bytes maxL ret ∈ lw_good) : ∀ w ∈ (Cond.code y bytes maxL ret :: lw_good), ∀ (a' : Array Value) (U : State), s.WarmedH U.vm → w.before a' U = true := by
  intro w hw a' U hW
  have h1 : w ∈ lw_good := by
    rcases List.mem_cons.mp hw with rfl | h
    · exact hc
    · exact h
  exact word_at hW (good_of_word (List.mem_filter.mp h1).2) (hts w h1)
theorem mv_len {vi : Bool} {y : MethodName} {bytes : ByteArray} {maxL : Nat} {ret : Option FieldType} {n : Nat} (h : MV vi y bytes maxL ret n) : ∀ sig, parseMethodDescriptor y.desc = some sig → n = sig.parameters.length := by
  intro sig hs
  have h2 := h.2.2.2.1
  rw [hs] at h2
  exact (Option.some.inj h2).symm
theorem nw_call {w : Cond} (hw : lw_isNw w = true) {u U : State} (h : u.vm = U.vm) (hZ : va_Nw w u) : va_Nw w U := by
  cases w <;> first | exact va_Nw.same rfl h hZ | (simp [lw_isNw] at hw; done) | skip
  rename_i ty
  cases ty <;> first | (simp [lw_isNw] at hw; done) | exact va_AO.moved (by rw [h]; exact Vm.Alike.refl _) hZ | exact nw_overA (by rw [h]; exact Vm.Alike.refl _) hZ
theorem pc_blind {av : List Value} : FrameBlind (PcA D b av S me) := fun a U g mk q => ⟨q.1, HR_moved (u := U) (U := U.calling g mk a) (Vm.Alike.refl U.vm) q.2.1, ⟨fun c q' hq => u_Kn_moved (u := U) (U := U.calling g mk a) (Vm.Alike.refl U.vm) (q.2.2.1 c q' hq), fun w hw => nw_call (u := U) (U := U.calling g mk a) (List.mem_filter.mp hw).2 rfl (q.2.2.2 w hw)⟩⟩
theorem pc_at {s : State} {H : Heap} {av : List Value} (h1 : HR s D b S me H) (hKD : KD s D) : ∀ U : State, U.heap = H → s.WarmedH U.vm → PcA D b av S me av.toArray U := fun U hU hW => ⟨rfl, by rw [hU]; exact HR_moved hW.alike h1, KD_moved hW hKD⟩
/-- behind a call -/
theorem ws_back {p : Program} {e : Env} {R : Room} {s : State} {m : MethodId} {args : Array Value} {below : List Frame} {meth : Method} {c : Code} {Q : State → Prop} {n0 m0 mz sz : Nat} {H : Heap} {locs : List Loc} {ls : Array Slot} {st0 rest st' : List Value} {rv : Option Value} {a : Array Value}
    (hr : va_Run p l e R s m args below meth c H locs (S.1.length - n0) (sO S - m0) mz sz (F0 m pc ls st0) rest (QcA D b S1 me1 rv a) (fun q => b ≤ q)) (h2 : ∀ q : Nat, q < b → H[q]? = s.heap[q]?) (h3 : ∀ q ∈ locs, b ≤ q.base) (h4 : n0 ≤ S.1.length ∧ m0 ≤ sO S ∧ S.1.length - n0 ≤ R.cells ∧ sO S - m0 ≤ R.slots) (h5 : lv_has ls nL lv) (hz : S1.1.length = S.1.length + mz ∧ sO S1 = sO S + sz) (hf : S.1.length - n0 + mz ≤ R.cells ∧ sO S - m0 + sz ≤ R.slots) (hst : rv.toList ++ rest = st')
    (kk : WS (p, l, e, R, s, m, args, below, meth, c, D, Q, n0, m0) b nL S1 me1 (pc + 3) lv st') : W p l e R s m args below meth c H locs (S.1.length - n0) (sO S - m0) Q (F0 m pc ls st0) := by
  intro T hT Xs
  obtain ⟨v, st₀, t, T', L, g0, X', hL, e1, e2, ⟨hv, hH, hfr⟩, stp⟩ := hr T hT Xs
  cases hv
  subst hst
  have hal : s.vm.Alike T'.vm := X'.warmed.alike
  have hH' : HR s D b S1 me1 T'.heap := by rw [e1]; exact HR_moved (u := t) (U := s) (by rw [← e2]; exact hal.symm) hH
  have w := kk T'.heap (locs ++ L) ls hH' (fun q hq => by rw [e1, hfr q hq, g0]; exact h2 q hq) (fun q hq => by
    rcases List.mem_append.mp hq with h | h
    · exact h3 q h
    · exact hL q h) (by rw [hz.1, hz.2]; omega) h5
  obtain ⟨t2, a1, b1⟩ := W.widen (by rw [hz.1]; omega) (by rw [hz.2]; omega) w T' rfl X'
  exact ⟨t2, stp t2 a1, b1⟩
theorem lv_room8 {m : MethodId} {ls : Array Slot} {st0 : List Value} {rest : List Value} (h : (rest.map fun v => v.category).sum ≤ 8) : 2 * (F0 m pc ls st0).monitorRoom + (rest.map fun v => v.category).sum ≤ 8 := by
  show 2 * 0 + _ ≤ 8
  omega
theorem ws_callV (cx : CX X l D b cc nL own nm fr lo mc ms) {y : MethodName} {bytes : ByteArray} {maxL : Nat} {ret : Option FieldType} {n index frz loz mz sz c r : Nat} {q : vw_C} {av rest st' : List Value} {rv : Option Value} (hM : Ct l D b y bytes maxL ret frz loz mz sz (.ref (b + r) :: av) S me S1 me1 rv) (hV : MV true y bytes maxL ret n) (hk : kO S r = c) (hc : c < 11) (hq : vwCl[c]? = some q) (hC : Cond.selects q.1 y y ∈ lw_good) (hlink : Cond.methodLink own index y ∈ lw_good)
    (hn : av.length = n) (hR : frz + 1 ≤ fr ∧ 8 + (maxL + 11) + loz ≤ lo) (hroom : (rest.map fun v => v.category).sum ≤ 8) (hz : S1.1.length = S.1.length + mz ∧ sO S1 = sO S + sz) (hf : mz = 0 ∧ sz = 0 ∨ ∃ lim : Nat × Nat, LX X lim mc ms ∧ S.1.length + mz ≤ lim.1 ∧ sO S + sz ≤ lim.2) (hst0 : av.reverse ++ .ref (b + r) :: rest = st) (hst : rv.toList ++ rest = st') (d : decode cc pc = .ok (.invokevirtual index, 3)) (kk : WS X b nL S1 me1 (pc + 3) lv st') : WS X b nL S me pc lv st := by
  obtain ⟨p, l', e, R, s, m, args, below, meth, cd, D', Q, n0, m0⟩ := X
  obtain ⟨rfl, rfl, hx, hb, hml, hown, hts, hKD, hbs, ⟨r1, r2, r3, r4⟩, hnm, hlk⟩ := cx
  intro H locs ls h1 h2 h3 h4 h5
  have hf' : S.1.length - n0 + mz ≤ R.cells ∧ sO S - m0 + sz ≤ R.slots := by
    rcases hf with ⟨rfl, rfl⟩ | ⟨lim, ⟨f1, f2⟩, f3, f4⟩
    · exact ⟨h4.2.2.1, h4.2.2.2⟩
    · have := h4.1
      have := h4.2.1
      omega
  subst hst0
  have hO := (h1.2 r (kO_lt hk (by omega))).1 (by omega)
  rw [hk] at hO
  obtain ⟨cell, c1, c2, c3, -⟩ := hO
  have hfc := (hKD.1 c q hq).2.1
  refine ws_back (va_runV (As := av) (rest := rest) (C := q.1) (n := n) (Ts := lw_good) (cc := cc) ⟨hx, hb, hml, hown, hts⟩ hM ⟨⟨rfl, rfl, by rw [r1]; exact hR.1, by rw [r2]; exact hR.2, good_pay hts hV.1, List.mem_cons_self, hts _ hV.1, hts _ hV.2.1, hV.2.2.1, mv_len hV, hts _ hlink⟩, hts _ (by have := hV.2.2.2.2; simpa using this), hts _ hC⟩ ⟨pc_blind, ⟨cell, c1, by rw [c3]; rfl, by rw [c2]; exact hfc⟩, pc_at h1 hKD⟩ rfl hn h5.1 rfl (lv_room8 hroom) d hf') h2 h3 h4 h5 hz hf' hst kk
theorem ws_callS (cx : CX X l D b cc nL own nm fr lo mc ms) {y : MethodName} {bytes : ByteArray} {maxL : Nat} {ret : Option FieldType} {n index frz loz mz sz : Nat} {av rest st' : List Value} {rv : Option Value} (hM : Ct l D b y bytes maxL ret frz loz mz sz av S me S1 me1 rv) (hV : MV false y bytes maxL ret n) (hlink : Cond.methodLink own index y ∈ lw_good)
    (hn : av.length = n) (hR : frz + 1 ≤ fr ∧ 8 + (maxL + 11) + loz ≤ lo) (hroom : (rest.map fun v => v.category).sum ≤ 8) (hz : S1.1.length = S.1.length + mz ∧ sO S1 = sO S + sz) (hf : mz = 0 ∧ sz = 0 ∨ ∃ lim : Nat × Nat, LX X lim mc ms ∧ S.1.length + mz ≤ lim.1 ∧ sO S + sz ≤ lim.2) (hst0 : av.reverse ++ rest = st) (hst : rv.toList ++ rest = st') (d : decode cc pc = .ok (.invokestatic index, 3)) (kk : WS X b nL S1 me1 (pc + 3) lv st') : WS X b nL S me pc lv st := by
  obtain ⟨p, l', e, R, s, m, args, below, meth, cd, D', Q, n0, m0⟩ := X
  obtain ⟨rfl, rfl, hx, hb, hml, hown, hts, hKD, hbs, ⟨r1, r2, r3, r4⟩, hnm, hlk⟩ := cx
  intro H locs ls h1 h2 h3 h4 h5
  have hf' : S.1.length - n0 + mz ≤ R.cells ∧ sO S - m0 + sz ≤ R.slots := by
    rcases hf with ⟨rfl, rfl⟩ | ⟨lim, ⟨f1, f2⟩, f3, f4⟩
    · exact ⟨h4.2.2.1, h4.2.2.2⟩
    · have := h4.1
      have := h4.2.1
      omega
  subst hst0
  refine ws_back (va_runS (As := av) (rest := rest) (n := n) (Ts := lw_good) (cc := cc) ⟨hx, hb, hml, hown, hts⟩ hM ⟨⟨rfl, rfl, by rw [r1]; exact hR.1, by rw [r2]; exact hR.2, good_pay hts hV.1, List.mem_cons_self, hts _ hV.1, hts _ hV.2.1, hV.2.2.1, mv_len hV, hts _ hlink⟩, hts _ (by have := hV.2.2.2.2; simpa using this)⟩ ⟨pc_blind, pc_at h1 hKD⟩ rfl hn h5.1 rfl (lv_room8 hroom) d hf') h2 h3 h4 h5 hz hf' hst kk
theorem ws_callSN (cx : CX X l D b cc nL own nm fr lo mc ms) {y : MethodName} {bytes : ByteArray} {maxL : Nat} {ret : Option FieldType} {n index frz loz mz sz : Nat} {host : String} {av rest st' : List Value} {rv : Option Value} (hM : Ct l D b y bytes maxL ret frz loz mz sz av S me S1 me1 rv) (hV : MV false y bytes maxL ret n) (hlink : Cond.methodLinkNest own index y host ∈ lw_nw)
    (hn : av.length = n) (hR : frz + 1 ≤ fr ∧ 8 + (maxL + 11) + loz ≤ lo) (hroom : (rest.map fun v => v.category).sum ≤ 8) (hz : S1.1.length = S.1.length + mz ∧ sO S1 = sO S + sz) (hf : mz = 0 ∧ sz = 0 ∨ ∃ lim : Nat × Nat, LX X lim mc ms ∧ S.1.length + mz ≤ lim.1 ∧ sO S + sz ≤ lim.2) (hst0 : av.reverse ++ rest = st) (hst : rv.toList ++ rest = st') (d : decode cc pc = .ok (.invokestatic index, 3)) (kk : WS X b nL S1 me1 (pc + 3) lv st') : WS X b nL S me pc lv st := by
  obtain ⟨p, l', e, R, s, m, args, below, meth, cd, D', Q, n0, m0⟩ := X
  obtain ⟨rfl, rfl, hx, hb, hml, hown, hts, hKD, hbs, ⟨r1, r2, r3, r4⟩, hnm, hlk⟩ := cx
  intro H locs ls h1 h2 h3 h4 h5
  have hf' : S.1.length - n0 + mz ≤ R.cells ∧ sO S - m0 + sz ≤ R.slots := by
    rcases hf with ⟨rfl, rfl⟩ | ⟨lim, ⟨f1, f2⟩, f3, f4⟩
    · exact ⟨h4.2.2.1, h4.2.2.2⟩
    · have := h4.1
      have := h4.2.1
      omega
  subst hst0
  refine ws_back (va_runSN (As := av) (rest := rest) (n := n) (host := host) (Ts := lw_good) (cc := cc) ⟨hx, hb, hml, hown, hts⟩ hM ⟨⟨⟨rfl, rfl, by rw [r1]; exact hR.1, by rw [r2]; exact hR.2, good_pay hts hV.1, List.mem_cons_self⟩, hts _ hV.1, hts _ hV.2.1, hV.2.2.1, mv_len hV, va_Nw.use rfl (hKD.2 _ hlink)⟩, hts _ (by have := hV.2.2.2.2; simpa using this), trivial⟩ ⟨pc_blind, pc_at h1 hKD⟩ rfl hn h5.1 rfl (lv_room8 hroom) d hf') h2 h3 h4 h5 hz hf' hst kk
theorem ws_callI (cx : CX X l D b cc nL own nm fr lo mc ms) {y : MethodName} {bytes : ByteArray} {maxL : Nat} {n index frz loz mz sz r : Nat} {av rest : List Value} (hM : Ct l D b y bytes maxL none frz loz mz sz (.ref (b + r) :: av) S me S1 me1 none) (hV : MV true y bytes maxL none n) (hnm2 : y.name = "<init>") (hlink : Cond.methodLink own index y ∈ lw_good)
    (hn : av.length = n) (hR : frz + 1 ≤ fr ∧ 8 + (maxL + 11) + loz ≤ lo) (hroom : (rest.map fun v => v.category).sum ≤ 8) (hz : S1.1.length = S.1.length + mz ∧ sO S1 = sO S + sz) (hf : mz = 0 ∧ sz = 0 ∨ ∃ lim : Nat × Nat, LX X lim mc ms ∧ S.1.length + mz ≤ lim.1 ∧ sO S + sz ≤ lim.2) (hst0 : av.reverse ++ .ref (b + r) :: rest = st) (d : decode cc pc = .ok (.invokespecial index, 3)) (kk : WS X b nL S1 me1 (pc + 3) lv rest) : WS X b nL S me pc lv st := by
  obtain ⟨p, l', e, R, s, m, args, below, meth, cd, D', Q, n0, m0⟩ := X
  obtain ⟨rfl, rfl, hx, hb, hml, hown, hts, hKD, hbs, ⟨r1, r2, r3, r4⟩, hnm, hlk⟩ := cx
  intro H locs ls h1 h2 h3 h4 h5
  have hf' : S.1.length - n0 + mz ≤ R.cells ∧ sO S - m0 + sz ≤ R.slots := by
    rcases hf with ⟨rfl, rfl⟩ | ⟨lim, ⟨f1, f2⟩, f3, f4⟩
    · exact ⟨h4.2.2.1, h4.2.2.2⟩
    · have := h4.1
      have := h4.2.1
      omega
  subst hst0
  refine ws_back (va_runI (As := av) (rest := rest) (n := n) (Ts := lw_good) (cc := cc) ⟨hx, hb, hml, hown, hts⟩ hM ⟨⟨rfl, rfl, by rw [r1]; exact hR.1, by rw [r2]; exact hR.2, good_pay hts hV.1, List.mem_cons_self, hts _ hV.1, hts _ hV.2.1, hV.2.2.1, mv_len hV, hts _ hlink⟩, hnm2, hts _ (by have := hV.2.2.2.2; simpa using this)⟩ ⟨pc_blind, pc_at h1 hKD⟩ rfl hn h5.1 rfl (lv_room8 hroom) d hf') h2 h3 h4 h5 hz hf' rfl kk
theorem ws_callIN (cx : CX X l D b cc nL own nm fr lo mc ms) {y : MethodName} {bytes : ByteArray} {maxL : Nat} {n index frz loz mz sz r : Nat} {host : String} {av rest : List Value} (hM : Ct l D b y bytes maxL none frz loz mz sz (.ref (b + r) :: av) S me S1 me1 none) (hV : MV true y bytes maxL none n) (hnm2 : y.name = "<init>") (hlink : Cond.methodLinkNest own index y host ∈ lw_nw)
    (hn : av.length = n) (hR : frz + 1 ≤ fr ∧ 8 + (maxL + 11) + loz ≤ lo) (hroom : (rest.map fun v => v.category).sum ≤ 8) (hz : S1.1.length = S.1.length + mz ∧ sO S1 = sO S + sz) (hf : mz = 0 ∧ sz = 0 ∨ ∃ lim : Nat × Nat, LX X lim mc ms ∧ S.1.length + mz ≤ lim.1 ∧ sO S + sz ≤ lim.2) (hst0 : av.reverse ++ .ref (b + r) :: rest = st) (d : decode cc pc = .ok (.invokespecial index, 3)) (kk : WS X b nL S1 me1 (pc + 3) lv rest) : WS X b nL S me pc lv st := by
  obtain ⟨p, l', e, R, s, m, args, below, meth, cd, D', Q, n0, m0⟩ := X
  obtain ⟨rfl, rfl, hx, hb, hml, hown, hts, hKD, hbs, ⟨r1, r2, r3, r4⟩, hnm, hlk⟩ := cx
  intro H locs ls h1 h2 h3 h4 h5
  have hf' : S.1.length - n0 + mz ≤ R.cells ∧ sO S - m0 + sz ≤ R.slots := by
    rcases hf with ⟨rfl, rfl⟩ | ⟨lim, ⟨f1, f2⟩, f3, f4⟩
    · exact ⟨h4.2.2.1, h4.2.2.2⟩
    · have := h4.1
      have := h4.2.1
      omega
  subst hst0
  refine ws_back (va_runIN (As := av) (rest := rest) (n := n) (host := host) (Ts := lw_good) (cc := cc) ⟨hx, hb, hml, hown, hts⟩ hM ⟨⟨⟨rfl, rfl, by rw [r1]; exact hR.1, by rw [r2]; exact hR.2, good_pay hts hV.1, List.mem_cons_self⟩, hts _ hV.1, hts _ hV.2.1, hV.2.2.1, mv_len hV, va_Nw.use rfl (hKD.2 _ hlink)⟩, hnm2, hts _ (by have := hV.2.2.2.2; simpa using this)⟩ ⟨pc_blind, pc_at h1 hKD⟩ rfl hn h5.1 rfl (lv_room8 hroom) d hf') h2 h3 h4 h5 hz hf' rfl kk
/-- a contract, out of the walk of its body -/
theorem ct_of {y : MethodName} {ret : Option FieldType} {av : List Value} {S' : SH} {me' : ME} {rv : Option Value} (hy : plainFor y = true) (hyc : y.cls = own) (hyn : y.name = nm) (hav : (lg_sl av).length ≤ nL) (hlv : lv_args 0 av = lv) (hz : S'.1.length = S.1.length + mc ∧ sO S' = sO S + ms)
    (body : ∀ X : XT, CX X l D b cc nL own nm fr lo mc ms → EX X b ret S' me' rv → LX X (S.1.length + mc, sO S + ms) mc ms → WS X b nL S me 0 lv []) : Ct l D b y cc nL ret fr lo mc ms av S me S' me' rv := by
  refine va_MetF (cc := cc) (maxL := nL) (ret := ret) hy rfl ?_
  intro p e s m args below meth c s₁ B hml hv
  obtain ⟨rfl, hH, hKD⟩ := hv
  have hts0 := atoms_spec (ws := .code y cc nL ret :: lw_good) B.pre
  have hts : ∀ w ∈ lw_good, w.before av.toArray s = true := fun w h => hts0 w (List.mem_cons_of_mem _ h)
  have hown : s.vm.findClass own = some m.cls := by rw [← hyc]; exact findClass_of_methodNamed B.named
  have hnm : meth.name = nm := by rw [← hyn]; exact (name_of_methodNamed B.named B.method).1
  have hl := lv_entry av (n := nL) hav
  rw [lg_entry_eq]
  have w := body (p, l, e, (headSpec (.code y cc nL ret :: lw_good) { frames := fr, cells := mc, slots := ms, locals := lo }).room, s, m, av.toArray, below, meth, c, D, MQ below (QcA D b S' me' rv) av.toArray s mc ms (fun q => b ≤ q), S.1.length, sO S) ⟨rfl, rfl, B.exec, B.bytes, hml, hown, hts, hKD, by rw [hH.1]; omega, ⟨rfl, rfl, rfl, rfl⟩, hnm, B.notSynchronized⟩ ⟨B.returns, rfl⟩ ⟨rfl, rfl⟩
  have w2 := w s.heap [] _ hH (fun q _ => rfl) (fun q hq => by cases hq) ⟨Nat.le_refl _, Nat.le_refl _, by rw [Nat.sub_self]; exact Nat.zero_le _, by rw [Nat.sub_self]; exact Nat.zero_le _⟩ (by rw [← hlv]; exact hl)
  rw [Nat.sub_self, Nat.sub_self] at w2
  exact w2
end WROWS4
