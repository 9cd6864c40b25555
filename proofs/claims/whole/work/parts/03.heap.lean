/-- the types of the fields of the classes: 0 int, 1 long, 2 reference -/
def ftyL : Nat → List Nat
  | 0 => [2, 2, 0, 0, 0, 0]
  | 1 => [2, 2, 0, 2]
  | 2 => [2, 2, 2, 0]
  | 3 => [2, 2, 0, 0, 0, 0, 0]
  | 4 => [2, 0, 0]
  | 5 => [2, 2, 2, 2, 0]
  | 6 => [2, 2, 0]
  | 7 => [2, 2, 0, 0, 1, 1, 1, 1]
  | 8 => [2, 0]
  | 9 => [2, 2, 2, 2, 2, 2, 2, 2, 2, 2, 2]
  | 10 => [0, 2, 2, 2, 0, 0, 2, 2, 2, 0, 2, 0, 0, 0, 0, 0, 0, 2, 2, 2, 0, 2, 0, 2, 1, 1, 1, 1, 0, 0, 0]
  | _ => []
/-! ===== the abstract heap: shape (kinds and references) and memory (ints and longs) ===== -/
/-- the words that stay good, and those that move by laws of their own -/
def lw_good : List Cond := lw_tbl.filter goodWord
def lw_isNw : Cond → Bool
  | .methodLinkNest _ _ _ _ => true
  | .arrayOver (.object _) => true
  | .arrayOver (.array _) => true
  | _ => false
def lw_nw : List Cond := lw_tbl.filter lw_isNw
abbrev SH : Type := List (Nat × Nat) × (Nat → Nat → Option Nat)
abbrev ME : Type := (Nat → Nat → Int32) × (Nat → Nat → Int64)
/-- the kind of a cell: below 11 an object of that class, 11 int[], 12 long[], 13 boolean[], 14 Log[], 15 long[][] -/
def kO (S : SH) (r : Nat) : Nat := (S.1.getD r (99, 0)).1
def lO (S : SH) (r : Nat) : Nat := (S.1.getD r (99, 0)).2
def sO (S : SH) : Nat := (S.1.map (fun q => q.2)).sum
def up2 {α : Type} (f : Nat → Nat → α) (r k : Nat) (v : α) : Nat → Nat → α := fun a j => if a = r then (if j = k then v else f a j) else f a j
def nF (c : Nat) : Nat := (ftyL c).length
def fty (c k : Nat) : Nat := (ftyL c).getD k 9
def fV (b : Nat) (S : SH) (me : ME) (c r : Nat) : Nat → Value := fun k => if fty c k = 0 then .int (me.1 r k) else if fty c k = 1 then .long (me.2 r k) else va_rf ((S.2 r k).map (fun y => b + y))
def aTy (c : Nat) : FieldType := if c = 11 then .int else if c = 12 then .long else if c = 13 then .boolean else if c = 14 then .object "StrokeSeek$Log" else .array .long
def aV (b : Nat) (S : SH) (me : ME) (c r : Nat) : Nat → Value := fun j => if c = 11 ∨ c = 13 then .int (me.1 r j) else if c = 12 then .long (me.2 r j) else va_rf ((S.2 r j).map (fun y => b + y))
def cO (U : State) (D : va_G) (b : Nat) (S : SH) (me : ME) (H : Heap) (r : Nat) : Prop :=
  (kO S r < 11 → t_OB (b + r) (D.1 (kO S r)) (nF (kO S r)) (D.2 (kO S r)) H (fV b S me (kO S r) r)) ∧
  (11 ≤ kO S r → ∃ cA : ClassId, (ArrOfT U cA (aTy (kO S r)) ∧ va_RA U cA (aTy (kO S r))) ∧ H[b + r]? = some (arrV cA (lO S r) (aV b S me (kO S r) r)))
def HR (U : State) (D : va_G) (b : Nat) (S : SH) (me : ME) (H : Heap) : Prop := H.size = b + S.1.length ∧ ∀ r, r < S.1.length → cO U D b S me H r
def KD (U : State) (D : va_G) : Prop := (∀ (c : Nat) (q : vw_C), vwCl[c]? = some q → u_Kn U q.1 q.2.1 q.2.2 (D.1 c) (D.2 c)) ∧ ∀ w ∈ lw_nw, va_Nw w U
theorem kO_lt {S : SH} {r c : Nat} (h : kO S r = c) (hc : c < 99) : r < S.1.length := by
  rcases Nat.lt_or_ge r S.1.length with q | q
  · exact q
  · unfold kO at h
    rw [show S.1.getD r (99, 0) = (99, 0) by simp [List.getD, List.getElem?_eq_none q]] at h
    simp at h
    omega
theorem cO_moved {u U : State} {D : va_G} {b : Nat} {S : SH} {me : ME} {H : Heap} {r : Nat} (hvm : u.vm.Alike U.vm) (h : cO u D b S me H r) : cO U D b S me H r := by
  refine ⟨h.1, fun q => ?_⟩
  obtain ⟨cA, ⟨h1, h2⟩, h3⟩ := h.2 q
  exact ⟨cA, ⟨arrOfT_moved hvm h1, h2.moved hvm⟩, h3⟩
theorem HR_moved {u U : State} {D : va_G} {b : Nat} {S : SH} {me : ME} {H : Heap} (hvm : u.vm.Alike U.vm) (h : HR u D b S me H) : HR U D b S me H := ⟨h.1, fun r hr => cO_moved hvm (h.2 r hr)⟩
theorem nw_overA {t : FieldType} {u U : State} (hvm : u.vm.Alike U.vm) (h : va_Nw (.arrayOver (.array t)) u) : va_Nw (.arrayOver (.array t)) U := by
  unfold va_Nw Cond.before at h ⊢
  simp only [Cond.holds, Cond.value, beq_iff_eq] at h ⊢
  rw [hvm.findClass]
  cases hc : u.vm.findClass (FieldType.array t).toString with
  | none => simp [hc] at h
  | some comp =>
    rw [hc, Option.bind_some] at h
    rw [Option.bind_some]
    have hi : (U.vm.classes.findIdx? fun (x : Class) => match x.kind with | .array component _ => component == comp | _ => false) = (u.vm.classes.findIdx? fun (x : Class) => match x.kind with | .array component _ => component == comp | _ => false) := by
      have e1 := va_idx_bare U.vm comp
      have e2 := va_idx_bare u.vm comp
      rw [hvm.bare_eq] at e1
      exact e1.symm.trans e2
    rw [Option.bind_eq_some_iff] at h ⊢
    obtain ⟨c, h1, h2⟩ := h
    refine ⟨c, hi.trans h1, ?_⟩
    rw [Option.map_eq_some_iff] at h2 ⊢
    obtain ⟨k, hk, hb⟩ := h2
    obtain ⟨k', hk', he⟩ := hvm.2.2 _ _ hk
    refine ⟨k', hk', ?_⟩
    have hkind : k'.kind = k.kind := by rw [he]
    rw [hkind, hvm.findClass]
    exact hb
theorem nw_warm {w : Cond} (hw : lw_isNw w = true) {s U : State} (hW : s.WarmedH U.vm) (h : va_Nw w s) : va_Nw w U := by
  cases w <;> first | exact va_Nw.warmM hW h | (simp [lw_isNw] at hw; done) | skip
  rename_i ty
  cases ty <;> first | (simp [lw_isNw] at hw; done) | exact va_AO.moved hW.alike h | exact nw_overA hW.alike h
theorem KD_moved {s U : State} {D : va_G} (hW : s.WarmedH U.vm) (h : KD s D) : KD U D :=
  ⟨fun c q hq => u_Kn_moved hW.alike (h.1 c q hq), fun w hw => nw_warm (List.mem_filter.mp hw).2 hW (h.2 w hw)⟩
/-- what a method asks of its start, what it says of its end -/
def PcA (D : va_G) (b : Nat) (av : List Value) (S : SH) (me : ME) : Array Value → State → Prop := fun v U => v = av.toArray ∧ HR U D b S me U.heap ∧ KD U D
def QcA (D : va_G) (b : Nat) (S : SH) (me : ME) (rv : Option Value) : Array Value → State → Outcome → State → Prop := fun _ st o t => o = .returned rv ∧ HR t D b S me t.heap ∧ ∀ q : Nat, q < b → t.heap[q]? = st.heap[q]?
def Ct (l : Launch) (D : va_G) (b : Nat) (y : MethodName) (cc : ByteArray) (nL : Nat) (ret : Option FieldType) (fr lo mc ms : Nat) (av : List Value) (S : SH) (me : ME) (S' : SH) (me' : ME) (rv : Option Value) : Prop :=
  Met l y (.code y cc nL ret :: lw_good) { frames := fr, cells := mc, slots := ms, locals := lo } (PcA D b av S me) (QcA D b S' me' rv) mc ms (fun q => b ≤ q)
abbrev XT : Type := Program × Launch × Env × Room × State × MethodId × Array Value × List Frame × Method × Code × va_G × (State → Prop) × Nat × Nat
/-- the machine goes on from here to its end: at pc, with the locals lv and the stack st, the heap as S and me tell -/
def WS : XT → Nat → Nat → SH → ME → Nat → List (Nat × Value) → List Value → Prop
  | (p, l, e, R, s, m, args, below, meth, c, D, Q, n0, m0), b, nL, S, me, pc, lv, st => ∀ (H : Heap) (locs : List Loc) (ls : Array Slot), HR s D b S me H → (∀ q : Nat, q < b → H[q]? = s.heap[q]?) → (∀ q ∈ locs, b ≤ q.base) → (n0 ≤ S.1.length ∧ m0 ≤ sO S ∧ S.1.length - n0 ≤ R.cells ∧ sO S - m0 ≤ R.slots) → lv_has ls nL lv → W p l e R s m args below meth c H locs (S.1.length - n0) (sO S - m0) Q (F0 m pc ls st)
/-- what is fixed in a method's walk -/
def CX : XT → Launch → va_G → Nat → ByteArray → Nat → String → String → Nat → Nat → Nat → Nat → Prop
  | (p, l', e, R, s, m, args, below, meth, c, D', Q, n0, m0), l, D, b, cc, nL, own, nm, fr, lo, mc, ms => l' = l ∧ D' = D ∧ p.tables.exec = Jvm.exec ∧ c.code = cc ∧ c.maxLocals = nL ∧ s.vm.findClass own = some m.cls ∧ (∀ w ∈ lw_good, w.before args s = true) ∧ KD s D ∧ b ≤ s.heap.size ∧ (R.frames = fr ∧ R.locals = lo ∧ R.cells = mc ∧ R.slots = ms) ∧ meth.name = nm ∧ meth.locks = false
/-- what the end must be -/
def EX : XT → Nat → Option FieldType → SH → ME → Option Value → Prop
  | (p, l, e, R, s, m, args, below, meth, c, D, Q, n0, m0), b, ret, S', me', rv => meth.sig.returnType = ret ∧ Q = MQ below (QcA D b S' me' rv) args s R.cells R.slots (fun q => b ≤ q)
theorem HR_eq {U : State} {D : va_G} {b : Nat} {S : SH} {me : ME} {H H1 : Heap} (h : HR U D b S me H) (hz : H1.size = H.size) (ho : ∀ q : Nat, b ≤ q → H1[q]? = H[q]?) : HR U D b S me H1 := by
  refine ⟨hz.trans h.1, fun r hr => ⟨fun q => ((h.2 r hr).1 q).kept (ho _ (by omega)), fun q => ?_⟩⟩
  obtain ⟨cA, h1, h2⟩ := (h.2 r hr).2 q
  exact ⟨cA, h1, (ho _ (by omega)).trans h2⟩
/-- one cell has become another, as the memory tells -/
theorem HR_put {U : State} {D : va_G} {b : Nat} {S : SH} {me me1 : ME} {H H1 : Heap} {r : Nat} (h : HR U D b S me H) (hz : H1.size = H.size) (ho : ∀ q : Nat, q ≠ b + r → H1[q]? = H[q]?) (hI : ∀ a, a ≠ r → me1.1 a = me.1 a) (hJ : ∀ a, a ≠ r → me1.2 a = me.2 a) (hc : r < S.1.length → cO U D b S me1 H1 r) : HR U D b S me1 H1 := by
  refine ⟨hz.trans h.1, fun a ha => ?_⟩
  by_cases hr : a = r
  · subst hr
    exact hc ha
  · have e1 : H1[b + a]? = H[b + a]? := ho _ (by omega)
    have eF : fV b S me1 (kO S a) a = fV b S me (kO S a) a := by
      funext k
      simp only [fV, hI a hr, hJ a hr]
    have eA : aV b S me1 (kO S a) a = aV b S me (kO S a) a := by
      funext k
      simp only [aV, hI a hr, hJ a hr]
    refine ⟨fun q => ?_, fun q => ?_⟩
    · rw [eF]
      exact ((h.2 a ha).1 q).kept e1
    · obtain ⟨cA, h1, h2⟩ := (h.2 a ha).2 q
      rw [eA]
      exact ⟨cA, h1, e1.trans h2⟩
def gI (S : SH) (me : ME) (c k r : Nat) : Option Int32 := if kO S r = c then some (me.1 r k) else none
def gJ (S : SH) (me : ME) (c k r : Nat) : Option Int64 := if kO S r = c then some (me.2 r k) else none
def gR (S : SH) (c k r : Nat) : Option Nat := if kO S r = c then S.2 r k else none
def sI (S : SH) (me : ME) (c k r : Nat) (v : Int32) : Option ME := if kO S r = c then some (up2 me.1 r k v, me.2) else none
def sJ (S : SH) (me : ME) (c k r : Nat) (v : Int64) : Option ME := if kO S r = c then some (me.1, up2 me.2 r k v) else none
def aI (S : SH) (me : ME) (c r : Nat) (i : Int32) : Option Int32 := if kO S r = c ∧ ¬ (i < 0 ∨ lO S r ≤ i.toNatClampNeg) then some (me.1 r i.toNatClampNeg) else none
def aJ (S : SH) (me : ME) (r : Nat) (i : Int32) : Option Int64 := if kO S r = 12 ∧ ¬ (i < 0 ∨ lO S r ≤ i.toNatClampNeg) then some (me.2 r i.toNatClampNeg) else none
def aR (S : SH) (c r : Nat) (i : Int32) : Option Nat := if kO S r = c ∧ ¬ (i < 0 ∨ lO S r ≤ i.toNatClampNeg) then S.2 r i.toNatClampNeg else none
def uI (S : SH) (me : ME) (r : Nat) (i v : Int32) : Option ME := if kO S r = 11 ∧ ¬ (i < 0 ∨ lO S r ≤ i.toNatClampNeg) then some (up2 me.1 r i.toNatClampNeg v, me.2) else none
def uZ (S : SH) (me : ME) (r : Nat) (i v : Int32) : Option ME := if kO S r = 13 ∧ ¬ (i < 0 ∨ lO S r ≤ i.toNatClampNeg) then some (up2 me.1 r i.toNatClampNeg (vp_nar .boolean v), me.2) else none
def uJ (S : SH) (me : ME) (r : Nat) (i : Int32) (v : Int64) : Option ME := if kO S r = 12 ∧ ¬ (i < 0 ∨ lO S r ≤ i.toNatClampNeg) then some (me.1, up2 me.2 r i.toNatClampNeg v) else none
theorem ite_s {c : Prop} [Decidable c] {α : Type} {a : α} {b : Option α} (h : (if c then some a else none) = b) {x : α} (hb : b = some x) : c ∧ a = x := by
  by_cases hc : c
  · rw [if_pos hc, hb] at h
    exact ⟨hc, Option.some.inj h⟩
  · rw [if_neg hc, hb] at h
    cases h
theorem ite_o {c : Prop} [Decidable c] {α : Type} {a : Option α} {x : α} (h : (if c then a else none) = some x) : c ∧ a = some x := by
  by_cases hc : c
  · rw [if_pos hc] at h
    exact ⟨hc, h⟩
  · rw [if_neg hc] at h
    cases h
theorem bnd {α β : Type} {x : Option α} {f : α → Option β} {r : β} (h : x.bind f = some r) : ∃ v, x = some v ∧ f v = some r := by
  cases x with
  | none => cases h
  | some v => exact ⟨v, rfl, h⟩
theorem if_t {α : Type} {c : Prop} [Decidable c] {a b : Option α} {r : α} (h : (if c then a else b) = some r) (hc : c) : a = some r := by rwa [if_pos hc] at h
theorem if_f {α : Type} {c : Prop} [Decidable c] {a b : Option α} {r : α} (h : (if c then a else b) = some r) (hc : ¬ c) : b = some r := by rwa [if_neg hc] at h
/-- a field: its class c, its number k, its type t, by the link that a method of class own has at index -/
def FF (own : String) (index c k t : Nat) (fin : Bool) : Prop := c < 11 ∧ fty c k = t ∧ ∃ q : vw_C, vwCl[c]? = some q ∧ q.2.2 = nF c ∧ (∀ w ∈ u_ws q.1 q.2.1 q.2.2, w ∈ lw_good) ∧ k < q.2.2 ∧ Cond.fieldLink own index (q.2.1 k).1 (q.2.1 k).2.1 (q.2.1 k).2.2.1 ∈ lw_good ∧ (q.2.1 k).2.2.2 = fin ∧ (q.2.1 k).1 = q.1 ∧ (∀ a, a < q.2.2 → ∀ b, b < q.2.2 → a ≠ b → (q.2.1 a).2.1 ≠ (q.2.1 b).2.1) ∧ ∃ ty0 : Nat → FieldType, (∀ j, j < q.2.2 → parseFieldDescriptor (q.2.1 j).2.2.1 = some (ty0 j)) ∧ (t = 0 → ty0 k = .int) ∧ (t = 1 → ty0 k = .long) ∧ (t = 2 → (ty0 k).isReference = true)
section HROWS
variable {p : Program} {l : Launch} {e : Env} {R : Room} {s : State} {m : MethodId} {args : Array Value} {below : List Frame} {meth : Method} {c : Code} {H : Heap} {locs : List Loc} {cells slots : Nat} {Q : State → Prop}
variable {cc : ByteArray} {pc : Nat} {ls : Array Slot} {rest : List Value} {D : va_G}
theorem w_get (hexec : p.tables.exec = Jvm.exec) (hb : c.code = cc) {own : String} (hown : s.vm.findClass own = some m.cls) (hts : ∀ w ∈ lw_good, w.before args s = true) (hKD : KD s D) {index ci k t a : Nat} {fin : Bool} {V : Nat → Value} (hF : FF own index ci k t fin) (hO : t_OB a (D.1 ci) (nF ci) (D.2 ci) H V) (hdg : decode cc pc = .ok (.getfield index, 3))
    (kk : W p l e R s m args below meth c H locs cells slots Q (F0 m (pc + 3) ls (V k :: rest))) : W p l e R s m args below meth c H locs cells slots Q (F0 m pc ls (.ref a :: rest)) := by
  obtain ⟨-, -, q, hq, hN, hin, hk, hlink, -, -, -, -⟩ := hF
  have hkN : k < nF ci := by rw [← hN]; exact hk
  obtain ⟨cell, q1, q2, q3, q4⟩ := hO
  obtain ⟨hS, hfc, kC, hkC, hkind⟩ := hKD.1 ci _ hq
  obtain ⟨cf, kf, fi, f, hi, hsl⟩ := hS k hk
  refine W.getf hexec hb hown (hts _ hlink) hi (u_facts hfc hkC (u_lays hts hin hk) hi).1 q1 (by rw [q3]; exact fun h => by cases h) (v := V k) ?_ rfl rfl hdg kk
  rw [hsl, q4 k hkN]
theorem w_put (hexec : p.tables.exec = Jvm.exec) (hb : c.code = cc) {own : String} (hown : s.vm.findClass own = some m.cls) (hts : ∀ w ∈ lw_good, w.before args s = true) (hKD : KD s D) {index ci k t a : Nat} {fin : Bool} {V : Nat → Value} (hF : FF own index ci k t fin) (hfi : fin = false ∨ (meth.name = "<init>" ∧ ∀ q : vw_C, vwCl[ci]? = some q → q.1 = own)) (hO : t_OB a (D.1 ci) (nF ci) (D.2 ci) H V) {v : Value} (hv : ∀ ty : FieldType, (t = 0 → ty = .int) → (t = 1 → ty = .long) → (t = 2 → ty.isReference = true) → narrow ty v = v ∧ fits ty v = true) (hdg : decode cc pc = .ok (.putfield index, 3))
    (kk : ∀ (H1 : Heap) (z : Nat), t_OB a (D.1 ci) (nF ci) (D.2 ci) H1 (updV V k v) → H1.size = H.size → (∀ q : Nat, q ≠ a → H1[q]? = H[q]?) → W p l e R s m args below meth c H1 (locs ++ [⟨a, z⟩]) cells slots Q (F0 m (pc + 3) ls rest)) : W p l e R s m args below meth c H locs cells slots Q (F0 m pc ls (v :: .ref a :: rest)) := by
  obtain ⟨-, -, q, hq, hN, hin, hk, hlink, hfin, hdecl, hnm, ty0, hty, t0, t1, t2⟩ := hF
  have hkN : k < nF ci := by rw [← hN]; exact hk
  obtain ⟨cell, q1, q2, q3, q4⟩ := hO
  obtain ⟨hS, hfc, kC, hkC, hkind⟩ := hKD.1 ci _ hq
  have hap : ∀ x y, x < nF ci → y < nF ci → x ≠ y → (D.2 ci) x ≠ (D.2 ci) y := by
    intro x y hx hy hne
    rw [← hN] at hx hy
    obtain ⟨_, _, _, fa, hia, ea⟩ := hS x hx
    obtain ⟨_, _, _, fb, hib, eb⟩ := hS y hy
    rw [← ea, ← eb]
    refine u_apart (u_lays hts hin hx) (u_lays hts hin hy) hia hib ?_
    rw [(State.fieldFound?_type hia (hty x hx)).1, (State.fieldFound?_type hib (hty y hy)).1]
    exact hnm x hx y hy hne
  obtain ⟨cf, kf, fi, f, hi, hsl⟩ := hS k hk
  have hlay := hts _ (hin _ (u_in_lay hk))
  have hst := (u_facts hfc hkC (u_lays hts hin hk) hi).1
  obtain ⟨hn, hfit⟩ := hv (ty0 k) t0 t1 t2
  have hd := hty k hk
  cases fin with
  | false =>
    unfold u_lay at hlay
    rw [if_neg (by rw [hfin]; decide)] at hlay
    have h6 := u_store hfc hkC hkind hlay hi hd hn hfit
    refine W.putK hexec hb (f := f) ⟨hown, hts _ hlink, ⟨_, _, _, hi⟩, hst⟩ (by rw [q2]; exact h6) q1 q3 (by rw [hsl]; exact k2_hasslot (q4 k hkN)) rfl rfl hdg fun H' e1 e2 e3 => ?_
    rw [hsl] at e1 ⊢
    exact kk H' _ ⟨_, e1, q2, q3, t_set q4 hap hkN v⟩ e2 e3
  | true =>
    rcases hfi with h9 | ⟨hin2, hown2⟩
    · cases h9
    · unfold u_lay at hlay
      rw [if_pos hfin] at hlay
      have hcf : m.cls = cf := by
        obtain ⟨_, _, c', _, _, _, -, -, hf', -, -, -, hown3, -⟩ := Cond.laysFinal_spec hlay
        have e1 : c' = cf := by have := hi.symm.trans hf'; simp at this; exact this.1.symm
        rw [hdecl, hown2 q hq] at hown3
        rw [← e1]; exact Option.some.inj (hown.symm.trans hown3)
      have h6 := u_fits hfc hkC hkind (Or.inr hlay) hi hd hn hfit
      refine W.putFinK hexec hb hown (hts _ hlink) hi hst hcf hin2 (by rw [q2]; exact h6) q1 q3 (by rw [hsl]; exact k2_hasslot (q4 k hkN)) rfl rfl hdg fun H' e1 e2 e3 => ?_
      rw [hsl] at e1 ⊢
      exact kk H' _ ⟨_, e1, q2, q3, t_set q4 hap hkN v⟩ e2 e3
end HROWS
section WROWS
variable {X : XT} {l : Launch} {D : va_G} {b : Nat} {cc : ByteArray} {nL : Nat} {own nm : String} {fr lo mc ms : Nat} {S : SH} {me me1 : ME} {pc : Nat} {lv : List (Nat × Value)} {st : List Value}
theorem ws_getI (cx : CX X l D b cc nL own nm fr lo mc ms) {c k r index : Nat} {fin : Bool} {v : Int32} (hF : FF own index c k 0 fin) (hv : gI S me c k r = some v) (d : decode cc pc = .ok (.getfield index, 3)) (kk : WS X b nL S me (pc + 3) lv (.int v :: st)) : WS X b nL S me pc lv (.ref (b + r) :: st) := by
  obtain ⟨p, l', e, R, s, m, args, below, meth, cd, D', Q, n0, m0⟩ := X
  obtain ⟨rfl, rfl, hx, hb, hml, hown, hts, hKD, -⟩ := cx
  intro H locs ls h1 h2 h3 h4 h5
  obtain ⟨g1, rfl⟩ := ite_s hv rfl
  have hlt := hF.1
  have hc := (h1.2 r (kO_lt g1 (by omega))).1 (by omega)
  rw [g1] at hc
  refine w_get hx hb hown hts hKD hF hc d ?_
  have e : fV b S me c r k = .int (me.1 r k) := by simp [fV, hF.2.1]
  rw [e]
  exact kk H locs ls h1 h2 h3 h4 h5
theorem ws_getJ (cx : CX X l D b cc nL own nm fr lo mc ms) {c k r index : Nat} {fin : Bool} {v : Int64} (hF : FF own index c k 1 fin) (hv : gJ S me c k r = some v) (d : decode cc pc = .ok (.getfield index, 3)) (kk : WS X b nL S me (pc + 3) lv (.long v :: st)) : WS X b nL S me pc lv (.ref (b + r) :: st) := by
  obtain ⟨p, l', e, R, s, m, args, below, meth, cd, D', Q, n0, m0⟩ := X
  obtain ⟨rfl, rfl, hx, hb, hml, hown, hts, hKD, -⟩ := cx
  intro H locs ls h1 h2 h3 h4 h5
  obtain ⟨g1, rfl⟩ := ite_s hv rfl
  have hlt := hF.1
  have hc := (h1.2 r (kO_lt g1 (by omega))).1 (by omega)
  rw [g1] at hc
  refine w_get hx hb hown hts hKD hF hc d ?_
  have e : fV b S me c r k = .long (me.2 r k) := by simp [fV, hF.2.1]
  rw [e]
  exact kk H locs ls h1 h2 h3 h4 h5
theorem ws_getR (cx : CX X l D b cc nL own nm fr lo mc ms) {c k r index : Nat} {fin : Bool} {v : Nat} (hF : FF own index c k 2 fin) (hv : gR S c k r = some v) (d : decode cc pc = .ok (.getfield index, 3)) (kk : WS X b nL S me (pc + 3) lv (.ref (b + v) :: st)) : WS X b nL S me pc lv (.ref (b + r) :: st) := by
  obtain ⟨p, l', e, R, s, m, args, below, meth, cd, D', Q, n0, m0⟩ := X
  obtain ⟨rfl, rfl, hx, hb, hml, hown, hts, hKD, -⟩ := cx
  intro H locs ls h1 h2 h3 h4 h5
  obtain ⟨g1, g3⟩ := ite_o hv
  have hlt := hF.1
  have hc := (h1.2 r (kO_lt g1 (by omega))).1 (by omega)
  rw [g1] at hc
  refine w_get hx hb hown hts hKD hF hc d ?_
  have e : fV b S me c r k = .ref (b + v) := by simp [fV, hF.2.1, g3, va_rf]
  rw [e]
  exact kk H locs ls h1 h2 h3 h4 h5
theorem ws_putI (cx : CX X l D b cc nL own nm fr lo mc ms) {c k r index : Nat} {v : Int32} (hF : FF own index c k 0 false) (hv : sI S me c k r v = some me1) (d : decode cc pc = .ok (.putfield index, 3)) (kk : WS X b nL S me1 (pc + 3) lv st) : WS X b nL S me pc lv (.int v :: .ref (b + r) :: st) := by
  obtain ⟨p, l', e, R, s, m, args, below, meth, cd, D', Q, n0, m0⟩ := X
  obtain ⟨rfl, rfl, hx, hb, hml, hown, hts, hKD, -⟩ := cx
  intro H locs ls h1 h2 h3 h4 h5
  obtain ⟨g1, rfl⟩ := ite_s hv rfl
  have hlt := hF.1
  have hrl := kO_lt g1 (by omega)
  have hc := (h1.2 r hrl).1 (by omega)
  rw [g1] at hc
  refine w_put hx hb hown hts hKD hF (Or.inl rfl) hc (v := .int v) (fun ty a _ _ => by rw [a rfl]; exact ⟨rfl, rfl⟩) d (fun H1 z e1 e2 e3 => ?_)
  refine kk H1 _ ls (HR_put h1 e2 e3 (fun a ha => by funext j; simp [up2, ha]) (fun a ha => rfl) (fun _ => ⟨fun _ => ?_, fun q => absurd q (by omega)⟩)) (fun q hq => (e3 q (by omega)).trans (h2 q hq)) (fun q hq => ?_) h4 h5
  · rw [g1]
    refine e1.to (fun j _ => ?_)
    by_cases hj : j = k
    · subst hj
      simp [updV, fV, hF.2.1, up2]
    · simp [updV, fV, up2, hj]
  · rcases List.mem_append.mp hq with h | h
    · exact h3 q h
    · rw [List.mem_singleton.mp h]; exact Nat.le_add_right b r
theorem ws_putJ (cx : CX X l D b cc nL own nm fr lo mc ms) {c k r index : Nat} {v : Int64} (hF : FF own index c k 1 false) (hv : sJ S me c k r v = some me1) (d : decode cc pc = .ok (.putfield index, 3)) (kk : WS X b nL S me1 (pc + 3) lv st) : WS X b nL S me pc lv (.long v :: .ref (b + r) :: st) := by
  obtain ⟨p, l', e, R, s, m, args, below, meth, cd, D', Q, n0, m0⟩ := X
  obtain ⟨rfl, rfl, hx, hb, hml, hown, hts, hKD, -⟩ := cx
  intro H locs ls h1 h2 h3 h4 h5
  obtain ⟨g1, rfl⟩ := ite_s hv rfl
  have hlt := hF.1
  have hrl := kO_lt g1 (by omega)
  have hc := (h1.2 r hrl).1 (by omega)
  rw [g1] at hc
  refine w_put hx hb hown hts hKD hF (Or.inl rfl) hc (v := .long v) (fun ty _ a _ => by rw [a rfl]; exact ⟨rfl, rfl⟩) d (fun H1 z e1 e2 e3 => ?_)
  refine kk H1 _ ls (HR_put h1 e2 e3 (fun a ha => rfl) (fun a ha => by funext j; simp [up2, ha]) (fun _ => ⟨fun _ => ?_, fun q => absurd q (by omega)⟩)) (fun q hq => (e3 q (by omega)).trans (h2 q hq)) (fun q hq => ?_) h4 h5
  · rw [g1]
    refine e1.to (fun j _ => ?_)
    by_cases hj : j = k
    · subst hj
      simp [updV, fV, hF.2.1, up2]
    · simp [updV, fV, up2, hj]
  · rcases List.mem_append.mp hq with h | h
    · exact h3 q h
    · rw [List.mem_singleton.mp h]; exact Nat.le_add_right b r
end WROWS
