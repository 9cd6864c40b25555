/-! THE CLAIM OUT OF ONE WALK OF THE LAW'S BODY. Your part is whole_start (and what it stands on); all else here is the same for every law, but numbers. -/
def R_law : String := "StrokeSeekLaw"
def lw_P (b : Addr) (xs : List Int32) (args : Array Value) (s : State) : Prop := args = #[.ref b] ∧ s.IntsAt b xs ∧ xs.length ≤ 3072 ∧ (Jvm.Cond.and given_1 narrow_1).before args s = true
def lw_Q (_ : Array Value) (s : State) (o : Outcome) (t : State) : Prop := o = .returned (some (.int 1)) ∧ Framed s o t [] 600000 7302250
def lw_Z (below : List Frame) (a : Array Value) (s : State) : State → Prop := fun t => ∃ o, t.status = .running ∧ Ended t below o ∧ lw_Q a s o t
/-- the law's own end, with 1 on the stack, nothing written that was there before, its room as the claim has it -/
theorem lw_ret {p : Program} {l : Launch} {e : Env} {s : State} {m : MethodId} {below : List Frame} {meth : Method} {c : Code} {b : Nat} (hx : p.tables.exec = Jvm.exec) (hb : c.code = code) (hr : meth.sig.returnType = ret) (hlocks : meth.locks = false) {pc : Nat} {H : Heap} {ls : Array Slot} (hdg : decode code pc = .ok (.ireturn, 1)) : W p l e room_1 s m #[Value.ref b] below meth c H [] 600000 7302250 (lw_Z below #[Value.ref b] s) (F0 m pc ls [.int 1]) := by
  intro T hT X
  obtain ⟨fs, hret, hrun, hended, hW, hframe⟩ := X.leave (v := some (.int 1)) (hlocks := hlocks) (fun h => by rw [hr] at h; cases h)
  have hmeth' : T.vm.method? m = some meth := X.method'
  refine ⟨T.setFrames fs, ?_, .returned (some (.int 1)), hrun, hended, rfl, ⟨_, rfl⟩, hW, hframe⟩
  jvm_step X.here [X.here.top, hx, hb, hdg, hmeth', hr, ret, narrow_b1]
  (try refine ⟨rfl, ?_⟩); (try refine ⟨rfl, ?_⟩)
  first | (intro acts; rw [hret _ acts rfl rfl rfl]) | rw [hret _ _ rfl rfl rfl]
  exact Steps.refl _
/-- what holds at the law's entry: the machine, the code, the tables' words (any of lw_tbl by 'hts w (by decide +kernel)'), the script of L ints xs at the cell b, what the Statement gives of the start (any of its parts by flat_of_before) -/
def lw_At (p : Program) (s : State) (m : MethodId) (meth : Method) (c : Code) (b L : Nat) (xs : Nat → Int32) : Prop :=
  p.tables.exec = Jvm.exec ∧ c.code = code ∧ meth.sig.returnType = ret ∧ c.maxLocals = 4 ∧ s.vm.findClass R_law = some m.cls ∧ (∀ w ∈ lw_tbl, w.before #[Value.ref b] s = true) ∧ va_X b L xs s s.heap ∧ b < s.heap.size ∧ meth.locks = false ∧ (Jvm.Cond.and given_1 narrow_1).before #[Value.ref b] s = true
/-- the script -/
def xld (L : Nat) (xs : Nat → Int32) (i : Int32) : Option Int32 := if ¬ (i < 0 ∨ L ≤ i.toNatClampNeg) then some (xs i.toNatClampNeg) else none
def XX : XT → Nat → Nat → Nat → (Nat → Int32) → Prop
  | (p, l, e, R, s, m, args, below, meth, c, D, Q, n0, m0), b, b0, L, xs => va_X b0 L xs s s.heap ∧ b0 < b
/-- the law's end -/
def ZX : XT → Nat → Nat → Prop
  | (p, l, e, R, s, m, args, below, meth, c, D, Q, n0, m0), b, b0 => R = room_1 ∧ args = #[Value.ref b0] ∧ Q = lw_Z below #[Value.ref b0] s ∧ meth.sig.returnType = ret ∧ b = s.heap.size
section WROWS7
variable {X : XT} {l : Launch} {D : va_G} {b b0 L : Nat} {xs : Nat → Int32} {cc : ByteArray} {nL : Nat} {own nm : String} {fr lo mc ms : Nat} {S S1 : SH} {me me1 : ME} {pc : Nat} {lv lv' : List (Nat × Value)} {st : List Value} {lim : Nat × Nat}
theorem ws_sld (cx : CX X l D b cc nL own nm fr lo mc ms) (xx : XX X b b0 L xs) {i v : Int32} (hv : xld L xs i = some v) (d : decode cc pc = .ok (.iaload, 1)) (kk : WS X b nL S me (pc + 1) lv (.int v :: st)) : WS X b nL S me pc lv (.int i :: .ref b0 :: st) := by
  obtain ⟨p, l', e, R, s, m, args, below, meth, cd, D', Q, n0, m0⟩ := X
  obtain ⟨rfl, rfl, hx, hb, -⟩ := cx
  obtain ⟨⟨scr, g1, g2, g3, g4, g5⟩, hlt⟩ := xx
  intro H locs ls h1 h2 h3 h4 h5
  obtain ⟨hin, rfl⟩ := ite_s hv rfl
  exact W.iald (v := .int (xs i.toNatClampNeg)) hx hb (by rw [h2 b0 hlt]; exact g1) g2 g3 (by rw [g4]; exact hin) (g5 _ (by omega)) rfl rfl d (kk H locs ls h1 h2 h3 h4 h5)
theorem ws_slen (cx : CX X l D b cc nL own nm fr lo mc ms) (xx : XX X b b0 L xs) (d : decode cc pc = .ok (.arraylength, 1)) (kk : WS X b nL S me (pc + 1) lv (.int (Int32.ofNat L) :: st)) : WS X b nL S me pc lv (.ref b0 :: st) := by
  obtain ⟨p, l', e, R, s, m, args, below, meth, cd, D', Q, n0, m0⟩ := X
  obtain ⟨rfl, rfl, hx, hb, -⟩ := cx
  obtain ⟨⟨scr, g1, g2, g3, g4, g5⟩, hlt⟩ := xx
  intro H locs ls h1 h2 h3 h4 h5
  exact W.alen (n := Int32.ofNat L) hx hb (by rw [h2 b0 hlt]; exact g1) g2 (by rw [g4] <;> rfl) rfl rfl d (kk H locs ls h1 h2 h3 h4 h5)
theorem law_end (cx : CX X l D b cL_law nL own nm fr lo 600000 7302250) (zx : ZX X b b0) (d : decode cL_law pc = .ok (.ireturn, 1)) : WS X b nL S me pc lv [.int 1] := by
  obtain ⟨p, l', e, R, s, m, args, below, meth, cd, D', Q, n0, m0⟩ := X
  obtain ⟨rfl, rfl, hx, hb, hml, hown, hts, hKD, hbs, hR, hnm, hlk⟩ := cx
  obtain ⟨rfl, rfl, rfl, hret, rfl⟩ := zx
  intro H locs ls h1 h2 h3 h4 h5
  exact va_forget h3 (W.widen h4.2.2.1 h4.2.2.2 (lw_ret hx hb hret hlk d))
end WROWS7
def mL_law_j137 (S0 : SH) (L : Nat) (xs : Nat → Int32) (S : SH) (me : ME) : Option (Int32) :=
  some (0 : Int32)
def mL_law_j150 (S0 : SH) (L : Nat) (xs : Nat → Int32) (S : SH) (me : ME) : Option (Int32) :=
  some (0 : Int32)
def mL_law_j163 (S0 : SH) (L : Nat) (xs : Nat → Int32) (S : SH) (me : ME) : Option (Int32) :=
  some (0 : Int32)
def mL_law_j196 (S0 : SH) (L : Nat) (xs : Nat → Int32) (S : SH) (me : ME) : Option (Int32) :=
  some (0 : Int32)
def mL_law_j229 (S0 : SH) (L : Nat) (xs : Nat → Int32) (S : SH) (me : ME) : Option (Int32) :=
  some (0 : Int32)
def mL_law_j262 (S0 : SH) (L : Nat) (xs : Nat → Int32) (S : SH) (me : ME) : Option (Int32) :=
  some (0 : Int32)
def mL_law_j285 (S0 : SH) (L : Nat) (xs : Nat → Int32) (S : SH) (me : ME) : Option (Int32) :=
  some (0 : Int32)
def mL_law_j318 (S0 : SH) (L : Nat) (xs : Nat → Int32) (S : SH) (me : ME) : Option (Int32) :=
  some (0 : Int32)
def mL_law_j331 (S0 : SH) (L : Nat) (xs : Nat → Int32) (S : SH) (me : ME) : Option (Int32) :=
  some (0 : Int32)
def mL_law_j364 (S0 : SH) (L : Nat) (xs : Nat → Int32) (S : SH) (me : ME) : Option (Int32) :=
  some (0 : Int32)
def mL_law_j397 (S0 : SH) (L : Nat) (xs : Nat → Int32) (S : SH) (me : ME) : Option (Int32) :=
  some (0 : Int32)
def mL_law_j420 (S0 : SH) (L : Nat) (xs : Nat → Int32) (S : SH) (me : ME) : Option (Int32) :=
  some (0 : Int32)
def mL_law_j483 (S0 : SH) (L : Nat) (xs : Nat → Int32) (S : SH) (me : ME) : Option (Int32) :=
  some (0 : Int32)
def mL_law_j526 (S0 : SH) (L : Nat) (xs : Nat → Int32) (S : SH) (me : ME) : Option (Int32) :=
  some (0 : Int32)
def mL_law_j549 (S0 : SH) (L : Nat) (xs : Nat → Int32) (S : SH) (me : ME) : Option (Int32) :=
  some (0 : Int32)
def mL_law_j572 (S0 : SH) (L : Nat) (xs : Nat → Int32) (S : SH) (me : ME) : Option (Int32) :=
  some (0 : Int32)
def mL_law_j595 (S0 : SH) (L : Nat) (xs : Nat → Int32) (S : SH) (me : ME) : Option (Int32) :=
  some (0 : Int32)
def mL_law_j597 (S0 : SH) (L : Nat) (xs : Nat → Int32) (k18 : (SH × ME × Nat × Nat × Int32 → Option (Int32))) (S : SH) (me : ME) (x1 : Nat) (x2 : Nat) (x3 : Int32) : Option (Int32) :=
  k18 (S, me, x1, x2, x3 + (6 : Int32))
def mL_law_j603 (S0 : SH) (L : Nat) (xs : Nat → Int32) (S : SH) (me : ME) : Option (Int32) :=
  some (1 : Int32)
def mL_law_L18 (S0 : SH) (L : Nat) (xs : Nat → Int32) (k18 : (SH × ME × Nat × Nat × Int32 → Option (Int32))) : SH × ME × Nat × Nat × Int32 → Option (Int32)
  | (S, me, x1, x2, x3) =>
    if ((Int32.ofNat L) - (6 : Int32)) < x3 then
      mL_law_j603 S0 L xs S me
    else
      (xld L xs x3).bind fun v2 =>
      if (v2 &&& (31 : Int32)) = (0 : Int32) then
        (xld L xs (x3 + (1 : Int32))).bind fun v5 =>
        (ck S 9 x1).bind fun _ => (mX9_type S me x1 v5).bind fun q7 =>
        (xld L xs (x3 + (1 : Int32))).bind fun v10 =>
        (ck S 10 x2).bind fun _ => (mX10_type S q7.2 x2 v10).bind fun q12 =>
        if q7.1 = q12.1 then
          mL_law_j597 S0 L xs k18 S q12.2 x1 x2 x3
        else
          mL_law_j137 S0 L xs S q12.2
      else
      if (v2 &&& (31 : Int32)) = (1 : Int32) then
        (ck S 9 x1).bind fun _ => (mX9_clear S me x1).bind fun q17 =>
        (ck S 10 x2).bind fun _ => (mX10_clear S q17.2 x2).bind fun q20 =>
        if q17.1 = q20.1 then
          mL_law_j597 S0 L xs k18 S q20.2 x1 x2 x3
        else
          mL_law_j150 S0 L xs S q20.2
      else
      if (v2 &&& (31 : Int32)) = (2 : Int32) then
        (ck S 9 x1).bind fun _ => (mX9_field S me x1).bind fun q25 =>
        (ck S 10 x2).bind fun _ => (mX10_field S q25.2 x2).bind fun q28 =>
        if q25.1 = q28.1 then
          mL_law_j597 S0 L xs k18 S q28.2 x1 x2 x3
        else
          mL_law_j163 S0 L xs S q28.2
      else
      if (v2 &&& (31 : Int32)) = (3 : Int32) then
        (xld L xs (x3 + (1 : Int32))).bind fun v33 =>
        (xld L xs (x3 + (2 : Int32))).bind fun v35 =>
        (ck S 9 x1).bind fun _ => (mX9_station S me x1 v33 v35).bind fun q37 =>
        (xld L xs (x3 + (1 : Int32))).bind fun v40 =>
        (xld L xs (x3 + (2 : Int32))).bind fun v42 =>
        (ck S 10 x2).bind fun _ => (mX10_station S q37.2 x2 v40 v42).bind fun q44 =>
        if q37.1 = q44.1 then
          mL_law_j597 S0 L xs k18 S q44.2 x1 x2 x3
        else
          mL_law_j196 S0 L xs S q44.2
      else
      if (v2 &&& (31 : Int32)) = (4 : Int32) then
        (xld L xs (x3 + (1 : Int32))).bind fun v49 =>
        (xld L xs (x3 + (2 : Int32))).bind fun v51 =>
        (ck S 9 x1).bind fun _ => (mX9_reading S me x1 v49 v51).bind fun q53 =>
        (xld L xs (x3 + (1 : Int32))).bind fun v56 =>
        (xld L xs (x3 + (2 : Int32))).bind fun v58 =>
        (ck S 10 x2).bind fun _ => (mX10_reading S q53.2 x2 v56 v58).bind fun q60 =>
        if q53.1 = q60.1 then
          mL_law_j597 S0 L xs k18 S q60.2 x1 x2 x3
        else
          mL_law_j229 S0 L xs S q60.2
      else
      if (v2 &&& (31 : Int32)) = (5 : Int32) then
        (xld L xs (x3 + (1 : Int32))).bind fun v65 =>
        (xld L xs (x3 + (2 : Int32))).bind fun v67 =>
        (ck S 9 x1).bind fun _ => (mX9_hears S me x1 v65 v67).bind fun q69 =>
        (xld L xs (x3 + (1 : Int32))).bind fun v72 =>
        (xld L xs (x3 + (2 : Int32))).bind fun v74 =>
        (ck S 10 x2).bind fun _ => (mX10_hears S q69.2 x2 v72 v74).bind fun q76 =>
        if q69.1 = q76.1 then
          mL_law_j597 S0 L xs k18 S q76.2 x1 x2 x3
        else
          mL_law_j262 S0 L xs S q76.2
      else
      if (v2 &&& (31 : Int32)) = (6 : Int32) then
        (xld L xs (x3 + (1 : Int32))).bind fun v81 =>
        (ck S 9 x1).bind fun _ => (mX9_strikes S me x1 v81).bind fun q83 =>
        (xld L xs (x3 + (1 : Int32))).bind fun v86 =>
        (ck S 10 x2).bind fun _ => (mX10_strikes S q83.2 x2 v86).bind fun q88 =>
        if q83.1 = q88.1 then
          mL_law_j597 S0 L xs k18 S q88.2 x1 x2 x3
        else
          mL_law_j285 S0 L xs S q88.2
      else
      if (v2 &&& (31 : Int32)) = (7 : Int32) then
        (xld L xs (x3 + (1 : Int32))).bind fun v93 =>
        (xld L xs (x3 + (2 : Int32))).bind fun v95 =>
        (ck S 9 x1).bind fun _ => (mX9_sets S me x1 v93 v95).bind fun q97 =>
        (xld L xs (x3 + (1 : Int32))).bind fun v100 =>
        (xld L xs (x3 + (2 : Int32))).bind fun v102 =>
        (ck S 10 x2).bind fun _ => (mX10_sets S q97.2 x2 v100 v102).bind fun q104 =>
        if q97.1 = q104.1 then
          mL_law_j597 S0 L xs k18 S q104.2 x1 x2 x3
        else
          mL_law_j318 S0 L xs S q104.2
      else
      if (v2 &&& (31 : Int32)) = (8 : Int32) then
        (ck S 9 x1).bind fun _ => (mX9_undo S me x1).bind fun q109 =>
        (ck S 10 x2).bind fun _ => (mX10_undo S q109.2 x2).bind fun q112 =>
        if q109.1 = q112.1 then
          mL_law_j597 S0 L xs k18 S q112.2 x1 x2 x3
        else
          mL_law_j331 S0 L xs S q112.2
      else
      if (v2 &&& (31 : Int32)) = (9 : Int32) then
        (xld L xs (x3 + (1 : Int32))).bind fun v117 =>
        (xld L xs (x3 + (2 : Int32))).bind fun v119 =>
        (ck S 9 x1).bind fun _ => (mX9_group S me x1 v117 v119).bind fun q121 =>
        (xld L xs (x3 + (1 : Int32))).bind fun v124 =>
        (xld L xs (x3 + (2 : Int32))).bind fun v126 =>
        (ck S 10 x2).bind fun _ => (mX10_group S q121.2 x2 v124 v126).bind fun q128 =>
        if q121.1 = q128.1 then
          mL_law_j597 S0 L xs k18 S q128.2 x1 x2 x3
        else
          mL_law_j364 S0 L xs S q128.2
      else
      if (v2 &&& (31 : Int32)) = (10 : Int32) then
        (xld L xs (x3 + (1 : Int32))).bind fun v133 =>
        (xld L xs (x3 + (2 : Int32))).bind fun v135 =>
        (ck S 9 x1).bind fun _ => (mX9_place S me x1 v133 v135).bind fun q137 =>
        (xld L xs (x3 + (1 : Int32))).bind fun v140 =>
        (xld L xs (x3 + (2 : Int32))).bind fun v142 =>
        (ck S 10 x2).bind fun _ => (mX10_place S q137.2 x2 v140 v142).bind fun q144 =>
        if q137.1 = q144.1 then
          mL_law_j597 S0 L xs k18 S q144.2 x1 x2 x3
        else
          mL_law_j397 S0 L xs S q144.2
      else
      if (v2 &&& (31 : Int32)) = (11 : Int32) then
        (xld L xs (x3 + (1 : Int32))).bind fun v149 =>
        (ck S 9 x1).bind fun _ => (mX9_verdict S me x1 v149).bind fun q151 =>
        (xld L xs (x3 + (1 : Int32))).bind fun v154 =>
        (ck S 10 x2).bind fun _ => (mX10_verdict S q151.2 x2 v154).bind fun q156 =>
        if q151.1 = q156.1 then
          mL_law_j597 S0 L xs k18 S q156.2 x1 x2 x3
        else
          mL_law_j420 S0 L xs S q156.2
      else
      if (v2 &&& (31 : Int32)) = (12 : Int32) then
        (xld L xs (x3 + (1 : Int32))).bind fun v161 =>
        (xld L xs (x3 + (2 : Int32))).bind fun v163 =>
        (xld L xs (x3 + (3 : Int32))).bind fun v165 =>
        (xld L xs (x3 + (4 : Int32))).bind fun v167 =>
        (xld L xs (x3 + (5 : Int32))).bind fun v169 =>
        (ck S 9 x1).bind fun _ => (mX9_due S me x1 v161 v163 v165 v167 v169).bind fun q171 =>
        (xld L xs (x3 + (1 : Int32))).bind fun v174 =>
        (xld L xs (x3 + (2 : Int32))).bind fun v176 =>
        (xld L xs (x3 + (3 : Int32))).bind fun v178 =>
        (xld L xs (x3 + (4 : Int32))).bind fun v180 =>
        (xld L xs (x3 + (5 : Int32))).bind fun v182 =>
        (ck S 10 x2).bind fun _ => (mX10_due S q171.2 x2 v174 v176 v178 v180 v182).bind fun q184 =>
        if q171.1 = q184.1 then
          mL_law_j597 S0 L xs k18 S q184.2 x1 x2 x3
        else
          mL_law_j483 S0 L xs S q184.2
      else
      if (v2 &&& (31 : Int32)) = (13 : Int32) then
        (xld L xs (x3 + (1 : Int32))).bind fun v189 =>
        (xld L xs (x3 + (2 : Int32))).bind fun v191 =>
        (xld L xs (x3 + (3 : Int32))).bind fun v193 =>
        (ck S 9 x1).bind fun _ => (mX9_odds S me x1 v189 v191 v193).bind fun q195 =>
        (xld L xs (x3 + (1 : Int32))).bind fun v198 =>
        (xld L xs (x3 + (2 : Int32))).bind fun v200 =>
        (xld L xs (x3 + (3 : Int32))).bind fun v202 =>
        (ck S 10 x2).bind fun _ => (mX10_odds S q195.2 x2 v198 v200 v202).bind fun q204 =>
        if q195.1 = q204.1 then
          mL_law_j597 S0 L xs k18 S q204.2 x1 x2 x3
        else
          mL_law_j526 S0 L xs S q204.2
      else
      if (v2 &&& (31 : Int32)) = (14 : Int32) then
        (xld L xs (x3 + (1 : Int32))).bind fun v209 =>
        (ck S 9 x1).bind fun _ => (mX9_keep S me x1 v209).bind fun q211 =>
        (xld L xs (x3 + (1 : Int32))).bind fun v214 =>
        (ck S 10 x2).bind fun _ => (mX10_keep S q211.2 x2 v214).bind fun q216 =>
        if q211.1 = q216.1 then
          mL_law_j597 S0 L xs k18 S q216.2 x1 x2 x3
        else
          mL_law_j549 S0 L xs S q216.2
      else
      if (v2 &&& (31 : Int32)) = (15 : Int32) then
        (xld L xs (x3 + (1 : Int32))).bind fun v221 =>
        (ck S 9 x1).bind fun _ => (mX9_back S me x1 v221).bind fun q223 =>
        (xld L xs (x3 + (1 : Int32))).bind fun v226 =>
        (ck S 10 x2).bind fun _ => (mX10_back S q223.2 x2 v226).bind fun q228 =>
        if q223.1 = q228.1 then
          mL_law_j597 S0 L xs k18 S q228.2 x1 x2 x3
        else
          mL_law_j572 S0 L xs S q228.2
      else
      if (v2 &&& (31 : Int32)) = (16 : Int32) then
        (xld L xs (x3 + (1 : Int32))).bind fun v233 =>
        (ck S 9 x1).bind fun _ => (mX9_count S me x1 v233).bind fun q235 =>
        (xld L xs (x3 + (1 : Int32))).bind fun v238 =>
        (ck S 10 x2).bind fun _ => (mX10_count S q235.2 x2 v238).bind fun q240 =>
        if q235.1 = q240.1 then
          mL_law_j597 S0 L xs k18 S q240.2 x1 x2 x3
        else
          mL_law_j595 S0 L xs S q240.2
      else
      mL_law_j597 S0 L xs k18 S me x1 x2 x3
def mL_law (S0 : SH) (me : ME) (L : Nat) (xs : Nat → Int32) : Option (Int32) :=
  (nwO (600000, 7302250) S0 me 9 11).bind fun p245 =>
  (mX9_init p245.1 p245.2 S0.1.length).bind fun q246 => (ckC (600000, 7302250) p245.1 q246.1 90 689).bind fun _ =>
  (nwO (600000, 7302250) q246.1 q246.2 10 31).bind fun p250 =>
  (mX10_init p250.1 p250.2 q246.1.1.length).bind fun q251 => (ckC (600000, 7302250) p250.1 q251.1 12 531).bind fun _ =>
  lpn (mL_law_L18 S0 L xs) lpF (q251.1, q251.2, S0.1.length, q246.1.1.length, (0 : Int32))
set_option maxRecDepth 100000 in
set_option maxHeartbeats 4000000 in
theorem kL_law (l : Launch) (D : va_G) (b b0 L : Nat) (xs : Nat → Int32) {X : XT} {S0 : SH} {me : ME} {q : Int32} {nm : String} (hq : q = 1) (hM : mL_law S0 me L xs = some q) (cx : CX X l D b cL_law 4 RL nm 9 338 600000 7302250) (hL : LX X (600000, 7302250) 600000 7302250) (xx : XX X b b0 L xs) (zx : ZX X b b0) : WS X b 4 S0 me 0 [(0, .ref b0)] [] := by
  have J137 : ∀ (S : SH) (me : ME), mL_law_j137 S0 L xs S me = some q → WS X b 4 S me 137 [] [] := by
    intro  S me hM
    unfold mL_law_j137 at hM
    refine ws_iconst cx dL_law_137 (v := 0) (by decide) ?_
    exact absurd ((Option.some.inj hM).trans hq) (by decide)
  have J150 : ∀ (S : SH) (me : ME), mL_law_j150 S0 L xs S me = some q → WS X b 4 S me 150 [] [] := by
    intro  S me hM
    unfold mL_law_j150 at hM
    refine ws_iconst cx dL_law_150 (v := 0) (by decide) ?_
    exact absurd ((Option.some.inj hM).trans hq) (by decide)
  have J163 : ∀ (S : SH) (me : ME), mL_law_j163 S0 L xs S me = some q → WS X b 4 S me 163 [] [] := by
    intro  S me hM
    unfold mL_law_j163 at hM
    refine ws_iconst cx dL_law_163 (v := 0) (by decide) ?_
    exact absurd ((Option.some.inj hM).trans hq) (by decide)
  have J196 : ∀ (S : SH) (me : ME), mL_law_j196 S0 L xs S me = some q → WS X b 4 S me 196 [] [] := by
    intro  S me hM
    unfold mL_law_j196 at hM
    refine ws_iconst cx dL_law_196 (v := 0) (by decide) ?_
    exact absurd ((Option.some.inj hM).trans hq) (by decide)
  have J229 : ∀ (S : SH) (me : ME), mL_law_j229 S0 L xs S me = some q → WS X b 4 S me 229 [] [] := by
    intro  S me hM
    unfold mL_law_j229 at hM
    refine ws_iconst cx dL_law_229 (v := 0) (by decide) ?_
    exact absurd ((Option.some.inj hM).trans hq) (by decide)
  have J262 : ∀ (S : SH) (me : ME), mL_law_j262 S0 L xs S me = some q → WS X b 4 S me 262 [] [] := by
    intro  S me hM
    unfold mL_law_j262 at hM
    refine ws_iconst cx dL_law_262 (v := 0) (by decide) ?_
    exact absurd ((Option.some.inj hM).trans hq) (by decide)
  have J285 : ∀ (S : SH) (me : ME), mL_law_j285 S0 L xs S me = some q → WS X b 4 S me 285 [] [] := by
    intro  S me hM
    unfold mL_law_j285 at hM
    refine ws_iconst cx dL_law_285 (v := 0) (by decide) ?_
    exact absurd ((Option.some.inj hM).trans hq) (by decide)
  have J318 : ∀ (S : SH) (me : ME), mL_law_j318 S0 L xs S me = some q → WS X b 4 S me 318 [] [] := by
    intro  S me hM
    unfold mL_law_j318 at hM
    refine ws_iconst cx dL_law_318 (v := 0) (by decide) ?_
    exact absurd ((Option.some.inj hM).trans hq) (by decide)
  have J331 : ∀ (S : SH) (me : ME), mL_law_j331 S0 L xs S me = some q → WS X b 4 S me 331 [] [] := by
    intro  S me hM
    unfold mL_law_j331 at hM
    refine ws_iconst cx dL_law_331 (v := 0) (by decide) ?_
    exact absurd ((Option.some.inj hM).trans hq) (by decide)
  have J364 : ∀ (S : SH) (me : ME), mL_law_j364 S0 L xs S me = some q → WS X b 4 S me 364 [] [] := by
    intro  S me hM
    unfold mL_law_j364 at hM
    refine ws_iconst cx dL_law_364 (v := 0) (by decide) ?_
    exact absurd ((Option.some.inj hM).trans hq) (by decide)
  have J397 : ∀ (S : SH) (me : ME), mL_law_j397 S0 L xs S me = some q → WS X b 4 S me 397 [] [] := by
    intro  S me hM
    unfold mL_law_j397 at hM
    refine ws_iconst cx dL_law_397 (v := 0) (by decide) ?_
    exact absurd ((Option.some.inj hM).trans hq) (by decide)
  have J420 : ∀ (S : SH) (me : ME), mL_law_j420 S0 L xs S me = some q → WS X b 4 S me 420 [] [] := by
    intro  S me hM
    unfold mL_law_j420 at hM
    refine ws_iconst cx dL_law_420 (v := 0) (by decide) ?_
    exact absurd ((Option.some.inj hM).trans hq) (by decide)
  have J483 : ∀ (S : SH) (me : ME), mL_law_j483 S0 L xs S me = some q → WS X b 4 S me 483 [] [] := by
    intro  S me hM
    unfold mL_law_j483 at hM
    refine ws_iconst cx dL_law_483 (v := 0) (by decide) ?_
    exact absurd ((Option.some.inj hM).trans hq) (by decide)
  have J526 : ∀ (S : SH) (me : ME), mL_law_j526 S0 L xs S me = some q → WS X b 4 S me 526 [] [] := by
    intro  S me hM
    unfold mL_law_j526 at hM
    refine ws_iconst cx dL_law_526 (v := 0) (by decide) ?_
    exact absurd ((Option.some.inj hM).trans hq) (by decide)
  have J549 : ∀ (S : SH) (me : ME), mL_law_j549 S0 L xs S me = some q → WS X b 4 S me 549 [] [] := by
    intro  S me hM
    unfold mL_law_j549 at hM
    refine ws_iconst cx dL_law_549 (v := 0) (by decide) ?_
    exact absurd ((Option.some.inj hM).trans hq) (by decide)
  have J572 : ∀ (S : SH) (me : ME), mL_law_j572 S0 L xs S me = some q → WS X b 4 S me 572 [] [] := by
    intro  S me hM
    unfold mL_law_j572 at hM
    refine ws_iconst cx dL_law_572 (v := 0) (by decide) ?_
    exact absurd ((Option.some.inj hM).trans hq) (by decide)
  have J595 : ∀ (S : SH) (me : ME), mL_law_j595 S0 L xs S me = some q → WS X b 4 S me 595 [] [] := by
    intro  S me hM
    unfold mL_law_j595 at hM
    refine ws_iconst cx dL_law_595 (v := 0) (by decide) ?_
    exact absurd ((Option.some.inj hM).trans hq) (by decide)
  have J597 : ∀ (k18 : (SH × ME × Nat × Nat × Int32 → Option (Int32))), (∀ (S : SH) (me : ME) (x1 : Nat) (x2 : Nat) (x3 : Int32), k18 (S, me, x1, x2, x3) = some q → WS X b 4 S me 18 [(0, .ref b0), (1, .ref (b + x1)), (2, .ref (b + x2)), (3, .int x3)] []) → ∀ (S : SH) (me : ME) (x1 : Nat) (x2 : Nat) (x3 : Int32), mL_law_j597 S0 L xs k18 S me x1 x2 x3 = some q → WS X b 4 S me 597 [(0, .ref b0), (1, .ref (b + x1)), (2, .ref (b + x2)), (3, .int x3)] [] := by
    intro k18 hk18 S me x1 x2 x3 hM
    unfold mL_law_j597 at hM
    refine ws_iinc cx dL_law_597 (j := 3) rfl (v := x3 + (6 : Int32)) rfl (by decide) (lv' := [(3, .int (x3 + (6 : Int32))), (0, .ref b0), (1, .ref (b + x1)), (2, .ref (b + x2))]) rfl ?_
    refine ws_goto cx dL_law_600 (tgt := 18) (by decide) ?_
    refine ws_sub [1, 2, 3, 0] (lv' := [(0, .ref b0), (1, .ref (b + x1)), (2, .ref (b + x2)), (3, .int (x3 + (6 : Int32)))]) rfl ?_
    exact hk18 _ _ _ _ _ hM
  have J603 : ∀ (S : SH) (me : ME), mL_law_j603 S0 L xs S me = some q → WS X b 4 S me 603 [] [] := by
    intro  S me hM
    unfold mL_law_j603 at hM
    refine ws_iconst cx dL_law_603 (v := 1) (by decide) ?_
    exact law_end cx zx dL_law_604
  have L18 : ∀ (n : Nat) (S : SH) (me : ME) (x1 : Nat) (x2 : Nat) (x3 : Int32), lpn (mL_law_L18 S0 L xs) n (S, me, x1, x2, x3) = some q → WS X b 4 S me 18 [(0, .ref b0), (1, .ref (b + x1)), (2, .ref (b + x2)), (3, .int x3)] [] := by
    intro  n
    induction n with
    | zero => intro S me x1 x2 x3 hM; exact absurd hM (by intro h; cases h)
    | succ n ih =>
      intro S me x1 x2 x3 hM
      have hM : mL_law_L18 S0 L xs (lpn (mL_law_L18 S0 L xs) n) (S, me, x1, x2, x3) = some q := hM
      unfold mL_law_L18 at hM
      refine ws_iload_n cx dL_law_18 rfl (j := 3) rfl ?_
      refine ws_aload_n cx dL_law_19 rfl (j := 0) rfl ?_
      refine ws_slen cx xx dL_law_20 ?_
      refine ws_bipush cx dL_law_21 (v := 6) (by decide) ?_
      refine ws_isub cx dL_law_23 ?_
      refine ws_icmp_gt cx dL_law_24 (tgt := 603) (by decide) (fun c1 => ?_) (fun c1 => ?_)
      · have hM := if_t hM c1
        refine ws_sub [] (lv' := []) rfl ?_
        exact J603 _ _ hM
      · have hM := if_f hM c1
        refine ws_aload_n cx dL_law_27 rfl (j := 0) rfl ?_
        refine ws_iload_n cx dL_law_28 rfl (j := 3) rfl ?_
        obtain ⟨v2, h3, hM⟩ := bnd hM
        refine ws_sld cx xx h3 dL_law_29 ?_
        refine ws_bipush cx dL_law_30 (v := 31) (by decide) ?_
        refine ws_iand cx dL_law_32 ?_
        by_cases c4 : v2 &&& (31 : Int32) = (0 : Int32)
        · have hM := if_t hM c4
          refine ws_tabIn cx dL_law_33 (tgt := 116) (by rw [c4]; decide) (by rw [c4]; decide) (by rw [c4]; rfl) (by decide) ?_
          refine ws_aload_n cx dL_law_116 rfl (j := 1) rfl ?_
          refine ws_aload_n cx dL_law_117 rfl (j := 0) rfl ?_
          refine ws_iload_n cx dL_law_118 rfl (j := 3) rfl ?_
          refine ws_iconst cx dL_law_119 (v := 1) (by decide) ?_
          refine ws_iadd cx dL_law_120 ?_
          obtain ⟨v5, h6, hM⟩ := bnd hM
          refine ws_sld cx xx h6 dL_law_121 ?_
          obtain ⟨_, h9, hM⟩ := bnd hM
          obtain ⟨q7, h8, hM⟩ := bnd hM
          refine ws_callV cx (rest := []) (st' := [.int q7.1]) (kX9_type l D b h8) mvX9_type (ck_k h9) (by decide) (q := (RX9, TX9, 11)) rfl seX9_type lkL_13 rfl ⟨by decide, by decide⟩ (Nat.le_of_ble_eq_true rfl) ⟨rfl, rfl⟩ (Or.inl ⟨rfl, rfl⟩) rfl rfl dL_law_122 ?_
          refine ws_aload_n cx dL_law_125 rfl (j := 2) rfl ?_
          refine ws_aload_n cx dL_law_126 rfl (j := 0) rfl ?_
          refine ws_iload_n cx dL_law_127 rfl (j := 3) rfl ?_
          refine ws_iconst cx dL_law_128 (v := 1) (by decide) ?_
          refine ws_iadd cx dL_law_129 ?_
          obtain ⟨v10, h11, hM⟩ := bnd hM
          refine ws_sld cx xx h11 dL_law_130 ?_
          obtain ⟨_, h14, hM⟩ := bnd hM
          obtain ⟨q12, h13, hM⟩ := bnd hM
          refine ws_callV cx (rest := [.int q7.1]) (st' := [.int q12.1, .int q7.1]) (kX10_type l D b h13) mvX10_type (ck_k h14) (by decide) (q := (RX10, TX10, 31)) rfl seX10_type lkL_17 rfl ⟨by decide, by decide⟩ (Nat.le_of_ble_eq_true rfl) ⟨rfl, rfl⟩ (Or.inl ⟨rfl, rfl⟩) rfl rfl dL_law_131 ?_
          refine ws_icmp_eq cx dL_law_134 (tgt := 597) (by decide) (fun c15 => ?_) (fun c15 => ?_)
          · have hM := if_t hM c15
            refine ws_sub [0, 1, 2, 3] (lv' := [(0, .ref b0), (1, .ref (b + x1)), (2, .ref (b + x2)), (3, .int x3)]) rfl ?_
            exact J597 _ ih _ _ _ _ _ hM
          · have hM := if_f hM c15
            refine ws_sub [] (lv' := []) rfl ?_
            exact J137 _ _ hM
        · have hM := if_f hM c4
          by_cases c16 : v2 &&& (31 : Int32) = (1 : Int32)
          · have hM := if_t hM c16
            refine ws_tabIn cx dL_law_33 (tgt := 139) (by rw [c16]; decide) (by rw [c16]; decide) (by rw [c16]; rfl) (by decide) ?_
            refine ws_aload_n cx dL_law_139 rfl (j := 1) rfl ?_
            obtain ⟨_, h19, hM⟩ := bnd hM
            obtain ⟨q17, h18, hM⟩ := bnd hM
            refine ws_callV cx (rest := []) (st' := [.int q17.1]) (kX9_clear l D b h18) mvX9_clear (ck_k h19) (by decide) (q := (RX9, TX9, 11)) rfl seX9_clear lkL_18 rfl ⟨by decide, by decide⟩ (Nat.le_of_ble_eq_true rfl) ⟨rfl, rfl⟩ (Or.inl ⟨rfl, rfl⟩) rfl rfl dL_law_140 ?_
            refine ws_aload_n cx dL_law_143 rfl (j := 2) rfl ?_
            obtain ⟨_, h22, hM⟩ := bnd hM
            obtain ⟨q20, h21, hM⟩ := bnd hM
            refine ws_callV cx (rest := [.int q17.1]) (st' := [.int q20.1, .int q17.1]) (kX10_clear l D b h21) mvX10_clear (ck_k h22) (by decide) (q := (RX10, TX10, 31)) rfl seX10_clear lkL_22 rfl ⟨by decide, by decide⟩ (Nat.le_of_ble_eq_true rfl) ⟨rfl, rfl⟩ (Or.inl ⟨rfl, rfl⟩) rfl rfl dL_law_144 ?_
            refine ws_icmp_eq cx dL_law_147 (tgt := 597) (by decide) (fun c23 => ?_) (fun c23 => ?_)
            · have hM := if_t hM c23
              refine ws_sub [0, 1, 2, 3] (lv' := [(0, .ref b0), (1, .ref (b + x1)), (2, .ref (b + x2)), (3, .int x3)]) rfl ?_
              exact J597 _ ih _ _ _ _ _ hM
            · have hM := if_f hM c23
              refine ws_sub [] (lv' := []) rfl ?_
              exact J150 _ _ hM
          · have hM := if_f hM c16
            by_cases c24 : v2 &&& (31 : Int32) = (2 : Int32)
            · have hM := if_t hM c24
              refine ws_tabIn cx dL_law_33 (tgt := 152) (by rw [c24]; decide) (by rw [c24]; decide) (by rw [c24]; rfl) (by decide) ?_
              refine ws_aload_n cx dL_law_152 rfl (j := 1) rfl ?_
              obtain ⟨_, h27, hM⟩ := bnd hM
              obtain ⟨q25, h26, hM⟩ := bnd hM
              refine ws_callV cx (rest := []) (st' := [.int q25.1]) (kX9_field l D b h26) mvX9_field (ck_k h27) (by decide) (q := (RX9, TX9, 11)) rfl seX9_field lkL_23 rfl ⟨by decide, by decide⟩ (Nat.le_of_ble_eq_true rfl) ⟨rfl, rfl⟩ (Or.inl ⟨rfl, rfl⟩) rfl rfl dL_law_153 ?_
              refine ws_aload_n cx dL_law_156 rfl (j := 2) rfl ?_
              obtain ⟨_, h30, hM⟩ := bnd hM
              obtain ⟨q28, h29, hM⟩ := bnd hM
              refine ws_callV cx (rest := [.int q25.1]) (st' := [.int q28.1, .int q25.1]) (kX10_field l D b h29) mvX10_field (ck_k h30) (by decide) (q := (RX10, TX10, 31)) rfl seX10_field lkL_26 rfl ⟨by decide, by decide⟩ (Nat.le_of_ble_eq_true rfl) ⟨rfl, rfl⟩ (Or.inl ⟨rfl, rfl⟩) rfl rfl dL_law_157 ?_
              refine ws_icmp_eq cx dL_law_160 (tgt := 597) (by decide) (fun c31 => ?_) (fun c31 => ?_)
              · have hM := if_t hM c31
                refine ws_sub [0, 1, 2, 3] (lv' := [(0, .ref b0), (1, .ref (b + x1)), (2, .ref (b + x2)), (3, .int x3)]) rfl ?_
                exact J597 _ ih _ _ _ _ _ hM
              · have hM := if_f hM c31
                refine ws_sub [] (lv' := []) rfl ?_
                exact J163 _ _ hM
            · have hM := if_f hM c24
              by_cases c32 : v2 &&& (31 : Int32) = (3 : Int32)
              · have hM := if_t hM c32
                refine ws_tabIn cx dL_law_33 (tgt := 165) (by rw [c32]; decide) (by rw [c32]; decide) (by rw [c32]; rfl) (by decide) ?_
                refine ws_aload_n cx dL_law_165 rfl (j := 1) rfl ?_
                refine ws_aload_n cx dL_law_166 rfl (j := 0) rfl ?_
                refine ws_iload_n cx dL_law_167 rfl (j := 3) rfl ?_
                refine ws_iconst cx dL_law_168 (v := 1) (by decide) ?_
                refine ws_iadd cx dL_law_169 ?_
                obtain ⟨v33, h34, hM⟩ := bnd hM
                refine ws_sld cx xx h34 dL_law_170 ?_
                refine ws_aload_n cx dL_law_171 rfl (j := 0) rfl ?_
                refine ws_iload_n cx dL_law_172 rfl (j := 3) rfl ?_
                refine ws_iconst cx dL_law_173 (v := 2) (by decide) ?_
                refine ws_iadd cx dL_law_174 ?_
                obtain ⟨v35, h36, hM⟩ := bnd hM
                refine ws_sld cx xx h36 dL_law_175 ?_
                obtain ⟨_, h39, hM⟩ := bnd hM
                obtain ⟨q37, h38, hM⟩ := bnd hM
                refine ws_callV cx (rest := []) (st' := [.int q37.1]) (kX9_station l D b h38) mvX9_station (ck_k h39) (by decide) (q := (RX9, TX9, 11)) rfl seX9_station lkL_27 rfl ⟨by decide, by decide⟩ (Nat.le_of_ble_eq_true rfl) ⟨rfl, rfl⟩ (Or.inl ⟨rfl, rfl⟩) rfl rfl dL_law_176 ?_
                refine ws_aload_n cx dL_law_179 rfl (j := 2) rfl ?_
                refine ws_aload_n cx dL_law_180 rfl (j := 0) rfl ?_
                refine ws_iload_n cx dL_law_181 rfl (j := 3) rfl ?_
                refine ws_iconst cx dL_law_182 (v := 1) (by decide) ?_
                refine ws_iadd cx dL_law_183 ?_
                obtain ⟨v40, h41, hM⟩ := bnd hM
                refine ws_sld cx xx h41 dL_law_184 ?_
                refine ws_aload_n cx dL_law_185 rfl (j := 0) rfl ?_
                refine ws_iload_n cx dL_law_186 rfl (j := 3) rfl ?_
                refine ws_iconst cx dL_law_187 (v := 2) (by decide) ?_
                refine ws_iadd cx dL_law_188 ?_
                obtain ⟨v42, h43, hM⟩ := bnd hM
                refine ws_sld cx xx h43 dL_law_189 ?_
                obtain ⟨_, h46, hM⟩ := bnd hM
                obtain ⟨q44, h45, hM⟩ := bnd hM
                refine ws_callV cx (rest := [.int q37.1]) (st' := [.int q44.1, .int q37.1]) (kX10_station l D b h45) mvX10_station (ck_k h46) (by decide) (q := (RX10, TX10, 31)) rfl seX10_station lkL_31 rfl ⟨by decide, by decide⟩ (Nat.le_of_ble_eq_true rfl) ⟨rfl, rfl⟩ (Or.inl ⟨rfl, rfl⟩) rfl rfl dL_law_190 ?_
                refine ws_icmp_eq cx dL_law_193 (tgt := 597) (by decide) (fun c47 => ?_) (fun c47 => ?_)
                · have hM := if_t hM c47
                  refine ws_sub [0, 1, 2, 3] (lv' := [(0, .ref b0), (1, .ref (b + x1)), (2, .ref (b + x2)), (3, .int x3)]) rfl ?_
                  exact J597 _ ih _ _ _ _ _ hM
                · have hM := if_f hM c47
                  refine ws_sub [] (lv' := []) rfl ?_
                  exact J196 _ _ hM
              · have hM := if_f hM c32
                by_cases c48 : v2 &&& (31 : Int32) = (4 : Int32)
                · have hM := if_t hM c48
                  refine ws_tabIn cx dL_law_33 (tgt := 198) (by rw [c48]; decide) (by rw [c48]; decide) (by rw [c48]; rfl) (by decide) ?_
                  refine ws_aload_n cx dL_law_198 rfl (j := 1) rfl ?_
                  refine ws_aload_n cx dL_law_199 rfl (j := 0) rfl ?_
                  refine ws_iload_n cx dL_law_200 rfl (j := 3) rfl ?_
                  refine ws_iconst cx dL_law_201 (v := 1) (by decide) ?_
                  refine ws_iadd cx dL_law_202 ?_
                  obtain ⟨v49, h50, hM⟩ := bnd hM
                  refine ws_sld cx xx h50 dL_law_203 ?_
                  refine ws_aload_n cx dL_law_204 rfl (j := 0) rfl ?_
                  refine ws_iload_n cx dL_law_205 rfl (j := 3) rfl ?_
                  refine ws_iconst cx dL_law_206 (v := 2) (by decide) ?_
                  refine ws_iadd cx dL_law_207 ?_
                  obtain ⟨v51, h52, hM⟩ := bnd hM
                  refine ws_sld cx xx h52 dL_law_208 ?_
                  obtain ⟨_, h55, hM⟩ := bnd hM
                  obtain ⟨q53, h54, hM⟩ := bnd hM
                  refine ws_callV cx (rest := []) (st' := [.int q53.1]) (kX9_reading l D b h54) mvX9_reading (ck_k h55) (by decide) (q := (RX9, TX9, 11)) rfl seX9_reading lkL_32 rfl ⟨by decide, by decide⟩ (Nat.le_of_ble_eq_true rfl) ⟨rfl, rfl⟩ (Or.inl ⟨rfl, rfl⟩) rfl rfl dL_law_209 ?_
                  refine ws_aload_n cx dL_law_212 rfl (j := 2) rfl ?_
                  refine ws_aload_n cx dL_law_213 rfl (j := 0) rfl ?_
                  refine ws_iload_n cx dL_law_214 rfl (j := 3) rfl ?_
                  refine ws_iconst cx dL_law_215 (v := 1) (by decide) ?_
                  refine ws_iadd cx dL_law_216 ?_
                  obtain ⟨v56, h57, hM⟩ := bnd hM
                  refine ws_sld cx xx h57 dL_law_217 ?_
                  refine ws_aload_n cx dL_law_218 rfl (j := 0) rfl ?_
                  refine ws_iload_n cx dL_law_219 rfl (j := 3) rfl ?_
                  refine ws_iconst cx dL_law_220 (v := 2) (by decide) ?_
                  refine ws_iadd cx dL_law_221 ?_
                  obtain ⟨v58, h59, hM⟩ := bnd hM
                  refine ws_sld cx xx h59 dL_law_222 ?_
                  obtain ⟨_, h62, hM⟩ := bnd hM
                  obtain ⟨q60, h61, hM⟩ := bnd hM
                  refine ws_callV cx (rest := [.int q53.1]) (st' := [.int q60.1, .int q53.1]) (kX10_reading l D b h61) mvX10_reading (ck_k h62) (by decide) (q := (RX10, TX10, 31)) rfl seX10_reading lkL_35 rfl ⟨by decide, by decide⟩ (Nat.le_of_ble_eq_true rfl) ⟨rfl, rfl⟩ (Or.inl ⟨rfl, rfl⟩) rfl rfl dL_law_223 ?_
                  refine ws_icmp_eq cx dL_law_226 (tgt := 597) (by decide) (fun c63 => ?_) (fun c63 => ?_)
                  · have hM := if_t hM c63
                    refine ws_sub [0, 1, 2, 3] (lv' := [(0, .ref b0), (1, .ref (b + x1)), (2, .ref (b + x2)), (3, .int x3)]) rfl ?_
                    exact J597 _ ih _ _ _ _ _ hM
                  · have hM := if_f hM c63
                    refine ws_sub [] (lv' := []) rfl ?_
                    exact J229 _ _ hM
                · have hM := if_f hM c48
                  by_cases c64 : v2 &&& (31 : Int32) = (5 : Int32)
                  · have hM := if_t hM c64
                    refine ws_tabIn cx dL_law_33 (tgt := 231) (by rw [c64]; decide) (by rw [c64]; decide) (by rw [c64]; rfl) (by decide) ?_
                    refine ws_aload_n cx dL_law_231 rfl (j := 1) rfl ?_
                    refine ws_aload_n cx dL_law_232 rfl (j := 0) rfl ?_
                    refine ws_iload_n cx dL_law_233 rfl (j := 3) rfl ?_
                    refine ws_iconst cx dL_law_234 (v := 1) (by decide) ?_
                    refine ws_iadd cx dL_law_235 ?_
                    obtain ⟨v65, h66, hM⟩ := bnd hM
                    refine ws_sld cx xx h66 dL_law_236 ?_
                    refine ws_aload_n cx dL_law_237 rfl (j := 0) rfl ?_
                    refine ws_iload_n cx dL_law_238 rfl (j := 3) rfl ?_
                    refine ws_iconst cx dL_law_239 (v := 2) (by decide) ?_
                    refine ws_iadd cx dL_law_240 ?_
                    obtain ⟨v67, h68, hM⟩ := bnd hM
                    refine ws_sld cx xx h68 dL_law_241 ?_
                    obtain ⟨_, h71, hM⟩ := bnd hM
                    obtain ⟨q69, h70, hM⟩ := bnd hM
                    refine ws_callV cx (rest := []) (st' := [.int q69.1]) (kX9_hears l D b h70) mvX9_hears (ck_k h71) (by decide) (q := (RX9, TX9, 11)) rfl seX9_hears lkL_36 rfl ⟨by decide, by decide⟩ (Nat.le_of_ble_eq_true rfl) ⟨rfl, rfl⟩ (Or.inl ⟨rfl, rfl⟩) rfl rfl dL_law_242 ?_
                    refine ws_aload_n cx dL_law_245 rfl (j := 2) rfl ?_
                    refine ws_aload_n cx dL_law_246 rfl (j := 0) rfl ?_
                    refine ws_iload_n cx dL_law_247 rfl (j := 3) rfl ?_
                    refine ws_iconst cx dL_law_248 (v := 1) (by decide) ?_
                    refine ws_iadd cx dL_law_249 ?_
                    obtain ⟨v72, h73, hM⟩ := bnd hM
                    refine ws_sld cx xx h73 dL_law_250 ?_
                    refine ws_aload_n cx dL_law_251 rfl (j := 0) rfl ?_
                    refine ws_iload_n cx dL_law_252 rfl (j := 3) rfl ?_
                    refine ws_iconst cx dL_law_253 (v := 2) (by decide) ?_
                    refine ws_iadd cx dL_law_254 ?_
                    obtain ⟨v74, h75, hM⟩ := bnd hM
                    refine ws_sld cx xx h75 dL_law_255 ?_
                    obtain ⟨_, h78, hM⟩ := bnd hM
                    obtain ⟨q76, h77, hM⟩ := bnd hM
                    refine ws_callV cx (rest := [.int q69.1]) (st' := [.int q76.1, .int q69.1]) (kX10_hears l D b h77) mvX10_hears (ck_k h78) (by decide) (q := (RX10, TX10, 31)) rfl seX10_hears lkL_39 rfl ⟨by decide, by decide⟩ (Nat.le_of_ble_eq_true rfl) ⟨rfl, rfl⟩ (Or.inl ⟨rfl, rfl⟩) rfl rfl dL_law_256 ?_
                    refine ws_icmp_eq cx dL_law_259 (tgt := 597) (by decide) (fun c79 => ?_) (fun c79 => ?_)
                    · have hM := if_t hM c79
                      refine ws_sub [0, 1, 2, 3] (lv' := [(0, .ref b0), (1, .ref (b + x1)), (2, .ref (b + x2)), (3, .int x3)]) rfl ?_
                      exact J597 _ ih _ _ _ _ _ hM
                    · have hM := if_f hM c79
                      refine ws_sub [] (lv' := []) rfl ?_
                      exact J262 _ _ hM
                  · have hM := if_f hM c64
                    by_cases c80 : v2 &&& (31 : Int32) = (6 : Int32)
                    · have hM := if_t hM c80
                      refine ws_tabIn cx dL_law_33 (tgt := 264) (by rw [c80]; decide) (by rw [c80]; decide) (by rw [c80]; rfl) (by decide) ?_
                      refine ws_aload_n cx dL_law_264 rfl (j := 1) rfl ?_
                      refine ws_aload_n cx dL_law_265 rfl (j := 0) rfl ?_
                      refine ws_iload_n cx dL_law_266 rfl (j := 3) rfl ?_
                      refine ws_iconst cx dL_law_267 (v := 1) (by decide) ?_
                      refine ws_iadd cx dL_law_268 ?_
                      obtain ⟨v81, h82, hM⟩ := bnd hM
                      refine ws_sld cx xx h82 dL_law_269 ?_
                      obtain ⟨_, h85, hM⟩ := bnd hM
                      obtain ⟨q83, h84, hM⟩ := bnd hM
                      refine ws_callV cx (rest := []) (st' := [.int q83.1]) (kX9_strikes l D b h84) mvX9_strikes (ck_k h85) (by decide) (q := (RX9, TX9, 11)) rfl seX9_strikes lkL_40 rfl ⟨by decide, by decide⟩ (Nat.le_of_ble_eq_true rfl) ⟨rfl, rfl⟩ (Or.inl ⟨rfl, rfl⟩) rfl rfl dL_law_270 ?_
                      refine ws_aload_n cx dL_law_273 rfl (j := 2) rfl ?_
                      refine ws_aload_n cx dL_law_274 rfl (j := 0) rfl ?_
                      refine ws_iload_n cx dL_law_275 rfl (j := 3) rfl ?_
                      refine ws_iconst cx dL_law_276 (v := 1) (by decide) ?_
                      refine ws_iadd cx dL_law_277 ?_
                      obtain ⟨v86, h87, hM⟩ := bnd hM
                      refine ws_sld cx xx h87 dL_law_278 ?_
                      obtain ⟨_, h90, hM⟩ := bnd hM
                      obtain ⟨q88, h89, hM⟩ := bnd hM
                      refine ws_callV cx (rest := [.int q83.1]) (st' := [.int q88.1, .int q83.1]) (kX10_strikes l D b h89) mvX10_strikes (ck_k h90) (by decide) (q := (RX10, TX10, 31)) rfl seX10_strikes lkL_43 rfl ⟨by decide, by decide⟩ (Nat.le_of_ble_eq_true rfl) ⟨rfl, rfl⟩ (Or.inl ⟨rfl, rfl⟩) rfl rfl dL_law_279 ?_
                      refine ws_icmp_eq cx dL_law_282 (tgt := 597) (by decide) (fun c91 => ?_) (fun c91 => ?_)
                      · have hM := if_t hM c91
                        refine ws_sub [0, 1, 2, 3] (lv' := [(0, .ref b0), (1, .ref (b + x1)), (2, .ref (b + x2)), (3, .int x3)]) rfl ?_
                        exact J597 _ ih _ _ _ _ _ hM
                      · have hM := if_f hM c91
                        refine ws_sub [] (lv' := []) rfl ?_
                        exact J285 _ _ hM
                    · have hM := if_f hM c80
                      by_cases c92 : v2 &&& (31 : Int32) = (7 : Int32)
                      · have hM := if_t hM c92
                        refine ws_tabIn cx dL_law_33 (tgt := 287) (by rw [c92]; decide) (by rw [c92]; decide) (by rw [c92]; rfl) (by decide) ?_
                        refine ws_aload_n cx dL_law_287 rfl (j := 1) rfl ?_
                        refine ws_aload_n cx dL_law_288 rfl (j := 0) rfl ?_
                        refine ws_iload_n cx dL_law_289 rfl (j := 3) rfl ?_
                        refine ws_iconst cx dL_law_290 (v := 1) (by decide) ?_
                        refine ws_iadd cx dL_law_291 ?_
                        obtain ⟨v93, h94, hM⟩ := bnd hM
                        refine ws_sld cx xx h94 dL_law_292 ?_
                        refine ws_aload_n cx dL_law_293 rfl (j := 0) rfl ?_
                        refine ws_iload_n cx dL_law_294 rfl (j := 3) rfl ?_
                        refine ws_iconst cx dL_law_295 (v := 2) (by decide) ?_
                        refine ws_iadd cx dL_law_296 ?_
                        obtain ⟨v95, h96, hM⟩ := bnd hM
                        refine ws_sld cx xx h96 dL_law_297 ?_
                        obtain ⟨_, h99, hM⟩ := bnd hM
                        obtain ⟨q97, h98, hM⟩ := bnd hM
                        refine ws_callV cx (rest := []) (st' := [.int q97.1]) (kX9_sets l D b h98) mvX9_sets (ck_k h99) (by decide) (q := (RX9, TX9, 11)) rfl seX9_sets lkL_44 rfl ⟨by decide, by decide⟩ (Nat.le_of_ble_eq_true rfl) ⟨rfl, rfl⟩ (Or.inl ⟨rfl, rfl⟩) rfl rfl dL_law_298 ?_
                        refine ws_aload_n cx dL_law_301 rfl (j := 2) rfl ?_
                        refine ws_aload_n cx dL_law_302 rfl (j := 0) rfl ?_
                        refine ws_iload_n cx dL_law_303 rfl (j := 3) rfl ?_
                        refine ws_iconst cx dL_law_304 (v := 1) (by decide) ?_
                        refine ws_iadd cx dL_law_305 ?_
                        obtain ⟨v100, h101, hM⟩ := bnd hM
                        refine ws_sld cx xx h101 dL_law_306 ?_
                        refine ws_aload_n cx dL_law_307 rfl (j := 0) rfl ?_
                        refine ws_iload_n cx dL_law_308 rfl (j := 3) rfl ?_
                        refine ws_iconst cx dL_law_309 (v := 2) (by decide) ?_
                        refine ws_iadd cx dL_law_310 ?_
                        obtain ⟨v102, h103, hM⟩ := bnd hM
                        refine ws_sld cx xx h103 dL_law_311 ?_
                        obtain ⟨_, h106, hM⟩ := bnd hM
                        obtain ⟨q104, h105, hM⟩ := bnd hM
                        refine ws_callV cx (rest := [.int q97.1]) (st' := [.int q104.1, .int q97.1]) (kX10_sets l D b h105) mvX10_sets (ck_k h106) (by decide) (q := (RX10, TX10, 31)) rfl seX10_sets lkL_47 rfl ⟨by decide, by decide⟩ (Nat.le_of_ble_eq_true rfl) ⟨rfl, rfl⟩ (Or.inl ⟨rfl, rfl⟩) rfl rfl dL_law_312 ?_
                        refine ws_icmp_eq cx dL_law_315 (tgt := 597) (by decide) (fun c107 => ?_) (fun c107 => ?_)
                        · have hM := if_t hM c107
                          refine ws_sub [0, 1, 2, 3] (lv' := [(0, .ref b0), (1, .ref (b + x1)), (2, .ref (b + x2)), (3, .int x3)]) rfl ?_
                          exact J597 _ ih _ _ _ _ _ hM
                        · have hM := if_f hM c107
                          refine ws_sub [] (lv' := []) rfl ?_
                          exact J318 _ _ hM
                      · have hM := if_f hM c92
                        by_cases c108 : v2 &&& (31 : Int32) = (8 : Int32)
                        · have hM := if_t hM c108
                          refine ws_tabIn cx dL_law_33 (tgt := 320) (by rw [c108]; decide) (by rw [c108]; decide) (by rw [c108]; rfl) (by decide) ?_
                          refine ws_aload_n cx dL_law_320 rfl (j := 1) rfl ?_
                          obtain ⟨_, h111, hM⟩ := bnd hM
                          obtain ⟨q109, h110, hM⟩ := bnd hM
                          refine ws_callV cx (rest := []) (st' := [.int q109.1]) (kX9_undo l D b h110) mvX9_undo (ck_k h111) (by decide) (q := (RX9, TX9, 11)) rfl seX9_undo lkL_48 rfl ⟨by decide, by decide⟩ (Nat.le_of_ble_eq_true rfl) ⟨rfl, rfl⟩ (Or.inl ⟨rfl, rfl⟩) rfl rfl dL_law_321 ?_
                          refine ws_aload_n cx dL_law_324 rfl (j := 2) rfl ?_
                          obtain ⟨_, h114, hM⟩ := bnd hM
                          obtain ⟨q112, h113, hM⟩ := bnd hM
                          refine ws_callV cx (rest := [.int q109.1]) (st' := [.int q112.1, .int q109.1]) (kX10_undo l D b h113) mvX10_undo (ck_k h114) (by decide) (q := (RX10, TX10, 31)) rfl seX10_undo lkL_51 rfl ⟨by decide, by decide⟩ (Nat.le_of_ble_eq_true rfl) ⟨rfl, rfl⟩ (Or.inl ⟨rfl, rfl⟩) rfl rfl dL_law_325 ?_
                          refine ws_icmp_eq cx dL_law_328 (tgt := 597) (by decide) (fun c115 => ?_) (fun c115 => ?_)
                          · have hM := if_t hM c115
                            refine ws_sub [0, 1, 2, 3] (lv' := [(0, .ref b0), (1, .ref (b + x1)), (2, .ref (b + x2)), (3, .int x3)]) rfl ?_
                            exact J597 _ ih _ _ _ _ _ hM
                          · have hM := if_f hM c115
                            refine ws_sub [] (lv' := []) rfl ?_
                            exact J331 _ _ hM
                        · have hM := if_f hM c108
                          by_cases c116 : v2 &&& (31 : Int32) = (9 : Int32)
                          · have hM := if_t hM c116
                            refine ws_tabIn cx dL_law_33 (tgt := 333) (by rw [c116]; decide) (by rw [c116]; decide) (by rw [c116]; rfl) (by decide) ?_
                            refine ws_aload_n cx dL_law_333 rfl (j := 1) rfl ?_
                            refine ws_aload_n cx dL_law_334 rfl (j := 0) rfl ?_
                            refine ws_iload_n cx dL_law_335 rfl (j := 3) rfl ?_
                            refine ws_iconst cx dL_law_336 (v := 1) (by decide) ?_
                            refine ws_iadd cx dL_law_337 ?_
                            obtain ⟨v117, h118, hM⟩ := bnd hM
                            refine ws_sld cx xx h118 dL_law_338 ?_
                            refine ws_aload_n cx dL_law_339 rfl (j := 0) rfl ?_
                            refine ws_iload_n cx dL_law_340 rfl (j := 3) rfl ?_
                            refine ws_iconst cx dL_law_341 (v := 2) (by decide) ?_
                            refine ws_iadd cx dL_law_342 ?_
                            obtain ⟨v119, h120, hM⟩ := bnd hM
                            refine ws_sld cx xx h120 dL_law_343 ?_
                            obtain ⟨_, h123, hM⟩ := bnd hM
                            obtain ⟨q121, h122, hM⟩ := bnd hM
                            refine ws_callV cx (rest := []) (st' := [.int q121.1]) (kX9_group l D b h122) mvX9_group (ck_k h123) (by decide) (q := (RX9, TX9, 11)) rfl seX9_group lkL_52 rfl ⟨by decide, by decide⟩ (Nat.le_of_ble_eq_true rfl) ⟨rfl, rfl⟩ (Or.inl ⟨rfl, rfl⟩) rfl rfl dL_law_344 ?_
                            refine ws_aload_n cx dL_law_347 rfl (j := 2) rfl ?_
                            refine ws_aload_n cx dL_law_348 rfl (j := 0) rfl ?_
                            refine ws_iload_n cx dL_law_349 rfl (j := 3) rfl ?_
                            refine ws_iconst cx dL_law_350 (v := 1) (by decide) ?_
                            refine ws_iadd cx dL_law_351 ?_
                            obtain ⟨v124, h125, hM⟩ := bnd hM
                            refine ws_sld cx xx h125 dL_law_352 ?_
                            refine ws_aload_n cx dL_law_353 rfl (j := 0) rfl ?_
                            refine ws_iload_n cx dL_law_354 rfl (j := 3) rfl ?_
                            refine ws_iconst cx dL_law_355 (v := 2) (by decide) ?_
                            refine ws_iadd cx dL_law_356 ?_
                            obtain ⟨v126, h127, hM⟩ := bnd hM
                            refine ws_sld cx xx h127 dL_law_357 ?_
                            obtain ⟨_, h130, hM⟩ := bnd hM
                            obtain ⟨q128, h129, hM⟩ := bnd hM
                            refine ws_callV cx (rest := [.int q121.1]) (st' := [.int q128.1, .int q121.1]) (kX10_group l D b h129) mvX10_group (ck_k h130) (by decide) (q := (RX10, TX10, 31)) rfl seX10_group lkL_55 rfl ⟨by decide, by decide⟩ (Nat.le_of_ble_eq_true rfl) ⟨rfl, rfl⟩ (Or.inl ⟨rfl, rfl⟩) rfl rfl dL_law_358 ?_
                            refine ws_icmp_eq cx dL_law_361 (tgt := 597) (by decide) (fun c131 => ?_) (fun c131 => ?_)
                            · have hM := if_t hM c131
                              refine ws_sub [0, 1, 2, 3] (lv' := [(0, .ref b0), (1, .ref (b + x1)), (2, .ref (b + x2)), (3, .int x3)]) rfl ?_
                              exact J597 _ ih _ _ _ _ _ hM
                            · have hM := if_f hM c131
                              refine ws_sub [] (lv' := []) rfl ?_
                              exact J364 _ _ hM
                          · have hM := if_f hM c116
                            by_cases c132 : v2 &&& (31 : Int32) = (10 : Int32)
                            · have hM := if_t hM c132
                              refine ws_tabIn cx dL_law_33 (tgt := 366) (by rw [c132]; decide) (by rw [c132]; decide) (by rw [c132]; rfl) (by decide) ?_
                              refine ws_aload_n cx dL_law_366 rfl (j := 1) rfl ?_
                              refine ws_aload_n cx dL_law_367 rfl (j := 0) rfl ?_
                              refine ws_iload_n cx dL_law_368 rfl (j := 3) rfl ?_
                              refine ws_iconst cx dL_law_369 (v := 1) (by decide) ?_
                              refine ws_iadd cx dL_law_370 ?_
                              obtain ⟨v133, h134, hM⟩ := bnd hM
                              refine ws_sld cx xx h134 dL_law_371 ?_
                              refine ws_aload_n cx dL_law_372 rfl (j := 0) rfl ?_
                              refine ws_iload_n cx dL_law_373 rfl (j := 3) rfl ?_
                              refine ws_iconst cx dL_law_374 (v := 2) (by decide) ?_
                              refine ws_iadd cx dL_law_375 ?_
                              obtain ⟨v135, h136, hM⟩ := bnd hM
                              refine ws_sld cx xx h136 dL_law_376 ?_
                              obtain ⟨_, h139, hM⟩ := bnd hM
                              obtain ⟨q137, h138, hM⟩ := bnd hM
                              refine ws_callV cx (rest := []) (st' := [.int q137.1]) (kX9_place l D b h138) mvX9_place (ck_k h139) (by decide) (q := (RX9, TX9, 11)) rfl seX9_place lkL_56 rfl ⟨by decide, by decide⟩ (Nat.le_of_ble_eq_true rfl) ⟨rfl, rfl⟩ (Or.inl ⟨rfl, rfl⟩) rfl rfl dL_law_377 ?_
                              refine ws_aload_n cx dL_law_380 rfl (j := 2) rfl ?_
                              refine ws_aload_n cx dL_law_381 rfl (j := 0) rfl ?_
                              refine ws_iload_n cx dL_law_382 rfl (j := 3) rfl ?_
                              refine ws_iconst cx dL_law_383 (v := 1) (by decide) ?_
                              refine ws_iadd cx dL_law_384 ?_
                              obtain ⟨v140, h141, hM⟩ := bnd hM
                              refine ws_sld cx xx h141 dL_law_385 ?_
                              refine ws_aload_n cx dL_law_386 rfl (j := 0) rfl ?_
                              refine ws_iload_n cx dL_law_387 rfl (j := 3) rfl ?_
                              refine ws_iconst cx dL_law_388 (v := 2) (by decide) ?_
                              refine ws_iadd cx dL_law_389 ?_
                              obtain ⟨v142, h143, hM⟩ := bnd hM
                              refine ws_sld cx xx h143 dL_law_390 ?_
                              obtain ⟨_, h146, hM⟩ := bnd hM
                              obtain ⟨q144, h145, hM⟩ := bnd hM
                              refine ws_callV cx (rest := [.int q137.1]) (st' := [.int q144.1, .int q137.1]) (kX10_place l D b h145) mvX10_place (ck_k h146) (by decide) (q := (RX10, TX10, 31)) rfl seX10_place lkL_59 rfl ⟨by decide, by decide⟩ (Nat.le_of_ble_eq_true rfl) ⟨rfl, rfl⟩ (Or.inl ⟨rfl, rfl⟩) rfl rfl dL_law_391 ?_
                              refine ws_icmp_eq cx dL_law_394 (tgt := 597) (by decide) (fun c147 => ?_) (fun c147 => ?_)
                              · have hM := if_t hM c147
                                refine ws_sub [0, 1, 2, 3] (lv' := [(0, .ref b0), (1, .ref (b + x1)), (2, .ref (b + x2)), (3, .int x3)]) rfl ?_
                                exact J597 _ ih _ _ _ _ _ hM
                              · have hM := if_f hM c147
                                refine ws_sub [] (lv' := []) rfl ?_
                                exact J397 _ _ hM
                            · have hM := if_f hM c132
                              by_cases c148 : v2 &&& (31 : Int32) = (11 : Int32)
                              · have hM := if_t hM c148
                                refine ws_tabIn cx dL_law_33 (tgt := 399) (by rw [c148]; decide) (by rw [c148]; decide) (by rw [c148]; rfl) (by decide) ?_
                                refine ws_aload_n cx dL_law_399 rfl (j := 1) rfl ?_
                                refine ws_aload_n cx dL_law_400 rfl (j := 0) rfl ?_
                                refine ws_iload_n cx dL_law_401 rfl (j := 3) rfl ?_
                                refine ws_iconst cx dL_law_402 (v := 1) (by decide) ?_
                                refine ws_iadd cx dL_law_403 ?_
                                obtain ⟨v149, h150, hM⟩ := bnd hM
                                refine ws_sld cx xx h150 dL_law_404 ?_
                                obtain ⟨_, h153, hM⟩ := bnd hM
                                obtain ⟨q151, h152, hM⟩ := bnd hM
                                refine ws_callV cx (rest := []) (st' := [.int q151.1]) (kX9_verdict l D b h152) mvX9_verdict (ck_k h153) (by decide) (q := (RX9, TX9, 11)) rfl seX9_verdict lkL_60 rfl ⟨by decide, by decide⟩ (Nat.le_of_ble_eq_true rfl) ⟨rfl, rfl⟩ (Or.inl ⟨rfl, rfl⟩) rfl rfl dL_law_405 ?_
                                refine ws_aload_n cx dL_law_408 rfl (j := 2) rfl ?_
                                refine ws_aload_n cx dL_law_409 rfl (j := 0) rfl ?_
                                refine ws_iload_n cx dL_law_410 rfl (j := 3) rfl ?_
                                refine ws_iconst cx dL_law_411 (v := 1) (by decide) ?_
                                refine ws_iadd cx dL_law_412 ?_
                                obtain ⟨v154, h155, hM⟩ := bnd hM
                                refine ws_sld cx xx h155 dL_law_413 ?_
                                obtain ⟨_, h158, hM⟩ := bnd hM
                                obtain ⟨q156, h157, hM⟩ := bnd hM
                                refine ws_callV cx (rest := [.int q151.1]) (st' := [.int q156.1, .int q151.1]) (kX10_verdict l D b h157) mvX10_verdict (ck_k h158) (by decide) (q := (RX10, TX10, 31)) rfl seX10_verdict lkL_63 rfl ⟨by decide, by decide⟩ (Nat.le_of_ble_eq_true rfl) ⟨rfl, rfl⟩ (Or.inl ⟨rfl, rfl⟩) rfl rfl dL_law_414 ?_
                                refine ws_icmp_eq cx dL_law_417 (tgt := 597) (by decide) (fun c159 => ?_) (fun c159 => ?_)
                                · have hM := if_t hM c159
                                  refine ws_sub [0, 1, 2, 3] (lv' := [(0, .ref b0), (1, .ref (b + x1)), (2, .ref (b + x2)), (3, .int x3)]) rfl ?_
                                  exact J597 _ ih _ _ _ _ _ hM
                                · have hM := if_f hM c159
                                  refine ws_sub [] (lv' := []) rfl ?_
                                  exact J420 _ _ hM
                              · have hM := if_f hM c148
                                by_cases c160 : v2 &&& (31 : Int32) = (12 : Int32)
                                · have hM := if_t hM c160
                                  refine ws_tabIn cx dL_law_33 (tgt := 422) (by rw [c160]; decide) (by rw [c160]; decide) (by rw [c160]; rfl) (by decide) ?_
                                  refine ws_aload_n cx dL_law_422 rfl (j := 1) rfl ?_
                                  refine ws_aload_n cx dL_law_423 rfl (j := 0) rfl ?_
                                  refine ws_iload_n cx dL_law_424 rfl (j := 3) rfl ?_
                                  refine ws_iconst cx dL_law_425 (v := 1) (by decide) ?_
                                  refine ws_iadd cx dL_law_426 ?_
                                  obtain ⟨v161, h162, hM⟩ := bnd hM
                                  refine ws_sld cx xx h162 dL_law_427 ?_
                                  refine ws_aload_n cx dL_law_428 rfl (j := 0) rfl ?_
                                  refine ws_iload_n cx dL_law_429 rfl (j := 3) rfl ?_
                                  refine ws_iconst cx dL_law_430 (v := 2) (by decide) ?_
                                  refine ws_iadd cx dL_law_431 ?_
                                  obtain ⟨v163, h164, hM⟩ := bnd hM
                                  refine ws_sld cx xx h164 dL_law_432 ?_
                                  refine ws_aload_n cx dL_law_433 rfl (j := 0) rfl ?_
                                  refine ws_iload_n cx dL_law_434 rfl (j := 3) rfl ?_
                                  refine ws_iconst cx dL_law_435 (v := 3) (by decide) ?_
                                  refine ws_iadd cx dL_law_436 ?_
                                  obtain ⟨v165, h166, hM⟩ := bnd hM
                                  refine ws_sld cx xx h166 dL_law_437 ?_
                                  refine ws_aload_n cx dL_law_438 rfl (j := 0) rfl ?_
                                  refine ws_iload_n cx dL_law_439 rfl (j := 3) rfl ?_
                                  refine ws_iconst cx dL_law_440 (v := 4) (by decide) ?_
                                  refine ws_iadd cx dL_law_441 ?_
                                  obtain ⟨v167, h168, hM⟩ := bnd hM
                                  refine ws_sld cx xx h168 dL_law_442 ?_
                                  refine ws_aload_n cx dL_law_443 rfl (j := 0) rfl ?_
                                  refine ws_iload_n cx dL_law_444 rfl (j := 3) rfl ?_
                                  refine ws_iconst cx dL_law_445 (v := 5) (by decide) ?_
                                  refine ws_iadd cx dL_law_446 ?_
                                  obtain ⟨v169, h170, hM⟩ := bnd hM
                                  refine ws_sld cx xx h170 dL_law_447 ?_
                                  obtain ⟨_, h173, hM⟩ := bnd hM
                                  obtain ⟨q171, h172, hM⟩ := bnd hM
                                  refine ws_callV cx (rest := []) (st' := [.int q171.1]) (kX9_due l D b h172) mvX9_due (ck_k h173) (by decide) (q := (RX9, TX9, 11)) rfl seX9_due lkL_64 rfl ⟨by decide, by decide⟩ (Nat.le_of_ble_eq_true rfl) ⟨rfl, rfl⟩ (Or.inl ⟨rfl, rfl⟩) rfl rfl dL_law_448 ?_
                                  refine ws_aload_n cx dL_law_451 rfl (j := 2) rfl ?_
                                  refine ws_aload_n cx dL_law_452 rfl (j := 0) rfl ?_
                                  refine ws_iload_n cx dL_law_453 rfl (j := 3) rfl ?_
                                  refine ws_iconst cx dL_law_454 (v := 1) (by decide) ?_
                                  refine ws_iadd cx dL_law_455 ?_
                                  obtain ⟨v174, h175, hM⟩ := bnd hM
                                  refine ws_sld cx xx h175 dL_law_456 ?_
                                  refine ws_aload_n cx dL_law_457 rfl (j := 0) rfl ?_
                                  refine ws_iload_n cx dL_law_458 rfl (j := 3) rfl ?_
                                  refine ws_iconst cx dL_law_459 (v := 2) (by decide) ?_
                                  refine ws_iadd cx dL_law_460 ?_
                                  obtain ⟨v176, h177, hM⟩ := bnd hM
                                  refine ws_sld cx xx h177 dL_law_461 ?_
                                  refine ws_aload_n cx dL_law_462 rfl (j := 0) rfl ?_
                                  refine ws_iload_n cx dL_law_463 rfl (j := 3) rfl ?_
                                  refine ws_iconst cx dL_law_464 (v := 3) (by decide) ?_
                                  refine ws_iadd cx dL_law_465 ?_
                                  obtain ⟨v178, h179, hM⟩ := bnd hM
                                  refine ws_sld cx xx h179 dL_law_466 ?_
                                  refine ws_aload_n cx dL_law_467 rfl (j := 0) rfl ?_
                                  refine ws_iload_n cx dL_law_468 rfl (j := 3) rfl ?_
                                  refine ws_iconst cx dL_law_469 (v := 4) (by decide) ?_
                                  refine ws_iadd cx dL_law_470 ?_
                                  obtain ⟨v180, h181, hM⟩ := bnd hM
                                  refine ws_sld cx xx h181 dL_law_471 ?_
                                  refine ws_aload_n cx dL_law_472 rfl (j := 0) rfl ?_
                                  refine ws_iload_n cx dL_law_473 rfl (j := 3) rfl ?_
                                  refine ws_iconst cx dL_law_474 (v := 5) (by decide) ?_
                                  refine ws_iadd cx dL_law_475 ?_
                                  obtain ⟨v182, h183, hM⟩ := bnd hM
                                  refine ws_sld cx xx h183 dL_law_476 ?_
                                  obtain ⟨_, h186, hM⟩ := bnd hM
                                  obtain ⟨q184, h185, hM⟩ := bnd hM
                                  refine ws_callV cx (rest := [.int q171.1]) (st' := [.int q184.1, .int q171.1]) (kX10_due l D b h185) mvX10_due (ck_k h186) (by decide) (q := (RX10, TX10, 31)) rfl seX10_due lkL_68 rfl ⟨by decide, by decide⟩ (Nat.le_of_ble_eq_true rfl) ⟨rfl, rfl⟩ (Or.inl ⟨rfl, rfl⟩) rfl rfl dL_law_477 ?_
                                  refine ws_icmp_eq cx dL_law_480 (tgt := 597) (by decide) (fun c187 => ?_) (fun c187 => ?_)
                                  · have hM := if_t hM c187
                                    refine ws_sub [0, 1, 2, 3] (lv' := [(0, .ref b0), (1, .ref (b + x1)), (2, .ref (b + x2)), (3, .int x3)]) rfl ?_
                                    exact J597 _ ih _ _ _ _ _ hM
                                  · have hM := if_f hM c187
                                    refine ws_sub [] (lv' := []) rfl ?_
                                    exact J483 _ _ hM
                                · have hM := if_f hM c160
                                  by_cases c188 : v2 &&& (31 : Int32) = (13 : Int32)
                                  · have hM := if_t hM c188
                                    refine ws_tabIn cx dL_law_33 (tgt := 485) (by rw [c188]; decide) (by rw [c188]; decide) (by rw [c188]; rfl) (by decide) ?_
                                    refine ws_aload_n cx dL_law_485 rfl (j := 1) rfl ?_
                                    refine ws_aload_n cx dL_law_486 rfl (j := 0) rfl ?_
                                    refine ws_iload_n cx dL_law_487 rfl (j := 3) rfl ?_
                                    refine ws_iconst cx dL_law_488 (v := 1) (by decide) ?_
                                    refine ws_iadd cx dL_law_489 ?_
                                    obtain ⟨v189, h190, hM⟩ := bnd hM
                                    refine ws_sld cx xx h190 dL_law_490 ?_
                                    refine ws_aload_n cx dL_law_491 rfl (j := 0) rfl ?_
                                    refine ws_iload_n cx dL_law_492 rfl (j := 3) rfl ?_
                                    refine ws_iconst cx dL_law_493 (v := 2) (by decide) ?_
                                    refine ws_iadd cx dL_law_494 ?_
                                    obtain ⟨v191, h192, hM⟩ := bnd hM
                                    refine ws_sld cx xx h192 dL_law_495 ?_
                                    refine ws_aload_n cx dL_law_496 rfl (j := 0) rfl ?_
                                    refine ws_iload_n cx dL_law_497 rfl (j := 3) rfl ?_
                                    refine ws_iconst cx dL_law_498 (v := 3) (by decide) ?_
                                    refine ws_iadd cx dL_law_499 ?_
                                    obtain ⟨v193, h194, hM⟩ := bnd hM
                                    refine ws_sld cx xx h194 dL_law_500 ?_
                                    obtain ⟨_, h197, hM⟩ := bnd hM
                                    obtain ⟨q195, h196, hM⟩ := bnd hM
                                    refine ws_callV cx (rest := []) (st' := [.int q195.1]) (kX9_odds l D b h196) mvX9_odds (ck_k h197) (by decide) (q := (RX9, TX9, 11)) rfl seX9_odds lkL_69 rfl ⟨by decide, by decide⟩ (Nat.le_of_ble_eq_true rfl) ⟨rfl, rfl⟩ (Or.inl ⟨rfl, rfl⟩) rfl rfl dL_law_501 ?_
                                    refine ws_aload_n cx dL_law_504 rfl (j := 2) rfl ?_
                                    refine ws_aload_n cx dL_law_505 rfl (j := 0) rfl ?_
                                    refine ws_iload_n cx dL_law_506 rfl (j := 3) rfl ?_
                                    refine ws_iconst cx dL_law_507 (v := 1) (by decide) ?_
                                    refine ws_iadd cx dL_law_508 ?_
                                    obtain ⟨v198, h199, hM⟩ := bnd hM
                                    refine ws_sld cx xx h199 dL_law_509 ?_
                                    refine ws_aload_n cx dL_law_510 rfl (j := 0) rfl ?_
                                    refine ws_iload_n cx dL_law_511 rfl (j := 3) rfl ?_
                                    refine ws_iconst cx dL_law_512 (v := 2) (by decide) ?_
                                    refine ws_iadd cx dL_law_513 ?_
                                    obtain ⟨v200, h201, hM⟩ := bnd hM
                                    refine ws_sld cx xx h201 dL_law_514 ?_
                                    refine ws_aload_n cx dL_law_515 rfl (j := 0) rfl ?_
                                    refine ws_iload_n cx dL_law_516 rfl (j := 3) rfl ?_
                                    refine ws_iconst cx dL_law_517 (v := 3) (by decide) ?_
                                    refine ws_iadd cx dL_law_518 ?_
                                    obtain ⟨v202, h203, hM⟩ := bnd hM
                                    refine ws_sld cx xx h203 dL_law_519 ?_
                                    obtain ⟨_, h206, hM⟩ := bnd hM
                                    obtain ⟨q204, h205, hM⟩ := bnd hM
                                    refine ws_callV cx (rest := [.int q195.1]) (st' := [.int q204.1, .int q195.1]) (kX10_odds l D b h205) mvX10_odds (ck_k h206) (by decide) (q := (RX10, TX10, 31)) rfl seX10_odds lkL_73 rfl ⟨by decide, by decide⟩ (Nat.le_of_ble_eq_true rfl) ⟨rfl, rfl⟩ (Or.inl ⟨rfl, rfl⟩) rfl rfl dL_law_520 ?_
                                    refine ws_icmp_eq cx dL_law_523 (tgt := 597) (by decide) (fun c207 => ?_) (fun c207 => ?_)
                                    · have hM := if_t hM c207
                                      refine ws_sub [0, 1, 2, 3] (lv' := [(0, .ref b0), (1, .ref (b + x1)), (2, .ref (b + x2)), (3, .int x3)]) rfl ?_
                                      exact J597 _ ih _ _ _ _ _ hM
                                    · have hM := if_f hM c207
                                      refine ws_sub [] (lv' := []) rfl ?_
                                      exact J526 _ _ hM
                                  · have hM := if_f hM c188
                                    by_cases c208 : v2 &&& (31 : Int32) = (14 : Int32)
                                    · have hM := if_t hM c208
                                      refine ws_tabIn cx dL_law_33 (tgt := 528) (by rw [c208]; decide) (by rw [c208]; decide) (by rw [c208]; rfl) (by decide) ?_
                                      refine ws_aload_n cx dL_law_528 rfl (j := 1) rfl ?_
                                      refine ws_aload_n cx dL_law_529 rfl (j := 0) rfl ?_
                                      refine ws_iload_n cx dL_law_530 rfl (j := 3) rfl ?_
                                      refine ws_iconst cx dL_law_531 (v := 1) (by decide) ?_
                                      refine ws_iadd cx dL_law_532 ?_
                                      obtain ⟨v209, h210, hM⟩ := bnd hM
                                      refine ws_sld cx xx h210 dL_law_533 ?_
                                      obtain ⟨_, h213, hM⟩ := bnd hM
                                      obtain ⟨q211, h212, hM⟩ := bnd hM
                                      refine ws_callV cx (rest := []) (st' := [.int q211.1]) (kX9_keep l D b h212) mvX9_keep (ck_k h213) (by decide) (q := (RX9, TX9, 11)) rfl seX9_keep lkL_74 rfl ⟨by decide, by decide⟩ (Nat.le_of_ble_eq_true rfl) ⟨rfl, rfl⟩ (Or.inl ⟨rfl, rfl⟩) rfl rfl dL_law_534 ?_
                                      refine ws_aload_n cx dL_law_537 rfl (j := 2) rfl ?_
                                      refine ws_aload_n cx dL_law_538 rfl (j := 0) rfl ?_
                                      refine ws_iload_n cx dL_law_539 rfl (j := 3) rfl ?_
                                      refine ws_iconst cx dL_law_540 (v := 1) (by decide) ?_
                                      refine ws_iadd cx dL_law_541 ?_
                                      obtain ⟨v214, h215, hM⟩ := bnd hM
                                      refine ws_sld cx xx h215 dL_law_542 ?_
                                      obtain ⟨_, h218, hM⟩ := bnd hM
                                      obtain ⟨q216, h217, hM⟩ := bnd hM
                                      refine ws_callV cx (rest := [.int q211.1]) (st' := [.int q216.1, .int q211.1]) (kX10_keep l D b h217) mvX10_keep (ck_k h218) (by decide) (q := (RX10, TX10, 31)) rfl seX10_keep lkL_77 rfl ⟨by decide, by decide⟩ (Nat.le_of_ble_eq_true rfl) ⟨rfl, rfl⟩ (Or.inl ⟨rfl, rfl⟩) rfl rfl dL_law_543 ?_
                                      refine ws_icmp_eq cx dL_law_546 (tgt := 597) (by decide) (fun c219 => ?_) (fun c219 => ?_)
                                      · have hM := if_t hM c219
                                        refine ws_sub [0, 1, 2, 3] (lv' := [(0, .ref b0), (1, .ref (b + x1)), (2, .ref (b + x2)), (3, .int x3)]) rfl ?_
                                        exact J597 _ ih _ _ _ _ _ hM
                                      · have hM := if_f hM c219
                                        refine ws_sub [] (lv' := []) rfl ?_
                                        exact J549 _ _ hM
                                    · have hM := if_f hM c208
                                      by_cases c220 : v2 &&& (31 : Int32) = (15 : Int32)
                                      · have hM := if_t hM c220
                                        refine ws_tabIn cx dL_law_33 (tgt := 551) (by rw [c220]; decide) (by rw [c220]; decide) (by rw [c220]; rfl) (by decide) ?_
                                        refine ws_aload_n cx dL_law_551 rfl (j := 1) rfl ?_
                                        refine ws_aload_n cx dL_law_552 rfl (j := 0) rfl ?_
                                        refine ws_iload_n cx dL_law_553 rfl (j := 3) rfl ?_
                                        refine ws_iconst cx dL_law_554 (v := 1) (by decide) ?_
                                        refine ws_iadd cx dL_law_555 ?_
                                        obtain ⟨v221, h222, hM⟩ := bnd hM
                                        refine ws_sld cx xx h222 dL_law_556 ?_
                                        obtain ⟨_, h225, hM⟩ := bnd hM
                                        obtain ⟨q223, h224, hM⟩ := bnd hM
                                        refine ws_callV cx (rest := []) (st' := [.int q223.1]) (kX9_back l D b h224) mvX9_back (ck_k h225) (by decide) (q := (RX9, TX9, 11)) rfl seX9_back lkL_78 rfl ⟨by decide, by decide⟩ (Nat.le_of_ble_eq_true rfl) ⟨rfl, rfl⟩ (Or.inl ⟨rfl, rfl⟩) rfl rfl dL_law_557 ?_
                                        refine ws_aload_n cx dL_law_560 rfl (j := 2) rfl ?_
                                        refine ws_aload_n cx dL_law_561 rfl (j := 0) rfl ?_
                                        refine ws_iload_n cx dL_law_562 rfl (j := 3) rfl ?_
                                        refine ws_iconst cx dL_law_563 (v := 1) (by decide) ?_
                                        refine ws_iadd cx dL_law_564 ?_
                                        obtain ⟨v226, h227, hM⟩ := bnd hM
                                        refine ws_sld cx xx h227 dL_law_565 ?_
                                        obtain ⟨_, h230, hM⟩ := bnd hM
                                        obtain ⟨q228, h229, hM⟩ := bnd hM
                                        refine ws_callV cx (rest := [.int q223.1]) (st' := [.int q228.1, .int q223.1]) (kX10_back l D b h229) mvX10_back (ck_k h230) (by decide) (q := (RX10, TX10, 31)) rfl seX10_back lkL_81 rfl ⟨by decide, by decide⟩ (Nat.le_of_ble_eq_true rfl) ⟨rfl, rfl⟩ (Or.inl ⟨rfl, rfl⟩) rfl rfl dL_law_566 ?_
                                        refine ws_icmp_eq cx dL_law_569 (tgt := 597) (by decide) (fun c231 => ?_) (fun c231 => ?_)
                                        · have hM := if_t hM c231
                                          refine ws_sub [0, 1, 2, 3] (lv' := [(0, .ref b0), (1, .ref (b + x1)), (2, .ref (b + x2)), (3, .int x3)]) rfl ?_
                                          exact J597 _ ih _ _ _ _ _ hM
                                        · have hM := if_f hM c231
                                          refine ws_sub [] (lv' := []) rfl ?_
                                          exact J572 _ _ hM
                                      · have hM := if_f hM c220
                                        by_cases c232 : v2 &&& (31 : Int32) = (16 : Int32)
                                        · have hM := if_t hM c232
                                          refine ws_tabIn cx dL_law_33 (tgt := 574) (by rw [c232]; decide) (by rw [c232]; decide) (by rw [c232]; rfl) (by decide) ?_
                                          refine ws_aload_n cx dL_law_574 rfl (j := 1) rfl ?_
                                          refine ws_aload_n cx dL_law_575 rfl (j := 0) rfl ?_
                                          refine ws_iload_n cx dL_law_576 rfl (j := 3) rfl ?_
                                          refine ws_iconst cx dL_law_577 (v := 1) (by decide) ?_
                                          refine ws_iadd cx dL_law_578 ?_
                                          obtain ⟨v233, h234, hM⟩ := bnd hM
                                          refine ws_sld cx xx h234 dL_law_579 ?_
                                          obtain ⟨_, h237, hM⟩ := bnd hM
                                          obtain ⟨q235, h236, hM⟩ := bnd hM
                                          refine ws_callV cx (rest := []) (st' := [.int q235.1]) (kX9_count l D b h236) mvX9_count (ck_k h237) (by decide) (q := (RX9, TX9, 11)) rfl seX9_count lkL_82 rfl ⟨by decide, by decide⟩ (Nat.le_of_ble_eq_true rfl) ⟨rfl, rfl⟩ (Or.inl ⟨rfl, rfl⟩) rfl rfl dL_law_580 ?_
                                          refine ws_aload_n cx dL_law_583 rfl (j := 2) rfl ?_
                                          refine ws_aload_n cx dL_law_584 rfl (j := 0) rfl ?_
                                          refine ws_iload_n cx dL_law_585 rfl (j := 3) rfl ?_
                                          refine ws_iconst cx dL_law_586 (v := 1) (by decide) ?_
                                          refine ws_iadd cx dL_law_587 ?_
                                          obtain ⟨v238, h239, hM⟩ := bnd hM
                                          refine ws_sld cx xx h239 dL_law_588 ?_
                                          obtain ⟨_, h242, hM⟩ := bnd hM
                                          obtain ⟨q240, h241, hM⟩ := bnd hM
                                          refine ws_callV cx (rest := [.int q235.1]) (st' := [.int q240.1, .int q235.1]) (kX10_count l D b h241) mvX10_count (ck_k h242) (by decide) (q := (RX10, TX10, 31)) rfl seX10_count lkL_85 rfl ⟨by decide, by decide⟩ (Nat.le_of_ble_eq_true rfl) ⟨rfl, rfl⟩ (Or.inl ⟨rfl, rfl⟩) rfl rfl dL_law_589 ?_
                                          refine ws_icmp_eq cx dL_law_592 (tgt := 597) (by decide) (fun c243 => ?_) (fun c243 => ?_)
                                          · have hM := if_t hM c243
                                            refine ws_sub [0, 1, 2, 3] (lv' := [(0, .ref b0), (1, .ref (b + x1)), (2, .ref (b + x2)), (3, .int x3)]) rfl ?_
                                            exact J597 _ ih _ _ _ _ _ hM
                                          · have hM := if_f hM c243
                                            refine ws_sub [] (lv' := []) rfl ?_
                                            exact J595 _ _ hM
                                        · have hM := if_f hM c232
                                          refine ws_tabOut cx dL_law_33 (tgt := 597) (by have := lv_neT c4 (show ((0 : Int32)).toInt = 0 from rfl); have := lv_neT c16 (show ((1 : Int32)).toInt = 1 from rfl); have := lv_neT c24 (show ((2 : Int32)).toInt = 2 from rfl); have := lv_neT c32 (show ((3 : Int32)).toInt = 3 from rfl); have := lv_neT c48 (show ((4 : Int32)).toInt = 4 from rfl); have := lv_neT c64 (show ((5 : Int32)).toInt = 5 from rfl); have := lv_neT c80 (show ((6 : Int32)).toInt = 6 from rfl); have := lv_neT c92 (show ((7 : Int32)).toInt = 7 from rfl); have := lv_neT c108 (show ((8 : Int32)).toInt = 8 from rfl); have := lv_neT c116 (show ((9 : Int32)).toInt = 9 from rfl); have := lv_neT c132 (show ((10 : Int32)).toInt = 10 from rfl); have := lv_neT c148 (show ((11 : Int32)).toInt = 11 from rfl); have := lv_neT c160 (show ((12 : Int32)).toInt = 12 from rfl); have := lv_neT c188 (show ((13 : Int32)).toInt = 13 from rfl); have := lv_neT c208 (show ((14 : Int32)).toInt = 14 from rfl); have := lv_neT c220 (show ((15 : Int32)).toInt = 15 from rfl); have := lv_neT c232 (show ((16 : Int32)).toInt = 16 from rfl); omega) (by decide) ?_
                                          refine ws_sub [0, 1, 2, 3] (lv' := [(0, .ref b0), (1, .ref (b + x1)), (2, .ref (b + x2)), (3, .int x3)]) rfl ?_
                                          exact J597 _ ih _ _ _ _ _ hM
  unfold mL_law at hM
  obtain ⟨p245, h244, hM⟩ := bnd hM
  refine ws_newM cx hL ncL_7 rfl h244 dL_law_0 ?_
  refine ws_dup cx dL_law_3 rfl ?_
  obtain ⟨q246, h247, hM⟩ := bnd hM
  obtain ⟨_, h248, hM⟩ := bnd hM
  have h248 := ckC_s h248
  refine ws_callI cx (rest := [.ref (b + S0.1.length)]) (kX9_init l D b h247 h248.1) mvX9_init rfl lkL_9 rfl ⟨by decide, by decide⟩ (Nat.le_of_ble_eq_true rfl) h248.1 (Or.inr ⟨_, hL, h248.2⟩) rfl dL_law_4 ?_
  refine ws_astore_n cx dL_law_7 rfl (by decide) (lv' := [(1, .ref (b + S0.1.length)), (0, .ref b0)]) rfl ?_
  obtain ⟨p250, h249, hM⟩ := bnd hM
  refine ws_newM cx hL ncL_10 rfl h249 dL_law_8 ?_
  refine ws_dup cx dL_law_11 rfl ?_
  obtain ⟨q251, h252, hM⟩ := bnd hM
  obtain ⟨_, h253, hM⟩ := bnd hM
  have h253 := ckC_s h253
  refine ws_callI cx (rest := [.ref (b + q246.1.1.length)]) (kX10_init l D b h252 h253.1) mvX10_init rfl lkL_12 rfl ⟨by decide, by decide⟩ (Nat.le_of_ble_eq_true rfl) h253.1 (Or.inr ⟨_, hL, h253.2⟩) rfl dL_law_12 ?_
  refine ws_astore_n cx dL_law_15 rfl (by decide) (lv' := [(2, .ref (b + q246.1.1.length)), (1, .ref (b + S0.1.length)), (0, .ref b0)]) rfl ?_
  refine ws_iconst cx dL_law_16 (v := 0) (by decide) ?_
  refine ws_istore_n cx dL_law_17 rfl (by decide) (lv' := [(3, .int (0 : Int32)), (2, .ref (b + q246.1.1.length)), (1, .ref (b + S0.1.length)), (0, .ref b0)]) rfl ?_
  refine ws_sub [3, 2, 1, 0] (lv' := [(0, .ref b0), (1, .ref (b + S0.1.length)), (2, .ref (b + q246.1.1.length)), (3, .int (0 : Int32))]) rfl ?_
  exact L18 _ _ _ _ _ _ hM
