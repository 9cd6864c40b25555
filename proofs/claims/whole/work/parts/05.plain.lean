section WROWS3
variable {X : XT} {l : Launch} {D : va_G} {b : Nat} {cc : ByteArray} {nL : Nat} {own nm : String} {fr lo mc ms : Nat} {S S1 : SH} {me me1 : ME} {pc : Nat} {lv lv' : List (Nat × Value)} {st : List Value}

theorem ws_iconst (cx : CX X l D b cc nL own nm fr lo mc ms) {n : Int} {v : Int32} (d : decode cc pc = .ok (.iconst n, 1)) (hv : Int32.ofInt n = v) (k : WS X b nL S me (pc + 1) lv (.int v :: st)) : WS X b nL S me pc lv (st) := by
  obtain ⟨p, l', e, R, s, m, args, below, meth, cd, D', Q, n0, m0⟩ := X
  obtain ⟨rfl, rfl, hx, hb, hml, hown, hts, hKD, hbs, hR, hnm, hlk⟩ := cx
  exact fun H locs ls h1 h2 h3 h4 h5 => lv_iconst hx hb d hv (k H locs ls h1 h2 h3 h4 h5)

theorem ws_bipush (cx : CX X l D b cc nL own nm fr lo mc ms) {n : Int} {v : Int32} (d : decode cc pc = .ok (.bipush n, 2)) (hv : (Int8.ofInt n).toInt32 = v) (k : WS X b nL S me (pc + 2) lv (.int v :: st)) : WS X b nL S me pc lv (st) := by
  obtain ⟨p, l', e, R, s, m, args, below, meth, cd, D', Q, n0, m0⟩ := X
  obtain ⟨rfl, rfl, hx, hb, hml, hown, hts, hKD, hbs, hR, hnm, hlk⟩ := cx
  exact fun H locs ls h1 h2 h3 h4 h5 => lv_bipush hx hb d hv (k H locs ls h1 h2 h3 h4 h5)

theorem ws_sipush (cx : CX X l D b cc nL own nm fr lo mc ms) {n : Int} {v : Int32} (d : decode cc pc = .ok (.sipush n, 3)) (hv : (Int16.ofInt n).toInt32 = v) (k : WS X b nL S me (pc + 3) lv (.int v :: st)) : WS X b nL S me pc lv (st) := by
  obtain ⟨p, l', e, R, s, m, args, below, meth, cd, D', Q, n0, m0⟩ := X
  obtain ⟨rfl, rfl, hx, hb, hml, hown, hts, hKD, hbs, hR, hnm, hlk⟩ := cx
  exact fun H locs ls h1 h2 h3 h4 h5 => lv_sipush hx hb d hv (k H locs ls h1 h2 h3 h4 h5)

theorem ws_lconst (cx : CX X l D b cc nL own nm fr lo mc ms) {n : Fin 2} {v : Int64} (d : decode cc pc = .ok (.lconst n, 1)) (hv : Int64.ofNat (n : Nat) = v) (k : WS X b nL S me (pc + 1) lv (.long v :: st)) : WS X b nL S me pc lv (st) := by
  obtain ⟨p, l', e, R, s, m, args, below, meth, cd, D', Q, n0, m0⟩ := X
  obtain ⟨rfl, rfl, hx, hb, hml, hown, hts, hKD, hbs, hR, hnm, hlk⟩ := cx
  exact fun H locs ls h1 h2 h3 h4 h5 => lv_lconst hx hb d hv (k H locs ls h1 h2 h3 h4 h5)

theorem ws_ldc (cx : CX X l D b cc nL own nm fr lo mc ms) {index : Nat} {v : Int32} (hw : Cond.constant own index v ∈ lw_good) (d : decode cc pc = .ok (.ldc index, 2)) (k : WS X b nL S me (pc + 2) lv (.int v :: st)) : WS X b nL S me pc lv (st) := by
  obtain ⟨p, l', e, R, s, m, args, below, meth, cd, D', Q, n0, m0⟩ := X
  obtain ⟨rfl, rfl, hx, hb, hml, hown, hts, hKD, hbs, hR, hnm, hlk⟩ := cx
  exact fun H locs ls h1 h2 h3 h4 h5 => lv_ldc hx hb hown (hts _ hw) d (k H locs ls h1 h2 h3 h4 h5)

theorem ws_ldcw (cx : CX X l D b cc nL own nm fr lo mc ms) {index : Nat} {v : Int32} (hw : Cond.constant own index v ∈ lw_good) (d : decode cc pc = .ok (.ldc_w index, 3)) (k : WS X b nL S me (pc + 3) lv (.int v :: st)) : WS X b nL S me pc lv (st) := by
  obtain ⟨p, l', e, R, s, m, args, below, meth, cd, D', Q, n0, m0⟩ := X
  obtain ⟨rfl, rfl, hx, hb, hml, hown, hts, hKD, hbs, hR, hnm, hlk⟩ := cx
  exact fun H locs ls h1 h2 h3 h4 h5 => lv_ldcw hx hb hown (hts _ hw) d (k H locs ls h1 h2 h3 h4 h5)

theorem ws_ldc2 (cx : CX X l D b cc nL own nm fr lo mc ms) {index : Nat} {v : Int64} (hw : Cond.constantLong own index v ∈ lw_good) (d : decode cc pc = .ok (.ldc2_w index, 3)) (k : WS X b nL S me (pc + 3) lv (.long v :: st)) : WS X b nL S me pc lv (st) := by
  obtain ⟨p, l', e, R, s, m, args, below, meth, cd, D', Q, n0, m0⟩ := X
  obtain ⟨rfl, rfl, hx, hb, hml, hown, hts, hKD, hbs, hR, hnm, hlk⟩ := cx
  exact fun H locs ls h1 h2 h3 h4 h5 => lv_ldc2 hx hb hown (hts _ hw) d (k H locs ls h1 h2 h3 h4 h5)

theorem ws_iload_n (cx : CX X l D b cc nL own nm fr lo mc ms) {q : Fin 4} {i j : Nat} {x : Int32} (d : decode cc pc = .ok (.iload_n q, 1)) (hi : (q : Nat) = i) (hj : lv[j]? = some (i, .int x)) (k : WS X b nL S me (pc + 1) lv (.int x :: st)) : WS X b nL S me pc lv (st) := by
  obtain ⟨p, l', e, R, s, m, args, below, meth, cd, D', Q, n0, m0⟩ := X
  obtain ⟨rfl, rfl, hx, hb, hml, hown, hts, hKD, hbs, hR, hnm, hlk⟩ := cx
  exact fun H locs ls h1 h2 h3 h4 h5 => lv_iload_n hx hb d hi (lv_at h5 j hj) (k H locs ls h1 h2 h3 h4 h5)

theorem ws_iload (cx : CX X l D b cc nL own nm fr lo mc ms) {i j : Nat} {x : Int32} (d : decode cc pc = .ok (.iload i, 2)) (hj : lv[j]? = some (i, .int x)) (k : WS X b nL S me (pc + 2) lv (.int x :: st)) : WS X b nL S me pc lv (st) := by
  obtain ⟨p, l', e, R, s, m, args, below, meth, cd, D', Q, n0, m0⟩ := X
  obtain ⟨rfl, rfl, hx, hb, hml, hown, hts, hKD, hbs, hR, hnm, hlk⟩ := cx
  exact fun H locs ls h1 h2 h3 h4 h5 => lv_iload hx hb d (lv_at h5 j hj) (k H locs ls h1 h2 h3 h4 h5)

theorem ws_lload_n (cx : CX X l D b cc nL own nm fr lo mc ms) {q : Fin 4} {i j : Nat} {x : Int64} (d : decode cc pc = .ok (.lload_n q, 1)) (hi : (q : Nat) = i) (hj : lv[j]? = some (i, .long x)) (k : WS X b nL S me (pc + 1) lv (.long x :: st)) : WS X b nL S me pc lv (st) := by
  obtain ⟨p, l', e, R, s, m, args, below, meth, cd, D', Q, n0, m0⟩ := X
  obtain ⟨rfl, rfl, hx, hb, hml, hown, hts, hKD, hbs, hR, hnm, hlk⟩ := cx
  exact fun H locs ls h1 h2 h3 h4 h5 => lv_lload_n hx hb d hi (lv_at h5 j hj) (k H locs ls h1 h2 h3 h4 h5)

theorem ws_lload (cx : CX X l D b cc nL own nm fr lo mc ms) {i j : Nat} {x : Int64} (d : decode cc pc = .ok (.lload i, 2)) (hj : lv[j]? = some (i, .long x)) (k : WS X b nL S me (pc + 2) lv (.long x :: st)) : WS X b nL S me pc lv (st) := by
  obtain ⟨p, l', e, R, s, m, args, below, meth, cd, D', Q, n0, m0⟩ := X
  obtain ⟨rfl, rfl, hx, hb, hml, hown, hts, hKD, hbs, hR, hnm, hlk⟩ := cx
  exact fun H locs ls h1 h2 h3 h4 h5 => lv_lload hx hb d (lv_at h5 j hj) (k H locs ls h1 h2 h3 h4 h5)

theorem ws_aload_n (cx : CX X l D b cc nL own nm fr lo mc ms) {q : Fin 4} {i j : Nat} {x : Nat} (d : decode cc pc = .ok (.aload_n q, 1)) (hi : (q : Nat) = i) (hj : lv[j]? = some (i, .ref x)) (k : WS X b nL S me (pc + 1) lv (.ref x :: st)) : WS X b nL S me pc lv (st) := by
  obtain ⟨p, l', e, R, s, m, args, below, meth, cd, D', Q, n0, m0⟩ := X
  obtain ⟨rfl, rfl, hx, hb, hml, hown, hts, hKD, hbs, hR, hnm, hlk⟩ := cx
  exact fun H locs ls h1 h2 h3 h4 h5 => lv_aload_n hx hb d hi (lv_at h5 j hj) (k H locs ls h1 h2 h3 h4 h5)

theorem ws_aload (cx : CX X l D b cc nL own nm fr lo mc ms) {i j : Nat} {x : Nat} (d : decode cc pc = .ok (.aload i, 2)) (hj : lv[j]? = some (i, .ref x)) (k : WS X b nL S me (pc + 2) lv (.ref x :: st)) : WS X b nL S me pc lv (st) := by
  obtain ⟨p, l', e, R, s, m, args, below, meth, cd, D', Q, n0, m0⟩ := X
  obtain ⟨rfl, rfl, hx, hb, hml, hown, hts, hKD, hbs, hR, hnm, hlk⟩ := cx
  exact fun H locs ls h1 h2 h3 h4 h5 => lv_aload hx hb d (lv_at h5 j hj) (k H locs ls h1 h2 h3 h4 h5)

theorem ws_istore_n (cx : CX X l D b cc nL own nm fr lo mc ms) {q : Fin 4} {i : Nat} {x : Int32} (d : decode cc pc = .ok (.istore_n q, 1)) (hi : (q : Nat) = i) (hn : i < nL) (hl : (i, Value.int x) :: lv.filter (fun q => !(q.1 == i) && !(q.1 + 1 == i && q.2.category == 2)) = lv') (k : WS X b nL S me (pc + 1) lv' (st)) : WS X b nL S me pc lv (.int x :: st) := by
  obtain ⟨p, l', e, R, s, m, args, below, meth, cd, D', Q, n0, m0⟩ := X
  obtain ⟨rfl, rfl, hx, hb, hml, hown, hts, hKD, hbs, hR, hnm, hlk⟩ := cx
  exact fun H locs ls h1 h2 h3 h4 h5 => lv_istore_n hx hb d hi h5 hn hl (fun ls' h6 => k H locs ls' h1 h2 h3 h4 h6)

theorem ws_istore (cx : CX X l D b cc nL own nm fr lo mc ms) {i : Nat} {x : Int32} (d : decode cc pc = .ok (.istore i, 2)) (hn : i < nL) (hl : (i, Value.int x) :: lv.filter (fun q => !(q.1 == i) && !(q.1 + 1 == i && q.2.category == 2)) = lv') (k : WS X b nL S me (pc + 2) lv' (st)) : WS X b nL S me pc lv (.int x :: st) := by
  obtain ⟨p, l', e, R, s, m, args, below, meth, cd, D', Q, n0, m0⟩ := X
  obtain ⟨rfl, rfl, hx, hb, hml, hown, hts, hKD, hbs, hR, hnm, hlk⟩ := cx
  exact fun H locs ls h1 h2 h3 h4 h5 => lv_istore hx hb d h5 hn hl (fun ls' h6 => k H locs ls' h1 h2 h3 h4 h6)

theorem ws_lstore_n (cx : CX X l D b cc nL own nm fr lo mc ms) {q : Fin 4} {i : Nat} {x : Int64} (d : decode cc pc = .ok (.lstore_n q, 1)) (hi : (q : Nat) = i) (hn : i + 1 < nL) (hl : (i, Value.long x) :: lv.filter (fun q => !(q.1 == i) && (!(q.1 == i + 1) && !(q.1 + 1 == i && q.2.category == 2))) = lv') (k : WS X b nL S me (pc + 1) lv' (st)) : WS X b nL S me pc lv (.long x :: st) := by
  obtain ⟨p, l', e, R, s, m, args, below, meth, cd, D', Q, n0, m0⟩ := X
  obtain ⟨rfl, rfl, hx, hb, hml, hown, hts, hKD, hbs, hR, hnm, hlk⟩ := cx
  exact fun H locs ls h1 h2 h3 h4 h5 => lv_lstore_n hx hb d hi h5 hn hl (fun ls' h6 => k H locs ls' h1 h2 h3 h4 h6)

theorem ws_lstore (cx : CX X l D b cc nL own nm fr lo mc ms) {i : Nat} {x : Int64} (d : decode cc pc = .ok (.lstore i, 2)) (hn : i + 1 < nL) (hl : (i, Value.long x) :: lv.filter (fun q => !(q.1 == i) && (!(q.1 == i + 1) && !(q.1 + 1 == i && q.2.category == 2))) = lv') (k : WS X b nL S me (pc + 2) lv' (st)) : WS X b nL S me pc lv (.long x :: st) := by
  obtain ⟨p, l', e, R, s, m, args, below, meth, cd, D', Q, n0, m0⟩ := X
  obtain ⟨rfl, rfl, hx, hb, hml, hown, hts, hKD, hbs, hR, hnm, hlk⟩ := cx
  exact fun H locs ls h1 h2 h3 h4 h5 => lv_lstore hx hb d h5 hn hl (fun ls' h6 => k H locs ls' h1 h2 h3 h4 h6)

theorem ws_astore_n (cx : CX X l D b cc nL own nm fr lo mc ms) {q : Fin 4} {i : Nat} {x : Nat} (d : decode cc pc = .ok (.astore_n q, 1)) (hi : (q : Nat) = i) (hn : i < nL) (hl : (i, Value.ref x) :: lv.filter (fun q => !(q.1 == i) && !(q.1 + 1 == i && q.2.category == 2)) = lv') (k : WS X b nL S me (pc + 1) lv' (st)) : WS X b nL S me pc lv (.ref x :: st) := by
  obtain ⟨p, l', e, R, s, m, args, below, meth, cd, D', Q, n0, m0⟩ := X
  obtain ⟨rfl, rfl, hx, hb, hml, hown, hts, hKD, hbs, hR, hnm, hlk⟩ := cx
  exact fun H locs ls h1 h2 h3 h4 h5 => lv_astore_n hx hb d hi h5 hn hl (fun ls' h6 => k H locs ls' h1 h2 h3 h4 h6)

theorem ws_astore (cx : CX X l D b cc nL own nm fr lo mc ms) {i : Nat} {x : Nat} (d : decode cc pc = .ok (.astore i, 2)) (hn : i < nL) (hl : (i, Value.ref x) :: lv.filter (fun q => !(q.1 == i) && !(q.1 + 1 == i && q.2.category == 2)) = lv') (k : WS X b nL S me (pc + 2) lv' (st)) : WS X b nL S me pc lv (.ref x :: st) := by
  obtain ⟨p, l', e, R, s, m, args, below, meth, cd, D', Q, n0, m0⟩ := X
  obtain ⟨rfl, rfl, hx, hb, hml, hown, hts, hKD, hbs, hR, hnm, hlk⟩ := cx
  exact fun H locs ls h1 h2 h3 h4 h5 => lv_astore hx hb d h5 hn hl (fun ls' h6 => k H locs ls' h1 h2 h3 h4 h6)

theorem ws_iinc (cx : CX X l D b cc nL own nm fr lo mc ms) {i j : Nat} {n : Int} {x v : Int32} (d : decode cc pc = .ok (.iinc i n, 3)) (hj : lv[j]? = some (i, .int x)) (hv : x + Int32.ofInt n = v) (hn : i < nL) (hl : (i, Value.int v) :: lv.filter (fun q => !(q.1 == i) && !(q.1 + 1 == i && q.2.category == 2)) = lv') (k : WS X b nL S me (pc + 3) lv' (st)) : WS X b nL S me pc lv (st) := by
  obtain ⟨p, l', e, R, s, m, args, below, meth, cd, D', Q, n0, m0⟩ := X
  obtain ⟨rfl, rfl, hx, hb, hml, hown, hts, hKD, hbs, hR, hnm, hlk⟩ := cx
  exact fun H locs ls h1 h2 h3 h4 h5 => lv_iinc hx hb d h5 hj hv hn hl (fun ls' h6 => k H locs ls' h1 h2 h3 h4 h6)

theorem ws_iadd (cx : CX X l D b cc nL own nm fr lo mc ms) {x y : Int32} (d : decode cc pc = .ok (.iadd, 1)) (k : WS X b nL S me (pc + 1) lv (.int (x + y) :: st)) : WS X b nL S me pc lv (.int y :: .int x :: st) := by
  obtain ⟨p, l', e, R, s, m, args, below, meth, cd, D', Q, n0, m0⟩ := X
  obtain ⟨rfl, rfl, hx, hb, hml, hown, hts, hKD, hbs, hR, hnm, hlk⟩ := cx
  exact fun H locs ls h1 h2 h3 h4 h5 => lv_iadd hx hb d (k H locs ls h1 h2 h3 h4 h5)

theorem ws_isub (cx : CX X l D b cc nL own nm fr lo mc ms) {x y : Int32} (d : decode cc pc = .ok (.isub, 1)) (k : WS X b nL S me (pc + 1) lv (.int (x - y) :: st)) : WS X b nL S me pc lv (.int y :: .int x :: st) := by
  obtain ⟨p, l', e, R, s, m, args, below, meth, cd, D', Q, n0, m0⟩ := X
  obtain ⟨rfl, rfl, hx, hb, hml, hown, hts, hKD, hbs, hR, hnm, hlk⟩ := cx
  exact fun H locs ls h1 h2 h3 h4 h5 => lv_isub hx hb d (k H locs ls h1 h2 h3 h4 h5)

theorem ws_imul (cx : CX X l D b cc nL own nm fr lo mc ms) {x y : Int32} (d : decode cc pc = .ok (.imul, 1)) (k : WS X b nL S me (pc + 1) lv (.int (x * y) :: st)) : WS X b nL S me pc lv (.int y :: .int x :: st) := by
  obtain ⟨p, l', e, R, s, m, args, below, meth, cd, D', Q, n0, m0⟩ := X
  obtain ⟨rfl, rfl, hx, hb, hml, hown, hts, hKD, hbs, hR, hnm, hlk⟩ := cx
  exact fun H locs ls h1 h2 h3 h4 h5 => lv_imul hx hb d (k H locs ls h1 h2 h3 h4 h5)

theorem ws_iand (cx : CX X l D b cc nL own nm fr lo mc ms) {x y : Int32} (d : decode cc pc = .ok (.iand, 1)) (k : WS X b nL S me (pc + 1) lv (.int (x &&& y) :: st)) : WS X b nL S me pc lv (.int y :: .int x :: st) := by
  obtain ⟨p, l', e, R, s, m, args, below, meth, cd, D', Q, n0, m0⟩ := X
  obtain ⟨rfl, rfl, hx, hb, hml, hown, hts, hKD, hbs, hR, hnm, hlk⟩ := cx
  exact fun H locs ls h1 h2 h3 h4 h5 => lv_iand hx hb d (k H locs ls h1 h2 h3 h4 h5)

theorem ws_ior (cx : CX X l D b cc nL own nm fr lo mc ms) {x y : Int32} (d : decode cc pc = .ok (.ior, 1)) (k : WS X b nL S me (pc + 1) lv (.int (x ||| y) :: st)) : WS X b nL S me pc lv (.int y :: .int x :: st) := by
  obtain ⟨p, l', e, R, s, m, args, below, meth, cd, D', Q, n0, m0⟩ := X
  obtain ⟨rfl, rfl, hx, hb, hml, hown, hts, hKD, hbs, hR, hnm, hlk⟩ := cx
  exact fun H locs ls h1 h2 h3 h4 h5 => lv_ior hx hb d (k H locs ls h1 h2 h3 h4 h5)

theorem ws_ixor (cx : CX X l D b cc nL own nm fr lo mc ms) {x y : Int32} (d : decode cc pc = .ok (.ixor, 1)) (k : WS X b nL S me (pc + 1) lv (.int (x ^^^ y) :: st)) : WS X b nL S me pc lv (.int y :: .int x :: st) := by
  obtain ⟨p, l', e, R, s, m, args, below, meth, cd, D', Q, n0, m0⟩ := X
  obtain ⟨rfl, rfl, hx, hb, hml, hown, hts, hKD, hbs, hR, hnm, hlk⟩ := cx
  exact fun H locs ls h1 h2 h3 h4 h5 => lv_ixor hx hb d (k H locs ls h1 h2 h3 h4 h5)

theorem ws_ishl (cx : CX X l D b cc nL own nm fr lo mc ms) {x y : Int32} (d : decode cc pc = .ok (.ishl, 1)) (k : WS X b nL S me (pc + 1) lv (.int (x <<< (y &&& 31)) :: st)) : WS X b nL S me pc lv (.int y :: .int x :: st) := by
  obtain ⟨p, l', e, R, s, m, args, below, meth, cd, D', Q, n0, m0⟩ := X
  obtain ⟨rfl, rfl, hx, hb, hml, hown, hts, hKD, hbs, hR, hnm, hlk⟩ := cx
  exact fun H locs ls h1 h2 h3 h4 h5 => lv_ishl hx hb d (k H locs ls h1 h2 h3 h4 h5)

theorem ws_ishr (cx : CX X l D b cc nL own nm fr lo mc ms) {x y : Int32} (d : decode cc pc = .ok (.ishr, 1)) (k : WS X b nL S me (pc + 1) lv (.int (x >>> (y &&& 31)) :: st)) : WS X b nL S me pc lv (.int y :: .int x :: st) := by
  obtain ⟨p, l', e, R, s, m, args, below, meth, cd, D', Q, n0, m0⟩ := X
  obtain ⟨rfl, rfl, hx, hb, hml, hown, hts, hKD, hbs, hR, hnm, hlk⟩ := cx
  exact fun H locs ls h1 h2 h3 h4 h5 => lv_ishr hx hb d (k H locs ls h1 h2 h3 h4 h5)

theorem ws_idiv (cx : CX X l D b cc nL own nm fr lo mc ms) {x y : Int32} (hne : ¬ y = 0) (d : decode cc pc = .ok (.idiv, 1)) (k : WS X b nL S me (pc + 1) lv (.int (x / y) :: st)) : WS X b nL S me pc lv (.int y :: .int x :: st) := by
  obtain ⟨p, l', e, R, s, m, args, below, meth, cd, D', Q, n0, m0⟩ := X
  obtain ⟨rfl, rfl, hx, hb, hml, hown, hts, hKD, hbs, hR, hnm, hlk⟩ := cx
  exact fun H locs ls h1 h2 h3 h4 h5 => lv_idiv hx hb d hne (k H locs ls h1 h2 h3 h4 h5)

theorem ws_irem (cx : CX X l D b cc nL own nm fr lo mc ms) {x y : Int32} (hne : ¬ y = 0) (d : decode cc pc = .ok (.irem, 1)) (k : WS X b nL S me (pc + 1) lv (.int (x - x / y * y) :: st)) : WS X b nL S me pc lv (.int y :: .int x :: st) := by
  obtain ⟨p, l', e, R, s, m, args, below, meth, cd, D', Q, n0, m0⟩ := X
  obtain ⟨rfl, rfl, hx, hb, hml, hown, hts, hKD, hbs, hR, hnm, hlk⟩ := cx
  exact fun H locs ls h1 h2 h3 h4 h5 => lv_irem hx hb d hne (k H locs ls h1 h2 h3 h4 h5)

theorem ws_ladd (cx : CX X l D b cc nL own nm fr lo mc ms) {x y : Int64} (d : decode cc pc = .ok (.ladd, 1)) (k : WS X b nL S me (pc + 1) lv (.long (x + y) :: st)) : WS X b nL S me pc lv (.long y :: .long x :: st) := by
  obtain ⟨p, l', e, R, s, m, args, below, meth, cd, D', Q, n0, m0⟩ := X
  obtain ⟨rfl, rfl, hx, hb, hml, hown, hts, hKD, hbs, hR, hnm, hlk⟩ := cx
  exact fun H locs ls h1 h2 h3 h4 h5 => lv_ladd hx hb d (k H locs ls h1 h2 h3 h4 h5)

theorem ws_lsub (cx : CX X l D b cc nL own nm fr lo mc ms) {x y : Int64} (d : decode cc pc = .ok (.lsub, 1)) (k : WS X b nL S me (pc + 1) lv (.long (x - y) :: st)) : WS X b nL S me pc lv (.long y :: .long x :: st) := by
  obtain ⟨p, l', e, R, s, m, args, below, meth, cd, D', Q, n0, m0⟩ := X
  obtain ⟨rfl, rfl, hx, hb, hml, hown, hts, hKD, hbs, hR, hnm, hlk⟩ := cx
  exact fun H locs ls h1 h2 h3 h4 h5 => lv_lsub hx hb d (k H locs ls h1 h2 h3 h4 h5)

theorem ws_lmul (cx : CX X l D b cc nL own nm fr lo mc ms) {x y : Int64} (d : decode cc pc = .ok (.lmul, 1)) (k : WS X b nL S me (pc + 1) lv (.long (x * y) :: st)) : WS X b nL S me pc lv (.long y :: .long x :: st) := by
  obtain ⟨p, l', e, R, s, m, args, below, meth, cd, D', Q, n0, m0⟩ := X
  obtain ⟨rfl, rfl, hx, hb, hml, hown, hts, hKD, hbs, hR, hnm, hlk⟩ := cx
  exact fun H locs ls h1 h2 h3 h4 h5 => lv_lmul hx hb d (k H locs ls h1 h2 h3 h4 h5)

theorem ws_ldiv (cx : CX X l D b cc nL own nm fr lo mc ms) {x y : Int64} (hne : ¬ y = 0) (d : decode cc pc = .ok (.ldiv, 1)) (k : WS X b nL S me (pc + 1) lv (.long (x / y) :: st)) : WS X b nL S me pc lv (.long y :: .long x :: st) := by
  obtain ⟨p, l', e, R, s, m, args, below, meth, cd, D', Q, n0, m0⟩ := X
  obtain ⟨rfl, rfl, hx, hb, hml, hown, hts, hKD, hbs, hR, hnm, hlk⟩ := cx
  exact fun H locs ls h1 h2 h3 h4 h5 => lv_ldiv hx hb d hne (k H locs ls h1 h2 h3 h4 h5)

theorem ws_lrem (cx : CX X l D b cc nL own nm fr lo mc ms) {x y : Int64} (hne : ¬ y = 0) (d : decode cc pc = .ok (.lrem, 1)) (k : WS X b nL S me (pc + 1) lv (.long (x - x / y * y) :: st)) : WS X b nL S me pc lv (.long y :: .long x :: st) := by
  obtain ⟨p, l', e, R, s, m, args, below, meth, cd, D', Q, n0, m0⟩ := X
  obtain ⟨rfl, rfl, hx, hb, hml, hown, hts, hKD, hbs, hR, hnm, hlk⟩ := cx
  exact fun H locs ls h1 h2 h3 h4 h5 => lv_lrem hx hb d hne (k H locs ls h1 h2 h3 h4 h5)

theorem ws_lneg (cx : CX X l D b cc nL own nm fr lo mc ms) {x : Int64} (d : decode cc pc = .ok (.lneg, 1)) (k : WS X b nL S me (pc + 1) lv (.long (-x) :: st)) : WS X b nL S me pc lv (.long x :: st) := by
  obtain ⟨p, l', e, R, s, m, args, below, meth, cd, D', Q, n0, m0⟩ := X
  obtain ⟨rfl, rfl, hx, hb, hml, hown, hts, hKD, hbs, hR, hnm, hlk⟩ := cx
  exact fun H locs ls h1 h2 h3 h4 h5 => lv_lneg hx hb d (k H locs ls h1 h2 h3 h4 h5)

theorem ws_ineg (cx : CX X l D b cc nL own nm fr lo mc ms) {x : Int32} (d : decode cc pc = .ok (.ineg, 1)) (k : WS X b nL S me (pc + 1) lv (.int (-x) :: st)) : WS X b nL S me pc lv (.int x :: st) := by
  obtain ⟨p, l', e, R, s, m, args, below, meth, cd, D', Q, n0, m0⟩ := X
  obtain ⟨rfl, rfl, hx, hb, hml, hown, hts, hKD, hbs, hR, hnm, hlk⟩ := cx
  exact fun H locs ls h1 h2 h3 h4 h5 => lv_ineg hx hb d (k H locs ls h1 h2 h3 h4 h5)

theorem ws_i2l (cx : CX X l D b cc nL own nm fr lo mc ms) {x : Int32} (d : decode cc pc = .ok (.i2l, 1)) (k : WS X b nL S me (pc + 1) lv (.long x.toInt64 :: st)) : WS X b nL S me pc lv (.int x :: st) := by
  obtain ⟨p, l', e, R, s, m, args, below, meth, cd, D', Q, n0, m0⟩ := X
  obtain ⟨rfl, rfl, hx, hb, hml, hown, hts, hKD, hbs, hR, hnm, hlk⟩ := cx
  exact fun H locs ls h1 h2 h3 h4 h5 => lv_i2l hx hb d rfl (k H locs ls h1 h2 h3 h4 h5)

theorem ws_l2i (cx : CX X l D b cc nL own nm fr lo mc ms) {x : Int64} (d : decode cc pc = .ok (.l2i, 1)) (k : WS X b nL S me (pc + 1) lv (.int x.toInt32 :: st)) : WS X b nL S me pc lv (.long x :: st) := by
  obtain ⟨p, l', e, R, s, m, args, below, meth, cd, D', Q, n0, m0⟩ := X
  obtain ⟨rfl, rfl, hx, hb, hml, hown, hts, hKD, hbs, hR, hnm, hlk⟩ := cx
  exact fun H locs ls h1 h2 h3 h4 h5 => lv_l2i hx hb d rfl (k H locs ls h1 h2 h3 h4 h5)

theorem ws_iushr (cx : CX X l D b cc nL own nm fr lo mc ms) {x y : Int32} (d : decode cc pc = .ok (.iushr, 1)) (k : WS X b nL S me (pc + 1) lv (.int (x.toUInt32 >>> (y.toUInt32 &&& Int32.toUInt32 31)).toInt32 :: st)) : WS X b nL S me pc lv (.int y :: .int x :: st) := by
  obtain ⟨p, l', e, R, s, m, args, below, meth, cd, D', Q, n0, m0⟩ := X
  obtain ⟨rfl, rfl, hx, hb, hml, hown, hts, hKD, hbs, hR, hnm, hlk⟩ := cx
  exact fun H locs ls h1 h2 h3 h4 h5 => lv_iushr hx hb d rfl (k H locs ls h1 h2 h3 h4 h5)

theorem ws_lcmp (cx : CX X l D b cc nL own nm fr lo mc ms) {x y : Int64} (d : decode cc pc = .ok (.lcmp, 1)) (k : WS X b nL S me (pc + 1) lv (.int (lg_cmp x y) :: st)) : WS X b nL S me pc lv (.long y :: .long x :: st) := by
  obtain ⟨p, l', e, R, s, m, args, below, meth, cd, D', Q, n0, m0⟩ := X
  obtain ⟨rfl, rfl, hx, hb, hml, hown, hts, hKD, hbs, hR, hnm, hlk⟩ := cx
  exact fun H locs ls h1 h2 h3 h4 h5 => W.lcmp hx hb d (k H locs ls h1 h2 h3 h4 h5)

theorem ws_dup (cx : CX X l D b cc nL own nm fr lo mc ms) {v : Value} (d : decode cc pc = .ok (.dup, 1)) (hc : v.category = 1) (k : WS X b nL S me (pc + 1) lv (v :: v :: st)) : WS X b nL S me pc lv (v :: st) := by
  obtain ⟨p, l', e, R, s, m, args, below, meth, cd, D', Q, n0, m0⟩ := X
  obtain ⟨rfl, rfl, hx, hb, hml, hown, hts, hKD, hbs, hR, hnm, hlk⟩ := cx
  exact fun H locs ls h1 h2 h3 h4 h5 => lv_dup hx hb d hc (k H locs ls h1 h2 h3 h4 h5)

theorem ws_dup2 (cx : CX X l D b cc nL own nm fr lo mc ms) {v w : Value} (d : decode cc pc = .ok (.dup2, 1)) (hc : v.category = 1) (hc2 : w.category = 1) (k : WS X b nL S me (pc + 1) lv (v :: w :: v :: w :: st)) : WS X b nL S me pc lv (v :: w :: st) := by
  obtain ⟨p, l', e, R, s, m, args, below, meth, cd, D', Q, n0, m0⟩ := X
  obtain ⟨rfl, rfl, hx, hb, hml, hown, hts, hKD, hbs, hR, hnm, hlk⟩ := cx
  exact fun H locs ls h1 h2 h3 h4 h5 => lv_dup2_11 hx hb d hc hc2 (k H locs ls h1 h2 h3 h4 h5)

theorem ws_pop (cx : CX X l D b cc nL own nm fr lo mc ms) {v : Value} (d : decode cc pc = .ok (.pop, 1)) (hc : v.category = 1) (k : WS X b nL S me (pc + 1) lv (st)) : WS X b nL S me pc lv (v :: st) := by
  obtain ⟨p, l', e, R, s, m, args, below, meth, cd, D', Q, n0, m0⟩ := X
  obtain ⟨rfl, rfl, hx, hb, hml, hown, hts, hKD, hbs, hR, hnm, hlk⟩ := cx
  exact fun H locs ls h1 h2 h3 h4 h5 => lv_pop hx hb d hc (k H locs ls h1 h2 h3 h4 h5)

theorem ws_goto (cx : CX X l D b cc nL own nm fr lo mc ms) {off : Int} {tgt : Nat} (d : decode cc pc = .ok (.goto off, 3)) (ht : (pc : Int) + off = (tgt : Int)) (k : WS X b nL S me tgt lv (st)) : WS X b nL S me pc lv (st) := by
  obtain ⟨p, l', e, R, s, m, args, below, meth, cd, D', Q, n0, m0⟩ := X
  obtain ⟨rfl, rfl, hx, hb, hml, hown, hts, hKD, hbs, hR, hnm, hlk⟩ := cx
  exact fun H locs ls h1 h2 h3 h4 h5 => lv_goto hx hb d ht (k H locs ls h1 h2 h3 h4 h5)

theorem ws_if_eq (cx : CX X l D b cc nL own nm fr lo mc ms) {x : Int32} {off : Int} {tgt : Nat} (d : decode cc pc = .ok (.ifCond .eq off, 3)) (ht : (pc : Int) + off = (tgt : Int)) (kt : x = 0 → WS X b nL S me tgt lv st) (kf : ¬ (x = 0) → WS X b nL S me (pc + 3) lv st) : WS X b nL S me pc lv (.int x :: st) := by
  obtain ⟨p, l', e, R, s, m, args, below, meth, cd, D', Q, n0, m0⟩ := X
  obtain ⟨rfl, rfl, hx, hb, hml, hown, hts, hKD, hbs, hR, hnm, hlk⟩ := cx
  exact fun H locs ls h1 h2 h3 h4 h5 => lv_if_eq hx hb d ht (fun q => kt q H locs ls h1 h2 h3 h4 h5) (fun q => kf q H locs ls h1 h2 h3 h4 h5)

theorem ws_icmp_eq (cx : CX X l D b cc nL own nm fr lo mc ms) {x y : Int32} {off : Int} {tgt : Nat} (d : decode cc pc = .ok (.if_icmp .eq off, 3)) (ht : (pc : Int) + off = (tgt : Int)) (kt : x = y → WS X b nL S me tgt lv st) (kf : ¬ (x = y) → WS X b nL S me (pc + 3) lv st) : WS X b nL S me pc lv (.int y :: .int x :: st) := by
  obtain ⟨p, l', e, R, s, m, args, below, meth, cd, D', Q, n0, m0⟩ := X
  obtain ⟨rfl, rfl, hx, hb, hml, hown, hts, hKD, hbs, hR, hnm, hlk⟩ := cx
  exact fun H locs ls h1 h2 h3 h4 h5 => lv_icmp_eq hx hb d ht (fun q => kt q H locs ls h1 h2 h3 h4 h5) (fun q => kf q H locs ls h1 h2 h3 h4 h5)

theorem ws_if_ne (cx : CX X l D b cc nL own nm fr lo mc ms) {x : Int32} {off : Int} {tgt : Nat} (d : decode cc pc = .ok (.ifCond .ne off, 3)) (ht : (pc : Int) + off = (tgt : Int)) (kt : ¬ x = 0 → WS X b nL S me tgt lv st) (kf : x = 0 → WS X b nL S me (pc + 3) lv st) : WS X b nL S me pc lv (.int x :: st) := by
  obtain ⟨p, l', e, R, s, m, args, below, meth, cd, D', Q, n0, m0⟩ := X
  obtain ⟨rfl, rfl, hx, hb, hml, hown, hts, hKD, hbs, hR, hnm, hlk⟩ := cx
  exact fun H locs ls h1 h2 h3 h4 h5 => lv_if_ne hx hb d ht (fun q => kt q H locs ls h1 h2 h3 h4 h5) (fun q => kf q H locs ls h1 h2 h3 h4 h5)

theorem ws_icmp_ne (cx : CX X l D b cc nL own nm fr lo mc ms) {x y : Int32} {off : Int} {tgt : Nat} (d : decode cc pc = .ok (.if_icmp .ne off, 3)) (ht : (pc : Int) + off = (tgt : Int)) (kt : ¬ x = y → WS X b nL S me tgt lv st) (kf : x = y → WS X b nL S me (pc + 3) lv st) : WS X b nL S me pc lv (.int y :: .int x :: st) := by
  obtain ⟨p, l', e, R, s, m, args, below, meth, cd, D', Q, n0, m0⟩ := X
  obtain ⟨rfl, rfl, hx, hb, hml, hown, hts, hKD, hbs, hR, hnm, hlk⟩ := cx
  exact fun H locs ls h1 h2 h3 h4 h5 => lv_icmp_ne hx hb d ht (fun q => kt q H locs ls h1 h2 h3 h4 h5) (fun q => kf q H locs ls h1 h2 h3 h4 h5)

theorem ws_if_lt (cx : CX X l D b cc nL own nm fr lo mc ms) {x : Int32} {off : Int} {tgt : Nat} (d : decode cc pc = .ok (.ifCond .lt off, 3)) (ht : (pc : Int) + off = (tgt : Int)) (kt : x < 0 → WS X b nL S me tgt lv st) (kf : ¬ (x < 0) → WS X b nL S me (pc + 3) lv st) : WS X b nL S me pc lv (.int x :: st) := by
  obtain ⟨p, l', e, R, s, m, args, below, meth, cd, D', Q, n0, m0⟩ := X
  obtain ⟨rfl, rfl, hx, hb, hml, hown, hts, hKD, hbs, hR, hnm, hlk⟩ := cx
  exact fun H locs ls h1 h2 h3 h4 h5 => lv_if_lt hx hb d ht (fun q => kt q H locs ls h1 h2 h3 h4 h5) (fun q => kf q H locs ls h1 h2 h3 h4 h5)

theorem ws_icmp_lt (cx : CX X l D b cc nL own nm fr lo mc ms) {x y : Int32} {off : Int} {tgt : Nat} (d : decode cc pc = .ok (.if_icmp .lt off, 3)) (ht : (pc : Int) + off = (tgt : Int)) (kt : x < y → WS X b nL S me tgt lv st) (kf : ¬ (x < y) → WS X b nL S me (pc + 3) lv st) : WS X b nL S me pc lv (.int y :: .int x :: st) := by
  obtain ⟨p, l', e, R, s, m, args, below, meth, cd, D', Q, n0, m0⟩ := X
  obtain ⟨rfl, rfl, hx, hb, hml, hown, hts, hKD, hbs, hR, hnm, hlk⟩ := cx
  exact fun H locs ls h1 h2 h3 h4 h5 => lv_icmp_lt hx hb d ht (fun q => kt q H locs ls h1 h2 h3 h4 h5) (fun q => kf q H locs ls h1 h2 h3 h4 h5)

theorem ws_if_ge (cx : CX X l D b cc nL own nm fr lo mc ms) {x : Int32} {off : Int} {tgt : Nat} (d : decode cc pc = .ok (.ifCond .ge off, 3)) (ht : (pc : Int) + off = (tgt : Int)) (kt : 0 ≤ x → WS X b nL S me tgt lv st) (kf : ¬ (0 ≤ x) → WS X b nL S me (pc + 3) lv st) : WS X b nL S me pc lv (.int x :: st) := by
  obtain ⟨p, l', e, R, s, m, args, below, meth, cd, D', Q, n0, m0⟩ := X
  obtain ⟨rfl, rfl, hx, hb, hml, hown, hts, hKD, hbs, hR, hnm, hlk⟩ := cx
  exact fun H locs ls h1 h2 h3 h4 h5 => lv_if_ge hx hb d ht (fun q => kt q H locs ls h1 h2 h3 h4 h5) (fun q => kf q H locs ls h1 h2 h3 h4 h5)

theorem ws_icmp_ge (cx : CX X l D b cc nL own nm fr lo mc ms) {x y : Int32} {off : Int} {tgt : Nat} (d : decode cc pc = .ok (.if_icmp .ge off, 3)) (ht : (pc : Int) + off = (tgt : Int)) (kt : y ≤ x → WS X b nL S me tgt lv st) (kf : ¬ (y ≤ x) → WS X b nL S me (pc + 3) lv st) : WS X b nL S me pc lv (.int y :: .int x :: st) := by
  obtain ⟨p, l', e, R, s, m, args, below, meth, cd, D', Q, n0, m0⟩ := X
  obtain ⟨rfl, rfl, hx, hb, hml, hown, hts, hKD, hbs, hR, hnm, hlk⟩ := cx
  exact fun H locs ls h1 h2 h3 h4 h5 => lv_icmp_ge hx hb d ht (fun q => kt q H locs ls h1 h2 h3 h4 h5) (fun q => kf q H locs ls h1 h2 h3 h4 h5)

theorem ws_if_gt (cx : CX X l D b cc nL own nm fr lo mc ms) {x : Int32} {off : Int} {tgt : Nat} (d : decode cc pc = .ok (.ifCond .gt off, 3)) (ht : (pc : Int) + off = (tgt : Int)) (kt : 0 < x → WS X b nL S me tgt lv st) (kf : ¬ (0 < x) → WS X b nL S me (pc + 3) lv st) : WS X b nL S me pc lv (.int x :: st) := by
  obtain ⟨p, l', e, R, s, m, args, below, meth, cd, D', Q, n0, m0⟩ := X
  obtain ⟨rfl, rfl, hx, hb, hml, hown, hts, hKD, hbs, hR, hnm, hlk⟩ := cx
  exact fun H locs ls h1 h2 h3 h4 h5 => lv_if_gt hx hb d ht (fun q => kt q H locs ls h1 h2 h3 h4 h5) (fun q => kf q H locs ls h1 h2 h3 h4 h5)

theorem ws_icmp_gt (cx : CX X l D b cc nL own nm fr lo mc ms) {x y : Int32} {off : Int} {tgt : Nat} (d : decode cc pc = .ok (.if_icmp .gt off, 3)) (ht : (pc : Int) + off = (tgt : Int)) (kt : y < x → WS X b nL S me tgt lv st) (kf : ¬ (y < x) → WS X b nL S me (pc + 3) lv st) : WS X b nL S me pc lv (.int y :: .int x :: st) := by
  obtain ⟨p, l', e, R, s, m, args, below, meth, cd, D', Q, n0, m0⟩ := X
  obtain ⟨rfl, rfl, hx, hb, hml, hown, hts, hKD, hbs, hR, hnm, hlk⟩ := cx
  exact fun H locs ls h1 h2 h3 h4 h5 => lv_icmp_gt hx hb d ht (fun q => kt q H locs ls h1 h2 h3 h4 h5) (fun q => kf q H locs ls h1 h2 h3 h4 h5)

theorem ws_if_le (cx : CX X l D b cc nL own nm fr lo mc ms) {x : Int32} {off : Int} {tgt : Nat} (d : decode cc pc = .ok (.ifCond .le off, 3)) (ht : (pc : Int) + off = (tgt : Int)) (kt : x ≤ 0 → WS X b nL S me tgt lv st) (kf : ¬ (x ≤ 0) → WS X b nL S me (pc + 3) lv st) : WS X b nL S me pc lv (.int x :: st) := by
  obtain ⟨p, l', e, R, s, m, args, below, meth, cd, D', Q, n0, m0⟩ := X
  obtain ⟨rfl, rfl, hx, hb, hml, hown, hts, hKD, hbs, hR, hnm, hlk⟩ := cx
  exact fun H locs ls h1 h2 h3 h4 h5 => lv_if_le hx hb d ht (fun q => kt q H locs ls h1 h2 h3 h4 h5) (fun q => kf q H locs ls h1 h2 h3 h4 h5)

theorem ws_icmp_le (cx : CX X l D b cc nL own nm fr lo mc ms) {x y : Int32} {off : Int} {tgt : Nat} (d : decode cc pc = .ok (.if_icmp .le off, 3)) (ht : (pc : Int) + off = (tgt : Int)) (kt : x ≤ y → WS X b nL S me tgt lv st) (kf : ¬ (x ≤ y) → WS X b nL S me (pc + 3) lv st) : WS X b nL S me pc lv (.int y :: .int x :: st) := by
  obtain ⟨p, l', e, R, s, m, args, below, meth, cd, D', Q, n0, m0⟩ := X
  obtain ⟨rfl, rfl, hx, hb, hml, hown, hts, hKD, hbs, hR, hnm, hlk⟩ := cx
  exact fun H locs ls h1 h2 h3 h4 h5 => lv_icmp_le hx hb d ht (fun q => kt q H locs ls h1 h2 h3 h4 h5) (fun q => kf q H locs ls h1 h2 h3 h4 h5)

theorem ws_tabIn (cx : CX X l D b cc nL own nm fr lo mc ms) {dflt lo' hi : Int} {offs : Array Int} {len : Nat} {x : Int32} {off : Int} {tgt : Nat} (d : decode cc pc = .ok (.tableswitch dflt lo' hi offs, len)) (h1 : ¬ x.toInt < lo') (h2 : ¬ hi < x.toInt) (ho : offs[(x.toInt - lo').toNat]? = some off) (ht : (pc : Int) + off = (tgt : Int)) (k : WS X b nL S me tgt lv st) : WS X b nL S me pc lv (.int x :: st) := by
  obtain ⟨p, l', e, R, s, m, args, below, meth, cd, D', Q, n0, m0⟩ := X
  obtain ⟨rfl, rfl, hx, hb, hml, hown, hts, hKD, hbs, hR, hnm, hlk⟩ := cx
  exact fun H locs ls q1 q2 q3 q4 q5 => lv_tableIn hx hb d h1 h2 ho ht (k H locs ls q1 q2 q3 q4 q5)
theorem ws_tabOut (cx : CX X l D b cc nL own nm fr lo mc ms) {dflt lo' hi : Int} {offs : Array Int} {len : Nat} {x : Int32} {tgt : Nat} (d : decode cc pc = .ok (.tableswitch dflt lo' hi offs, len)) (h1 : x.toInt < lo' ∨ hi < x.toInt) (ht : (pc : Int) + dflt = (tgt : Int)) (k : WS X b nL S me tgt lv st) : WS X b nL S me pc lv (.int x :: st) := by
  obtain ⟨p, l', e, R, s, m, args, below, meth, cd, D', Q, n0, m0⟩ := X
  obtain ⟨rfl, rfl, hx, hb, hml, hown, hts, hKD, hbs, hR, hnm, hlk⟩ := cx
  exact fun H locs ls q1 q2 q3 q4 q5 => lv_tableOut hx hb d h1 ht (k H locs ls q1 q2 q3 q4 q5)
theorem ws_lookup (cx : CX X l D b cc nL own nm fr lo mc ms) {dflt : Int} {ps : Array (Int × Int)} {len : Nat} {x : Int32} {off : Int} {tgt : Nat} (d : decode cc pc = .ok (.lookupswitch dflt ps, len)) (hp : (ps.toList.zip (ps.toList.drop 1)).all (fun (a, next) => a.1 < next.1) = true) (ho : Op.lookupswitch.offset ps.toList dflt x.toInt = off) (ht : (pc : Int) + off = (tgt : Int)) (k : WS X b nL S me tgt lv st) : WS X b nL S me pc lv (.int x :: st) := by
  obtain ⟨p, l', e, R, s, m, args, below, meth, cd, D', Q, n0, m0⟩ := X
  obtain ⟨rfl, rfl, hx, hb, hml, hown, hts, hKD, hbs, hR, hnm, hlk⟩ := cx
  exact fun H locs ls q1 q2 q3 q4 q5 => lv_lookup hx hb d hp ho ht (k H locs ls q1 q2 q3 q4 q5)
theorem ws_sub (ks : List Nat) (hl : lv_pick lv ks = lv') (k : WS X b nL S me pc lv' st) : WS X b nL S me pc lv st := by
  obtain ⟨p, l', e, R, s, m, args, below, meth, cd, D', Q, n0, m0⟩ := X
  exact fun H locs ls h1 h2 h3 h4 h5 => k H locs ls h1 h2 h3 h4 (lv_sub h5 ks hl)
theorem qc_end {t : State} {s : State} {D : va_G} {b : Nat} {S : SH} {me : ME} {H : Heap} {rv : Option Value} {a : Array Value} (h1 : HR s D b S me H) (h2 : ∀ q : Nat, q < b → H[q]? = s.heap[q]?) (ht : t.heap = H) (hW : s.WarmedH t.vm) : QcA D b S me rv a s (.returned rv) t :=
  ⟨rfl, by rw [ht]; exact HR_moved hW.alike h1, fun q hq => by rw [ht]; exact h2 q hq⟩
theorem ws_iret (cx : CX X l D b cc nL own nm fr lo mc ms) {v : Int32} {S' : SH} {me' : ME} {rv : Option Value} (ex : EX X b (some .int) S' me' rv) (hr : rv = some (.int v)) (hS : S' = S) (hm : me' = me) (d : decode cc pc = .ok (.ireturn, 1)) : WS X b nL S me pc lv [.int v] := by
  subst hr hS hm
  obtain ⟨p, l', e, R, s, m, args, below, meth, cd, D', Q, n0, m0⟩ := X
  obtain ⟨rfl, rfl, hx, hb, hml, hown, hts, hKD, hbs, hR, hnm, hlk⟩ := cx
  obtain ⟨hret, rfl⟩ := ex
  exact fun H locs ls h1 h2 h3 h4 h5 => W.widen h4.2.2.1 h4.2.2.2 (W.iret hx hb hret (fun t ht hW => qc_end h1 h2 ht hW) h3 d hlk)
theorem ws_zret (cx : CX X l D b cc nL own nm fr lo mc ms) {v : Int32} {S' : SH} {me' : ME} {rv : Option Value} (ex : EX X b (some .boolean) S' me' rv) (h01 : v = 0 ∨ v = 1) (hr : rv = some (.int v)) (hS : S' = S) (hm : me' = me) (d : decode cc pc = .ok (.ireturn, 1)) : WS X b nL S me pc lv [.int v] := by
  subst hr hS hm
  obtain ⟨p, l', e, R, s, m, args, below, meth, cd, D', Q, n0, m0⟩ := X
  obtain ⟨rfl, rfl, hx, hb, hml, hown, hts, hKD, hbs, hR, hnm, hlk⟩ := cx
  obtain ⟨hret, rfl⟩ := ex
  exact fun H locs ls h1 h2 h3 h4 h5 => W.widen h4.2.2.1 h4.2.2.2 (W.zret hx hb hret (by rcases h01 with rfl | rfl <;> rfl) (fun t ht hW => qc_end h1 h2 ht hW) h3 d hlk)
theorem ws_lret (cx : CX X l D b cc nL own nm fr lo mc ms) {v : Int64} {S' : SH} {me' : ME} {rv : Option Value} (ex : EX X b (some .long) S' me' rv) (hr : rv = some (.long v)) (hS : S' = S) (hm : me' = me) (d : decode cc pc = .ok (.lreturn, 1)) : WS X b nL S me pc lv [.long v] := by
  subst hr hS hm
  obtain ⟨p, l', e, R, s, m, args, below, meth, cd, D', Q, n0, m0⟩ := X
  obtain ⟨rfl, rfl, hx, hb, hml, hown, hts, hKD, hbs, hR, hnm, hlk⟩ := cx
  obtain ⟨hret, rfl⟩ := ex
  exact fun H locs ls h1 h2 h3 h4 h5 => W.widen h4.2.2.1 h4.2.2.2 (W.lret hx hb hret (fun t ht hW => qc_end h1 h2 ht hW) h3 d hlk)
theorem ws_vret (cx : CX X l D b cc nL own nm fr lo mc ms) {S' : SH} {me' : ME} {rv : Option Value} (ex : EX X b none S' me' rv) (hr : rv = none) (hS : S' = S) (hm : me' = me) (d : decode cc pc = .ok (.return_, 1)) : WS X b nL S me pc lv [] := by
  subst hr hS hm
  obtain ⟨p, l', e, R, s, m, args, below, meth, cd, D', Q, n0, m0⟩ := X
  obtain ⟨rfl, rfl, hx, hb, hml, hown, hts, hKD, hbs, hR, hnm, hlk⟩ := cx
  obtain ⟨hret, rfl⟩ := ex
  exact fun H locs ls h1 h2 h3 h4 h5 => W.widen h4.2.2.1 h4.2.2.2 (W.vret hx hb hret (fun t ht hW => qc_end h1 h2 ht hW) h3 d hlk)
end WROWS3
