def mX10_undo_j70 (S : SH) (o : Nat) (me : ME) : Option (Int32 × ME) :=
  (gI S me 10 4 o).bind fun v1 =>
  some (v1, me)
def mX10_undo_L38 (S : SH) (o : Nat) (k38 : (ME × Int32 → Option (Int32 × ME))) : ME × Int32 → Option (Int32 × ME)
  | (me, x1) =>
    if (25 : Int32) ≤ x1 then
      mX10_undo_j70 S o me
    else
      (gR S 10 3 o).bind fun v4 =>
      (gR S 10 6 o).bind fun v6 =>
      (gI S me 10 5 o).bind fun v8 =>
      (aI S me 11 v6 (((25 : Int32) * v8) + x1)).bind fun v10 =>
      (uI S me v4 x1 v10).bind fun m13 =>
      k38 (m13, x1 + (1 : Int32))
def mX10_undo (S : SH) (me : ME) (o : Nat) : Option (Int32 × ME) :=
  (gI S me 10 4 o).bind fun v14 =>
  if v14 = 0 then
    some ((-2 : Int32), me)
  else
    (gI S me 10 5 o).bind fun v17 =>
    (sI S me 10 5 o (((v17 + (10 : Int32)) - (1 : Int32)) - ((v17 + (10 : Int32)) - (1 : Int32)) / (10 : Int32) * (10 : Int32))).bind fun m20 =>
    (gI S m20 10 4 o).bind fun v21 =>
    (sI S m20 10 4 o (v21 - (1 : Int32))).bind fun m24 =>
    lpn (mX10_undo_L38 S o) lpF (m24, (0 : Int32))
set_option maxRecDepth 100000 in
set_option maxHeartbeats 4000000 in
theorem kX10_undo (l : Launch) (D : va_G) (b : Nat) {S : SH} {me : ME} {o : Nat} {q : Int32 × ME} (hM : mX10_undo S me o = some q) : Ct l D b yX10_undo cX10_undo 2 (some .int) 0 0 0 0 [.ref (b + o)] S me S q.2 (some (.int q.1)) := by
  refine ct_of (own := RX10) (nm := "undo") (lv := [(0, .ref (b + o))]) (plainFor_of_name (by decide)) rfl rfl (Nat.le_of_ble_eq_true rfl) rfl ⟨rfl, rfl⟩ (fun X cx ex hL => ?_)
  have J70 : ∀ (me : ME), mX10_undo_j70 S o me = some q → WS X b 2 S me 70 [(0, .ref (b + o))] [] := by
    intro  me hM
    unfold mX10_undo_j70 at hM
    refine ws_aload_n cx dX10_undo_70 rfl (j := 0) rfl ?_
    obtain ⟨v1, h2, hM⟩ := bnd hM
    refine ws_getI cx ffX10_107 h2 dX10_undo_71 ?_
    exact ws_iretM cx ex hM dX10_undo_74
  have L38 : ∀ (n : Nat) (me : ME) (x1 : Int32), lpn (mX10_undo_L38 S o) n (me, x1) = some q → WS X b 2 S me 38 [(0, .ref (b + o)), (1, .int x1)] [] := by
    intro  n
    induction n with
    | zero => intro me x1 hM; exact absurd hM (by intro h; cases h)
    | succ n ih =>
      intro me x1 hM
      have hM : mX10_undo_L38 S o (lpn (mX10_undo_L38 S o) n) (me, x1) = some q := hM
      unfold mX10_undo_L38 at hM
      refine ws_iload_n cx dX10_undo_38 rfl (j := 1) rfl ?_
      refine ws_bipush cx dX10_undo_39 (v := 25) (by decide) ?_
      refine ws_icmp_ge cx dX10_undo_41 (tgt := 70) (by decide) (fun c3 => ?_) (fun c3 => ?_)
      · have hM := if_t hM c3
        refine ws_sub [0] (lv' := [(0, .ref (b + o))]) rfl ?_
        exact J70 _ hM
      · have hM := if_f hM c3
        refine ws_aload_n cx dX10_undo_44 rfl (j := 0) rfl ?_
        obtain ⟨v4, h5, hM⟩ := bnd hM
        refine ws_getR cx ffX10_16 h5 dX10_undo_45 ?_
        refine ws_iload_n cx dX10_undo_48 rfl (j := 1) rfl ?_
        refine ws_aload_n cx dX10_undo_49 rfl (j := 0) rfl ?_
        obtain ⟨v6, h7, hM⟩ := bnd hM
        refine ws_getR cx ffX10_19 h7 dX10_undo_50 ?_
        refine ws_bipush cx dX10_undo_53 (v := 25) (by decide) ?_
        refine ws_aload_n cx dX10_undo_55 rfl (j := 0) rfl ?_
        obtain ⟨v8, h9, hM⟩ := bnd hM
        refine ws_getI cx ffX10_148 h9 dX10_undo_56 ?_
        refine ws_imul cx dX10_undo_59 ?_
        refine ws_iload_n cx dX10_undo_60 rfl (j := 1) rfl ?_
        refine ws_iadd cx dX10_undo_61 ?_
        obtain ⟨v10, h11, hM⟩ := bnd hM
        refine ws_iald cx h11 dX10_undo_62 ?_
        obtain ⟨m13, h12, hM⟩ := bnd hM
        refine ws_iast cx h12 dX10_undo_63 ?_
        refine ws_iinc cx dX10_undo_64 (j := 1) rfl (v := x1 + (1 : Int32)) rfl (by decide) (lv' := [(1, .int (x1 + (1 : Int32))), (0, .ref (b + o))]) rfl ?_
        refine ws_goto cx dX10_undo_67 (tgt := 38) (by decide) ?_
        refine ws_sub [1, 0] (lv' := [(0, .ref (b + o)), (1, .int (x1 + (1 : Int32)))]) rfl ?_
        exact ih _ _ hM
  unfold mX10_undo at hM
  refine ws_aload_n cx dX10_undo_0 rfl (j := 0) rfl ?_
  obtain ⟨v14, h15, hM⟩ := bnd hM
  refine ws_getI cx ffX10_107 h15 dX10_undo_1 ?_
  refine ws_if_ne cx dX10_undo_4 (tgt := 10) (by decide) (fun c16 => ?_) (fun c16 => ?_)
  · have hM := if_f hM c16
    refine ws_aload_n cx dX10_undo_10 rfl (j := 0) rfl ?_
    refine ws_aload_n cx dX10_undo_11 rfl (j := 0) rfl ?_
    obtain ⟨v17, h18, hM⟩ := bnd hM
    refine ws_getI cx ffX10_148 h18 dX10_undo_12 ?_
    refine ws_bipush cx dX10_undo_15 (v := 10) (by decide) ?_
    refine ws_iadd cx dX10_undo_17 ?_
    refine ws_iconst cx dX10_undo_18 (v := 1) (by decide) ?_
    refine ws_isub cx dX10_undo_19 ?_
    refine ws_bipush cx dX10_undo_20 (v := 10) (by decide) ?_
    refine ws_irem cx (by decide) dX10_undo_22 ?_
    obtain ⟨m20, h19, hM⟩ := bnd hM
    refine ws_putI cx ffX10_148 h19 dX10_undo_23 ?_
    refine ws_aload_n cx dX10_undo_26 rfl (j := 0) rfl ?_
    refine ws_dup cx dX10_undo_27 rfl ?_
    obtain ⟨v21, h22, hM⟩ := bnd hM
    refine ws_getI cx ffX10_107 h22 dX10_undo_28 ?_
    refine ws_iconst cx dX10_undo_31 (v := 1) (by decide) ?_
    refine ws_isub cx dX10_undo_32 ?_
    obtain ⟨m24, h23, hM⟩ := bnd hM
    refine ws_putI cx ffX10_107 h23 dX10_undo_33 ?_
    refine ws_iconst cx dX10_undo_36 (v := 0) (by decide) ?_
    refine ws_istore_n cx dX10_undo_37 rfl (by decide) (lv' := [(1, .int (0 : Int32)), (0, .ref (b + o))]) rfl ?_
    refine ws_sub [1, 0] (lv' := [(0, .ref (b + o)), (1, .int (0 : Int32))]) rfl ?_
    exact L38 _ _ _ hM
  · have hM := if_t hM c16
    refine ws_bipush cx dX10_undo_7 (v := -2) (by decide) ?_
    exact ws_iretM cx ex hM dX10_undo_9

def mX10_firstOf_j16 (S : SH) (o : Nat) (a0 : Int32) (me : ME) (x2 : Int32) : Option (Int32 × ME) :=
  some (x2, me)
def mX10_firstOf_L2 (S : SH) (o : Nat) (a0 : Int32) (k2 : (ME × Int32 → Option (Int32 × ME))) : ME × Int32 → Option (Int32 × ME)
  | (me, x2) =>
    (mX10_has S me a0 x2).bind fun q1 =>
    if q1.1 = 0 then
      k2 (q1.2, x2 + (1 : Int32))
    else
      mX10_firstOf_j16 S o a0 q1.2 x2
def mX10_firstOf (S : SH) (me : ME) (o : Nat) (a0 : Int32) : Option (Int32 × ME) :=
  lpn (mX10_firstOf_L2 S o a0) lpF (me, (0 : Int32))
set_option maxRecDepth 100000 in
set_option maxHeartbeats 4000000 in
theorem kX10_firstOf (l : Launch) (D : va_G) (b : Nat) {S : SH} {me : ME} {o : Nat} {a0 : Int32} {q : Int32 × ME} (hM : mX10_firstOf S me o a0 = some q) : Ct l D b yX10_firstOf cX10_firstOf 3 (some .int) 1 21 0 0 [.ref (b + o), .int a0] S me S q.2 (some (.int q.1)) := by
  refine ct_of (own := RX10) (nm := "firstOf") (lv := [(0, .ref (b + o)), (1, .int a0)]) (plainFor_of_name (by decide)) rfl rfl (Nat.le_of_ble_eq_true rfl) rfl ⟨rfl, rfl⟩ (fun X cx ex hL => ?_)
  have J16 : ∀ (me : ME) (x2 : Int32), mX10_firstOf_j16 S o a0 me x2 = some q → WS X b 3 S me 16 [(2, .int x2)] [] := by
    intro  me x2 hM
    unfold mX10_firstOf_j16 at hM
    refine ws_iload_n cx dX10_firstOf_16 rfl (j := 0) rfl ?_
    exact ws_iretM cx ex hM dX10_firstOf_17
  have L2 : ∀ (n : Nat) (me : ME) (x2 : Int32), lpn (mX10_firstOf_L2 S o a0) n (me, x2) = some q → WS X b 3 S me 2 [(1, .int a0), (2, .int x2)] [] := by
    intro  n
    induction n with
    | zero => intro me x2 hM; exact absurd hM (by intro h; cases h)
    | succ n ih =>
      intro me x2 hM
      have hM : mX10_firstOf_L2 S o a0 (lpn (mX10_firstOf_L2 S o a0) n) (me, x2) = some q := hM
      unfold mX10_firstOf_L2 at hM
      refine ws_iload_n cx dX10_firstOf_2 rfl (j := 0) rfl ?_
      refine ws_iload_n cx dX10_firstOf_3 rfl (j := 1) rfl ?_
      obtain ⟨q1, h2, hM⟩ := bnd hM
      refine ws_callS cx (rest := []) (st' := [.int q1.1]) (kX10_has l D b h2) mvX10_has lkX10_125 rfl ⟨by decide, by decide⟩ (Nat.le_of_ble_eq_true rfl) ⟨rfl, rfl⟩ (Or.inl ⟨rfl, rfl⟩) rfl rfl dX10_firstOf_4 ?_
      refine ws_if_ne cx dX10_firstOf_7 (tgt := 16) (by decide) (fun c3 => ?_) (fun c3 => ?_)
      · have hM := if_f hM c3
        refine ws_sub [1] (lv' := [(2, .int x2)]) rfl ?_
        exact J16 _ _ hM
      · have hM := if_t hM c3
        refine ws_iinc cx dX10_firstOf_10 (j := 1) rfl (v := x2 + (1 : Int32)) rfl (by decide) (lv' := [(2, .int (x2 + (1 : Int32))), (1, .int a0)]) rfl ?_
        refine ws_goto cx dX10_firstOf_13 (tgt := 2) (by decide) ?_
        refine ws_sub [1, 0] (lv' := [(1, .int a0), (2, .int (x2 + (1 : Int32)))]) rfl ?_
        exact ih _ _ hM
  unfold mX10_firstOf at hM
  refine ws_iconst cx dX10_firstOf_0 (v := 0) (by decide) ?_
  refine ws_istore_n cx dX10_firstOf_1 rfl (by decide) (lv' := [(2, .int (0 : Int32)), (0, .ref (b + o)), (1, .int a0)]) rfl ?_
  refine ws_sub [2, 0] (lv' := [(1, .int a0), (2, .int (0 : Int32))]) rfl ?_
  exact L2 _ _ _ hM

def mX10_layRows_j182 (S : SH) (o : Nat) (a0 : Int32) (k15 : (ME × Int32 × Int32 → Option (Unit × ME))) (me : ME) (x2 : Int32) (x3 : Int32) : Option (Unit × ME) :=
  k15 (me, x2, x3 + (1 : Int32))
def mX10_layRows_j188 (S : SH) (o : Nat) (a0 : Int32) (me : ME) : Option (Unit × ME) :=
  some ((), me)
def mX10_layRows_L15 (S : SH) (o : Nat) (a0 : Int32) (k15 : (ME × Int32 × Int32 → Option (Unit × ME))) : ME × Int32 × Int32 → Option (Unit × ME)
  | (me, x2, x3) =>
    (gR S 10 3 o).bind fun v1 =>
    (aI S me 11 v1 (0 : Int32)).bind fun v3 =>
    if v3 ≤ x3 then
      mX10_layRows_j188 S o a0 me
    else
      (mX10_has S me a0 x3).bind fun q6 =>
      if q6.1 = 0 then
        mX10_layRows_j182 S o a0 k15 q6.2 x2 x3
      else
        (gI S q6.2 10 22 o).bind fun v9 =>
        (gR S 10 23 o).bind fun v11 =>
        (ck S 10 o).bind fun _ => (mX10_xOf S q6.2 o x3).bind fun q13 =>
        (ck S 10 o).bind fun _ => (mX10_xOf S q13.2 o x2).bind fun q16 =>
        (uJ S q16.2 v11 ((4 : Int32) * v9) (((2 : Int32) * (q13.1 - q16.1)).toInt64)).bind fun m20 =>
        (gR S 10 23 o).bind fun v21 =>
        (ck S 10 o).bind fun _ => (mX10_yOf S m20 o x3).bind fun q23 =>
        (ck S 10 o).bind fun _ => (mX10_yOf S q23.2 o x2).bind fun q26 =>
        (uJ S q26.2 v21 (((4 : Int32) * v9) + (1 : Int32)) (((2 : Int32) * (q23.1 - q26.1)).toInt64)).bind fun m30 =>
        (gR S 10 23 o).bind fun v31 =>
        (ck S 10 o).bind fun _ => (mX10_timeOf S m30 o x3).bind fun q33 =>
        (ck S 10 o).bind fun _ => (mX10_timeOf S q33.2 o x2).bind fun q36 =>
        (uJ S q36.2 v31 (((4 : Int32) * v9) + (2 : Int32)) (((-2 : Int32) * (q33.1 - q36.1)).toInt64)).bind fun m40 =>
        (gR S 10 23 o).bind fun v41 =>
        (ck S 10 o).bind fun _ => (mX10_xOf S m40 o x3).bind fun q43 =>
        (mX10_square S q43.2 q43.1).bind fun q46 =>
        (ck S 10 o).bind fun _ => (mX10_yOf S q46.2 o x3).bind fun q48 =>
        (mX10_square S q48.2 q48.1).bind fun q51 =>
        (ck S 10 o).bind fun _ => (mX10_timeOf S q51.2 o x3).bind fun q53 =>
        (mX10_square S q53.2 q53.1).bind fun q56 =>
        (ck S 10 o).bind fun _ => (mX10_xOf S q56.2 o x2).bind fun q58 =>
        (mX10_square S q58.2 q58.1).bind fun q61 =>
        (ck S 10 o).bind fun _ => (mX10_yOf S q61.2 o x2).bind fun q63 =>
        (mX10_square S q63.2 q63.1).bind fun q66 =>
        (ck S 10 o).bind fun _ => (mX10_timeOf S q66.2 o x2).bind fun q68 =>
        (mX10_square S q68.2 q68.1).bind fun q71 =>
        (uJ S q71.2 v41 (((4 : Int32) * v9) + (3 : Int32)) ((((((q46.1 + q51.1) - q56.1) - q61.1) - q66.1) + q71.1).toInt64)).bind fun m74 =>
        (gI S m74 10 22 o).bind fun v75 =>
        (sI S m74 10 22 o (v75 + (1 : Int32))).bind fun m78 =>
        mX10_layRows_j182 S o a0 k15 m78 x2 x3
def mX10_layRows (S : SH) (me : ME) (o : Nat) (a0 : Int32) : Option (Unit × ME) :=
  (sI S me 10 22 o (0 : Int32)).bind fun m80 =>
  (ck S 10 o).bind fun _ => (mX10_firstOf S m80 o a0).bind fun q81 =>
  lpn (mX10_layRows_L15 S o a0) lpF (q81.2, q81.1, q81.1 + (1 : Int32))
set_option maxRecDepth 100000 in
set_option maxHeartbeats 4000000 in
theorem kX10_layRows (l : Launch) (D : va_G) (b : Nat) {S : SH} {me : ME} {o : Nat} {a0 : Int32} {q : Unit × ME} (hM : mX10_layRows S me o a0 = some q) : Ct l D b yX10_layRows cX10_layRows 5 none 2 43 0 0 [.ref (b + o), .int a0] S me S q.2 none := by
  refine ct_of (own := RX10) (nm := "layRows") (lv := [(0, .ref (b + o)), (1, .int a0)]) (plainFor_of_name (by decide)) rfl rfl (Nat.le_of_ble_eq_true rfl) rfl ⟨rfl, rfl⟩ (fun X cx ex hL => ?_)
  have J182 : ∀ (k15 : (ME × Int32 × Int32 → Option (Unit × ME))), (∀ (me : ME) (x2 : Int32) (x3 : Int32), k15 (me, x2, x3) = some q → WS X b 5 S me 15 [(0, .ref (b + o)), (1, .int a0), (2, .int x2), (3, .int x3)] []) → ∀ (me : ME) (x2 : Int32) (x3 : Int32), mX10_layRows_j182 S o a0 k15 me x2 x3 = some q → WS X b 5 S me 182 [(0, .ref (b + o)), (1, .int a0), (2, .int x2), (3, .int x3)] [] := by
    intro k15 hk15 me x2 x3 hM
    unfold mX10_layRows_j182 at hM
    refine ws_iinc cx dX10_layRows_182 (j := 3) rfl (v := x3 + (1 : Int32)) rfl (by decide) (lv' := [(3, .int (x3 + (1 : Int32))), (0, .ref (b + o)), (1, .int a0), (2, .int x2)]) rfl ?_
    refine ws_goto cx dX10_layRows_185 (tgt := 15) (by decide) ?_
    refine ws_sub [1, 2, 3, 0] (lv' := [(0, .ref (b + o)), (1, .int a0), (2, .int x2), (3, .int (x3 + (1 : Int32)))]) rfl ?_
    exact hk15 _ _ _ hM
  have J188 : ∀ (me : ME), mX10_layRows_j188 S o a0 me = some q → WS X b 5 S me 188 [] [] := by
    intro  me hM
    unfold mX10_layRows_j188 at hM
    exact ws_vretM cx ex hM dX10_layRows_188
  have L15 : ∀ (n : Nat) (me : ME) (x2 : Int32) (x3 : Int32), lpn (mX10_layRows_L15 S o a0) n (me, x2, x3) = some q → WS X b 5 S me 15 [(0, .ref (b + o)), (1, .int a0), (2, .int x2), (3, .int x3)] [] := by
    intro  n
    induction n with
    | zero => intro me x2 x3 hM; exact absurd hM (by intro h; cases h)
    | succ n ih =>
      intro me x2 x3 hM
      have hM : mX10_layRows_L15 S o a0 (lpn (mX10_layRows_L15 S o a0) n) (me, x2, x3) = some q := hM
      unfold mX10_layRows_L15 at hM
      refine ws_iload_n cx dX10_layRows_15 rfl (j := 3) rfl ?_
      refine ws_aload_n cx dX10_layRows_16 rfl (j := 0) rfl ?_
      obtain ⟨v1, h2, hM⟩ := bnd hM
      refine ws_getR cx ffX10_16 h2 dX10_layRows_17 ?_
      refine ws_iconst cx dX10_layRows_20 (v := 0) (by decide) ?_
      obtain ⟨v3, h4, hM⟩ := bnd hM
      refine ws_iald cx h4 dX10_layRows_21 ?_
      refine ws_icmp_ge cx dX10_layRows_22 (tgt := 188) (by decide) (fun c5 => ?_) (fun c5 => ?_)
      · have hM := if_t hM c5
        refine ws_sub [] (lv' := []) rfl ?_
        exact J188 _ hM
      · have hM := if_f hM c5
        refine ws_iload_n cx dX10_layRows_25 rfl (j := 1) rfl ?_
        refine ws_iload_n cx dX10_layRows_26 rfl (j := 3) rfl ?_
        obtain ⟨q6, h7, hM⟩ := bnd hM
        refine ws_callS cx (rest := []) (st' := [.int q6.1]) (kX10_has l D b h7) mvX10_has lkX10_125 rfl ⟨by decide, by decide⟩ (Nat.le_of_ble_eq_true rfl) ⟨rfl, rfl⟩ (Or.inl ⟨rfl, rfl⟩) rfl rfl dX10_layRows_27 ?_
        refine ws_if_eq cx dX10_layRows_30 (tgt := 182) (by decide) (fun c8 => ?_) (fun c8 => ?_)
        · have hM := if_t hM c8
          refine ws_sub [0, 1, 2, 3] (lv' := [(0, .ref (b + o)), (1, .int a0), (2, .int x2), (3, .int x3)]) rfl ?_
          exact J182 _ ih _ _ _ hM
        · have hM := if_f hM c8
          refine ws_iconst cx dX10_layRows_33 (v := 4) (by decide) ?_
          refine ws_aload_n cx dX10_layRows_34 rfl (j := 0) rfl ?_
          obtain ⟨v9, h10, hM⟩ := bnd hM
          refine ws_getI cx ffX10_154 h10 dX10_layRows_35 ?_
          refine ws_imul cx dX10_layRows_38 ?_
          refine ws_istore cx dX10_layRows_39 (by decide) (lv' := [(4, .int ((4 : Int32) * v9)), (0, .ref (b + o)), (1, .int a0), (2, .int x2), (3, .int x3)]) rfl ?_
          refine ws_aload_n cx dX10_layRows_41 rfl (j := 1) rfl ?_
          obtain ⟨v11, h12, hM⟩ := bnd hM
          refine ws_getR cx ffX10_44 h12 dX10_layRows_42 ?_
          refine ws_iload cx dX10_layRows_45 (j := 0) rfl ?_
          refine ws_iconst cx dX10_layRows_47 (v := 2) (by decide) ?_
          refine ws_aload_n cx dX10_layRows_48 rfl (j := 1) rfl ?_
          refine ws_iload_n cx dX10_layRows_49 rfl (j := 4) rfl ?_
          obtain ⟨_, h15, hM⟩ := bnd hM
          obtain ⟨q13, h14, hM⟩ := bnd hM
          refine ws_callV cx (rest := [.int (2 : Int32), .int ((4 : Int32) * v9), .ref (b + v11)]) (st' := [.int q13.1, .int (2 : Int32), .int ((4 : Int32) * v9), .ref (b + v11)]) (kX10_xOf l D b h14) mvX10_xOf (ck_k h15) (by decide) (q := (RX10, TX10, 31)) rfl seX10_xOf lkX10_116 rfl ⟨by decide, by decide⟩ (Nat.le_of_ble_eq_true rfl) ⟨rfl, rfl⟩ (Or.inl ⟨rfl, rfl⟩) rfl rfl dX10_layRows_50 ?_
          refine ws_aload_n cx dX10_layRows_53 rfl (j := 1) rfl ?_
          refine ws_iload_n cx dX10_layRows_54 rfl (j := 3) rfl ?_
          obtain ⟨_, h18, hM⟩ := bnd hM
          obtain ⟨q16, h17, hM⟩ := bnd hM
          refine ws_callV cx (rest := [.int q13.1, .int (2 : Int32), .int ((4 : Int32) * v9), .ref (b + v11)]) (st' := [.int q16.1, .int q13.1, .int (2 : Int32), .int ((4 : Int32) * v9), .ref (b + v11)]) (kX10_xOf l D b h17) mvX10_xOf (ck_k h18) (by decide) (q := (RX10, TX10, 31)) rfl seX10_xOf lkX10_116 rfl ⟨by decide, by decide⟩ (Nat.le_of_ble_eq_true rfl) ⟨rfl, rfl⟩ (Or.inl ⟨rfl, rfl⟩) rfl rfl dX10_layRows_55 ?_
          refine ws_isub cx dX10_layRows_58 ?_
          refine ws_imul cx dX10_layRows_59 ?_
          refine ws_i2l cx dX10_layRows_60 ?_
          obtain ⟨m20, h19, hM⟩ := bnd hM
          refine ws_last cx h19 dX10_layRows_61 ?_
          refine ws_aload_n cx dX10_layRows_62 rfl (j := 1) rfl ?_
          obtain ⟨v21, h22, hM⟩ := bnd hM
          refine ws_getR cx ffX10_44 h22 dX10_layRows_63 ?_
          refine ws_iload cx dX10_layRows_66 (j := 0) rfl ?_
          refine ws_iconst cx dX10_layRows_68 (v := 1) (by decide) ?_
          refine ws_iadd cx dX10_layRows_69 ?_
          refine ws_iconst cx dX10_layRows_70 (v := 2) (by decide) ?_
          refine ws_aload_n cx dX10_layRows_71 rfl (j := 1) rfl ?_
          refine ws_iload_n cx dX10_layRows_72 rfl (j := 4) rfl ?_
          obtain ⟨_, h25, hM⟩ := bnd hM
          obtain ⟨q23, h24, hM⟩ := bnd hM
          refine ws_callV cx (rest := [.int (2 : Int32), .int (((4 : Int32) * v9) + (1 : Int32)), .ref (b + v21)]) (st' := [.int q23.1, .int (2 : Int32), .int (((4 : Int32) * v9) + (1 : Int32)), .ref (b + v21)]) (kX10_yOf l D b h24) mvX10_yOf (ck_k h25) (by decide) (q := (RX10, TX10, 31)) rfl seX10_yOf lkX10_119 rfl ⟨by decide, by decide⟩ (Nat.le_of_ble_eq_true rfl) ⟨rfl, rfl⟩ (Or.inl ⟨rfl, rfl⟩) rfl rfl dX10_layRows_73 ?_
          refine ws_aload_n cx dX10_layRows_76 rfl (j := 1) rfl ?_
          refine ws_iload_n cx dX10_layRows_77 rfl (j := 3) rfl ?_
          obtain ⟨_, h28, hM⟩ := bnd hM
          obtain ⟨q26, h27, hM⟩ := bnd hM
          refine ws_callV cx (rest := [.int q23.1, .int (2 : Int32), .int (((4 : Int32) * v9) + (1 : Int32)), .ref (b + v21)]) (st' := [.int q26.1, .int q23.1, .int (2 : Int32), .int (((4 : Int32) * v9) + (1 : Int32)), .ref (b + v21)]) (kX10_yOf l D b h27) mvX10_yOf (ck_k h28) (by decide) (q := (RX10, TX10, 31)) rfl seX10_yOf lkX10_119 rfl ⟨by decide, by decide⟩ (Nat.le_of_ble_eq_true rfl) ⟨rfl, rfl⟩ (Or.inl ⟨rfl, rfl⟩) rfl rfl dX10_layRows_78 ?_
          refine ws_isub cx dX10_layRows_81 ?_
          refine ws_imul cx dX10_layRows_82 ?_
          refine ws_i2l cx dX10_layRows_83 ?_
          obtain ⟨m30, h29, hM⟩ := bnd hM
          refine ws_last cx h29 dX10_layRows_84 ?_
          refine ws_aload_n cx dX10_layRows_85 rfl (j := 1) rfl ?_
          obtain ⟨v31, h32, hM⟩ := bnd hM
          refine ws_getR cx ffX10_44 h32 dX10_layRows_86 ?_
          refine ws_iload cx dX10_layRows_89 (j := 0) rfl ?_
          refine ws_iconst cx dX10_layRows_91 (v := 2) (by decide) ?_
          refine ws_iadd cx dX10_layRows_92 ?_
          refine ws_bipush cx dX10_layRows_93 (v := -2) (by decide) ?_
          refine ws_aload_n cx dX10_layRows_95 rfl (j := 1) rfl ?_
          refine ws_iload_n cx dX10_layRows_96 rfl (j := 4) rfl ?_
          obtain ⟨_, h35, hM⟩ := bnd hM
          obtain ⟨q33, h34, hM⟩ := bnd hM
          refine ws_callV cx (rest := [.int (-2 : Int32), .int (((4 : Int32) * v9) + (2 : Int32)), .ref (b + v31)]) (st' := [.int q33.1, .int (-2 : Int32), .int (((4 : Int32) * v9) + (2 : Int32)), .ref (b + v31)]) (kX10_timeOf l D b h34) mvX10_timeOf (ck_k h35) (by decide) (q := (RX10, TX10, 31)) rfl seX10_timeOf lkX10_110 rfl ⟨by decide, by decide⟩ (Nat.le_of_ble_eq_true rfl) ⟨rfl, rfl⟩ (Or.inl ⟨rfl, rfl⟩) rfl rfl dX10_layRows_97 ?_
          refine ws_aload_n cx dX10_layRows_100 rfl (j := 1) rfl ?_
          refine ws_iload_n cx dX10_layRows_101 rfl (j := 3) rfl ?_
          obtain ⟨_, h38, hM⟩ := bnd hM
          obtain ⟨q36, h37, hM⟩ := bnd hM
          refine ws_callV cx (rest := [.int q33.1, .int (-2 : Int32), .int (((4 : Int32) * v9) + (2 : Int32)), .ref (b + v31)]) (st' := [.int q36.1, .int q33.1, .int (-2 : Int32), .int (((4 : Int32) * v9) + (2 : Int32)), .ref (b + v31)]) (kX10_timeOf l D b h37) mvX10_timeOf (ck_k h38) (by decide) (q := (RX10, TX10, 31)) rfl seX10_timeOf lkX10_110 rfl ⟨by decide, by decide⟩ (Nat.le_of_ble_eq_true rfl) ⟨rfl, rfl⟩ (Or.inl ⟨rfl, rfl⟩) rfl rfl dX10_layRows_102 ?_
          refine ws_isub cx dX10_layRows_105 ?_
          refine ws_imul cx dX10_layRows_106 ?_
          refine ws_i2l cx dX10_layRows_107 ?_
          obtain ⟨m40, h39, hM⟩ := bnd hM
          refine ws_last cx h39 dX10_layRows_108 ?_
          refine ws_aload_n cx dX10_layRows_109 rfl (j := 1) rfl ?_
          obtain ⟨v41, h42, hM⟩ := bnd hM
          refine ws_getR cx ffX10_44 h42 dX10_layRows_110 ?_
          refine ws_iload cx dX10_layRows_113 (j := 0) rfl ?_
          refine ws_iconst cx dX10_layRows_115 (v := 3) (by decide) ?_
          refine ws_iadd cx dX10_layRows_116 ?_
          refine ws_aload_n cx dX10_layRows_117 rfl (j := 1) rfl ?_
          refine ws_iload_n cx dX10_layRows_118 rfl (j := 4) rfl ?_
          obtain ⟨_, h45, hM⟩ := bnd hM
          obtain ⟨q43, h44, hM⟩ := bnd hM
          refine ws_callV cx (rest := [.int (((4 : Int32) * v9) + (3 : Int32)), .ref (b + v41)]) (st' := [.int q43.1, .int (((4 : Int32) * v9) + (3 : Int32)), .ref (b + v41)]) (kX10_xOf l D b h44) mvX10_xOf (ck_k h45) (by decide) (q := (RX10, TX10, 31)) rfl seX10_xOf lkX10_116 rfl ⟨by decide, by decide⟩ (Nat.le_of_ble_eq_true rfl) ⟨rfl, rfl⟩ (Or.inl ⟨rfl, rfl⟩) rfl rfl dX10_layRows_119 ?_
          obtain ⟨q46, h47, hM⟩ := bnd hM
          refine ws_callS cx (rest := [.int (((4 : Int32) * v9) + (3 : Int32)), .ref (b + v41)]) (st' := [.int q46.1, .int (((4 : Int32) * v9) + (3 : Int32)), .ref (b + v41)]) (kX10_square l D b h47) mvX10_square lkX10_113 rfl ⟨by decide, by decide⟩ (Nat.le_of_ble_eq_true rfl) ⟨rfl, rfl⟩ (Or.inl ⟨rfl, rfl⟩) rfl rfl dX10_layRows_122 ?_
          refine ws_aload_n cx dX10_layRows_125 rfl (j := 1) rfl ?_
          refine ws_iload_n cx dX10_layRows_126 rfl (j := 4) rfl ?_
          obtain ⟨_, h50, hM⟩ := bnd hM
          obtain ⟨q48, h49, hM⟩ := bnd hM
          refine ws_callV cx (rest := [.int q46.1, .int (((4 : Int32) * v9) + (3 : Int32)), .ref (b + v41)]) (st' := [.int q48.1, .int q46.1, .int (((4 : Int32) * v9) + (3 : Int32)), .ref (b + v41)]) (kX10_yOf l D b h49) mvX10_yOf (ck_k h50) (by decide) (q := (RX10, TX10, 31)) rfl seX10_yOf lkX10_119 rfl ⟨by decide, by decide⟩ (Nat.le_of_ble_eq_true rfl) ⟨rfl, rfl⟩ (Or.inl ⟨rfl, rfl⟩) rfl rfl dX10_layRows_127 ?_
          obtain ⟨q51, h52, hM⟩ := bnd hM
          refine ws_callS cx (rest := [.int q46.1, .int (((4 : Int32) * v9) + (3 : Int32)), .ref (b + v41)]) (st' := [.int q51.1, .int q46.1, .int (((4 : Int32) * v9) + (3 : Int32)), .ref (b + v41)]) (kX10_square l D b h52) mvX10_square lkX10_113 rfl ⟨by decide, by decide⟩ (Nat.le_of_ble_eq_true rfl) ⟨rfl, rfl⟩ (Or.inl ⟨rfl, rfl⟩) rfl rfl dX10_layRows_130 ?_
          refine ws_iadd cx dX10_layRows_133 ?_
          refine ws_aload_n cx dX10_layRows_134 rfl (j := 1) rfl ?_
          refine ws_iload_n cx dX10_layRows_135 rfl (j := 4) rfl ?_
          obtain ⟨_, h55, hM⟩ := bnd hM
          obtain ⟨q53, h54, hM⟩ := bnd hM
          refine ws_callV cx (rest := [.int (q46.1 + q51.1), .int (((4 : Int32) * v9) + (3 : Int32)), .ref (b + v41)]) (st' := [.int q53.1, .int (q46.1 + q51.1), .int (((4 : Int32) * v9) + (3 : Int32)), .ref (b + v41)]) (kX10_timeOf l D b h54) mvX10_timeOf (ck_k h55) (by decide) (q := (RX10, TX10, 31)) rfl seX10_timeOf lkX10_110 rfl ⟨by decide, by decide⟩ (Nat.le_of_ble_eq_true rfl) ⟨rfl, rfl⟩ (Or.inl ⟨rfl, rfl⟩) rfl rfl dX10_layRows_136 ?_
          obtain ⟨q56, h57, hM⟩ := bnd hM
          refine ws_callS cx (rest := [.int (q46.1 + q51.1), .int (((4 : Int32) * v9) + (3 : Int32)), .ref (b + v41)]) (st' := [.int q56.1, .int (q46.1 + q51.1), .int (((4 : Int32) * v9) + (3 : Int32)), .ref (b + v41)]) (kX10_square l D b h57) mvX10_square lkX10_113 rfl ⟨by decide, by decide⟩ (Nat.le_of_ble_eq_true rfl) ⟨rfl, rfl⟩ (Or.inl ⟨rfl, rfl⟩) rfl rfl dX10_layRows_139 ?_
          refine ws_isub cx dX10_layRows_142 ?_
          refine ws_aload_n cx dX10_layRows_143 rfl (j := 1) rfl ?_
          refine ws_iload_n cx dX10_layRows_144 rfl (j := 3) rfl ?_
          obtain ⟨_, h60, hM⟩ := bnd hM
          obtain ⟨q58, h59, hM⟩ := bnd hM
          refine ws_callV cx (rest := [.int ((q46.1 + q51.1) - q56.1), .int (((4 : Int32) * v9) + (3 : Int32)), .ref (b + v41)]) (st' := [.int q58.1, .int ((q46.1 + q51.1) - q56.1), .int (((4 : Int32) * v9) + (3 : Int32)), .ref (b + v41)]) (kX10_xOf l D b h59) mvX10_xOf (ck_k h60) (by decide) (q := (RX10, TX10, 31)) rfl seX10_xOf lkX10_116 rfl ⟨by decide, by decide⟩ (Nat.le_of_ble_eq_true rfl) ⟨rfl, rfl⟩ (Or.inl ⟨rfl, rfl⟩) rfl rfl dX10_layRows_145 ?_
          obtain ⟨q61, h62, hM⟩ := bnd hM
          refine ws_callS cx (rest := [.int ((q46.1 + q51.1) - q56.1), .int (((4 : Int32) * v9) + (3 : Int32)), .ref (b + v41)]) (st' := [.int q61.1, .int ((q46.1 + q51.1) - q56.1), .int (((4 : Int32) * v9) + (3 : Int32)), .ref (b + v41)]) (kX10_square l D b h62) mvX10_square lkX10_113 rfl ⟨by decide, by decide⟩ (Nat.le_of_ble_eq_true rfl) ⟨rfl, rfl⟩ (Or.inl ⟨rfl, rfl⟩) rfl rfl dX10_layRows_148 ?_
          refine ws_isub cx dX10_layRows_151 ?_
          refine ws_aload_n cx dX10_layRows_152 rfl (j := 1) rfl ?_
          refine ws_iload_n cx dX10_layRows_153 rfl (j := 3) rfl ?_
          obtain ⟨_, h65, hM⟩ := bnd hM
          obtain ⟨q63, h64, hM⟩ := bnd hM
          refine ws_callV cx (rest := [.int (((q46.1 + q51.1) - q56.1) - q61.1), .int (((4 : Int32) * v9) + (3 : Int32)), .ref (b + v41)]) (st' := [.int q63.1, .int (((q46.1 + q51.1) - q56.1) - q61.1), .int (((4 : Int32) * v9) + (3 : Int32)), .ref (b + v41)]) (kX10_yOf l D b h64) mvX10_yOf (ck_k h65) (by decide) (q := (RX10, TX10, 31)) rfl seX10_yOf lkX10_119 rfl ⟨by decide, by decide⟩ (Nat.le_of_ble_eq_true rfl) ⟨rfl, rfl⟩ (Or.inl ⟨rfl, rfl⟩) rfl rfl dX10_layRows_154 ?_
          obtain ⟨q66, h67, hM⟩ := bnd hM
          refine ws_callS cx (rest := [.int (((q46.1 + q51.1) - q56.1) - q61.1), .int (((4 : Int32) * v9) + (3 : Int32)), .ref (b + v41)]) (st' := [.int q66.1, .int (((q46.1 + q51.1) - q56.1) - q61.1), .int (((4 : Int32) * v9) + (3 : Int32)), .ref (b + v41)]) (kX10_square l D b h67) mvX10_square lkX10_113 rfl ⟨by decide, by decide⟩ (Nat.le_of_ble_eq_true rfl) ⟨rfl, rfl⟩ (Or.inl ⟨rfl, rfl⟩) rfl rfl dX10_layRows_157 ?_
          refine ws_isub cx dX10_layRows_160 ?_
          refine ws_aload_n cx dX10_layRows_161 rfl (j := 1) rfl ?_
          refine ws_iload_n cx dX10_layRows_162 rfl (j := 3) rfl ?_
          obtain ⟨_, h70, hM⟩ := bnd hM
          obtain ⟨q68, h69, hM⟩ := bnd hM
          refine ws_callV cx (rest := [.int ((((q46.1 + q51.1) - q56.1) - q61.1) - q66.1), .int (((4 : Int32) * v9) + (3 : Int32)), .ref (b + v41)]) (st' := [.int q68.1, .int ((((q46.1 + q51.1) - q56.1) - q61.1) - q66.1), .int (((4 : Int32) * v9) + (3 : Int32)), .ref (b + v41)]) (kX10_timeOf l D b h69) mvX10_timeOf (ck_k h70) (by decide) (q := (RX10, TX10, 31)) rfl seX10_timeOf lkX10_110 rfl ⟨by decide, by decide⟩ (Nat.le_of_ble_eq_true rfl) ⟨rfl, rfl⟩ (Or.inl ⟨rfl, rfl⟩) rfl rfl dX10_layRows_163 ?_
          obtain ⟨q71, h72, hM⟩ := bnd hM
          refine ws_callS cx (rest := [.int ((((q46.1 + q51.1) - q56.1) - q61.1) - q66.1), .int (((4 : Int32) * v9) + (3 : Int32)), .ref (b + v41)]) (st' := [.int q71.1, .int ((((q46.1 + q51.1) - q56.1) - q61.1) - q66.1), .int (((4 : Int32) * v9) + (3 : Int32)), .ref (b + v41)]) (kX10_square l D b h72) mvX10_square lkX10_113 rfl ⟨by decide, by decide⟩ (Nat.le_of_ble_eq_true rfl) ⟨rfl, rfl⟩ (Or.inl ⟨rfl, rfl⟩) rfl rfl dX10_layRows_166 ?_
          refine ws_iadd cx dX10_layRows_169 ?_
          refine ws_i2l cx dX10_layRows_170 ?_
          obtain ⟨m74, h73, hM⟩ := bnd hM
          refine ws_last cx h73 dX10_layRows_171 ?_
          refine ws_aload_n cx dX10_layRows_172 rfl (j := 1) rfl ?_
          refine ws_dup cx dX10_layRows_173 rfl ?_
          obtain ⟨v75, h76, hM⟩ := bnd hM
          refine ws_getI cx ffX10_154 h76 dX10_layRows_174 ?_
          refine ws_iconst cx dX10_layRows_177 (v := 1) (by decide) ?_
          refine ws_iadd cx dX10_layRows_178 ?_
          obtain ⟨m78, h77, hM⟩ := bnd hM
          refine ws_putI cx ffX10_154 h77 dX10_layRows_179 ?_
          refine ws_sub [1, 2, 3, 4] (lv' := [(0, .ref (b + o)), (1, .int a0), (2, .int x2), (3, .int x3)]) rfl ?_
          exact J182 _ ih _ _ _ hM
  unfold mX10_layRows at hM
  refine ws_aload_n cx dX10_layRows_0 rfl (j := 0) rfl ?_
  refine ws_iconst cx dX10_layRows_1 (v := 0) (by decide) ?_
  obtain ⟨m80, h79, hM⟩ := bnd hM
  refine ws_putI cx ffX10_154 h79 dX10_layRows_2 ?_
  refine ws_aload_n cx dX10_layRows_5 rfl (j := 0) rfl ?_
  refine ws_iload_n cx dX10_layRows_6 rfl (j := 1) rfl ?_
  obtain ⟨_, h83, hM⟩ := bnd hM
  obtain ⟨q81, h82, hM⟩ := bnd hM
  refine ws_callV cx (rest := []) (st' := [.int q81.1]) (kX10_firstOf l D b h82) mvX10_firstOf (ck_k h83) (by decide) (q := (RX10, TX10, 31)) rfl seX10_firstOf lkX10_157 rfl ⟨by decide, by decide⟩ (Nat.le_of_ble_eq_true rfl) ⟨rfl, rfl⟩ (Or.inl ⟨rfl, rfl⟩) rfl rfl dX10_layRows_7 ?_
  refine ws_istore_n cx dX10_layRows_10 rfl (by decide) (lv' := [(2, .int q81.1), (0, .ref (b + o)), (1, .int a0)]) rfl ?_
  refine ws_iload_n cx dX10_layRows_11 rfl (j := 0) rfl ?_
  refine ws_iconst cx dX10_layRows_12 (v := 1) (by decide) ?_
  refine ws_iadd cx dX10_layRows_13 ?_
  refine ws_istore_n cx dX10_layRows_14 rfl (by decide) (lv' := [(3, .int (q81.1 + (1 : Int32))), (2, .int q81.1), (0, .ref (b + o)), (1, .int a0)]) rfl ?_
  refine ws_sub [2, 3, 1, 0] (lv' := [(0, .ref (b + o)), (1, .int a0), (2, .int q81.1), (3, .int (q81.1 + (1 : Int32)))]) rfl ?_
  exact L15 _ _ _ _ hM

def mX10_cellAt (S : SH) (me : ME) (o : Nat) (a0 : Int32) (a1 : Int32) : Option (Int64 × ME) :=
  (gR S 10 23 o).bind fun v1 =>
  (aJ S me v1 (((4 : Int32) * a0) + a1)).bind fun v3 =>
  some (v3, me)
set_option maxRecDepth 100000 in
set_option maxHeartbeats 4000000 in
theorem kX10_cellAt (l : Launch) (D : va_G) (b : Nat) {S : SH} {me : ME} {o : Nat} {a0 : Int32} {a1 : Int32} {q : Int64 × ME} (hM : mX10_cellAt S me o a0 a1 = some q) : Ct l D b yX10_cellAt cX10_cellAt 3 (some .long) 0 0 0 0 [.ref (b + o), .int a0, .int a1] S me S q.2 (some (.long q.1)) := by
  refine ct_of (own := RX10) (nm := "cellAt") (lv := [(0, .ref (b + o)), (1, .int a0), (2, .int a1)]) (plainFor_of_name (by decide)) rfl rfl (Nat.le_of_ble_eq_true rfl) rfl ⟨rfl, rfl⟩ (fun X cx ex hL => ?_)
  unfold mX10_cellAt at hM
  refine ws_aload_n cx dX10_cellAt_0 rfl (j := 0) rfl ?_
  obtain ⟨v1, h2, hM⟩ := bnd hM
  refine ws_getR cx ffX10_44 h2 dX10_cellAt_1 ?_
  refine ws_iconst cx dX10_cellAt_4 (v := 4) (by decide) ?_
  refine ws_iload_n cx dX10_cellAt_5 rfl (j := 1) rfl ?_
  refine ws_imul cx dX10_cellAt_6 ?_
  refine ws_iload_n cx dX10_cellAt_7 rfl (j := 2) rfl ?_
  refine ws_iadd cx dX10_cellAt_8 ?_
  obtain ⟨v3, h4, hM⟩ := bnd hM
  refine ws_lald cx h4 dX10_cellAt_9 ?_
  exact ws_lretM cx ex hM dX10_cellAt_10

def mX10_two (S : SH) (me : ME) (o : Nat) (a0 : Int32) (a1 : Int32) (a2 : Int32) (a3 : Int32) : Option (Int64 × ME) :=
  (ck S 10 o).bind fun _ => (mX10_cellAt S me o a0 a2).bind fun q1 =>
  (ck S 10 o).bind fun _ => (mX10_cellAt S q1.2 o a1 a3).bind fun q4 =>
  (ck S 10 o).bind fun _ => (mX10_cellAt S q4.2 o a0 a3).bind fun q7 =>
  (ck S 10 o).bind fun _ => (mX10_cellAt S q7.2 o a1 a2).bind fun q10 =>
  some ((q1.1 * q4.1) - (q7.1 * q10.1), q10.2)
set_option maxRecDepth 100000 in
set_option maxHeartbeats 4000000 in
theorem kX10_two (l : Launch) (D : va_G) (b : Nat) {S : SH} {me : ME} {o : Nat} {a0 : Int32} {a1 : Int32} {a2 : Int32} {a3 : Int32} {q : Int64 × ME} (hM : mX10_two S me o a0 a1 a2 a3 = some q) : Ct l D b yX10_two cX10_two 5 (some .long) 1 22 0 0 [.ref (b + o), .int a0, .int a1, .int a2, .int a3] S me S q.2 (some (.long q.1)) := by
  refine ct_of (own := RX10) (nm := "two") (lv := [(0, .ref (b + o)), (1, .int a0), (2, .int a1), (3, .int a2), (4, .int a3)]) (plainFor_of_name (by decide)) rfl rfl (Nat.le_of_ble_eq_true rfl) rfl ⟨rfl, rfl⟩ (fun X cx ex hL => ?_)
  unfold mX10_two at hM
  refine ws_aload_n cx dX10_two_0 rfl (j := 0) rfl ?_
  refine ws_iload_n cx dX10_two_1 rfl (j := 1) rfl ?_
  refine ws_iload_n cx dX10_two_2 rfl (j := 3) rfl ?_
  obtain ⟨_, h3, hM⟩ := bnd hM
  obtain ⟨q1, h2, hM⟩ := bnd hM
  refine ws_callV cx (rest := []) (st' := [.long q1.1]) (kX10_cellAt l D b h2) mvX10_cellAt (ck_k h3) (by decide) (q := (RX10, TX10, 31)) rfl seX10_cellAt lkX10_160 rfl ⟨by decide, by decide⟩ (Nat.le_of_ble_eq_true rfl) ⟨rfl, rfl⟩ (Or.inl ⟨rfl, rfl⟩) rfl rfl dX10_two_3 ?_
  refine ws_aload_n cx dX10_two_6 rfl (j := 0) rfl ?_
  refine ws_iload_n cx dX10_two_7 rfl (j := 2) rfl ?_
  refine ws_iload cx dX10_two_8 (j := 4) rfl ?_
  obtain ⟨_, h6, hM⟩ := bnd hM
  obtain ⟨q4, h5, hM⟩ := bnd hM
  refine ws_callV cx (rest := [.long q1.1]) (st' := [.long q4.1, .long q1.1]) (kX10_cellAt l D b h5) mvX10_cellAt (ck_k h6) (by decide) (q := (RX10, TX10, 31)) rfl seX10_cellAt lkX10_160 rfl ⟨by decide, by decide⟩ (Nat.le_of_ble_eq_true rfl) ⟨rfl, rfl⟩ (Or.inl ⟨rfl, rfl⟩) rfl rfl dX10_two_10 ?_
  refine ws_lmul cx dX10_two_13 ?_
  refine ws_aload_n cx dX10_two_14 rfl (j := 0) rfl ?_
  refine ws_iload_n cx dX10_two_15 rfl (j := 1) rfl ?_
  refine ws_iload cx dX10_two_16 (j := 4) rfl ?_
  obtain ⟨_, h9, hM⟩ := bnd hM
  obtain ⟨q7, h8, hM⟩ := bnd hM
  refine ws_callV cx (rest := [.long (q1.1 * q4.1)]) (st' := [.long q7.1, .long (q1.1 * q4.1)]) (kX10_cellAt l D b h8) mvX10_cellAt (ck_k h9) (by decide) (q := (RX10, TX10, 31)) rfl seX10_cellAt lkX10_160 rfl ⟨by decide, by decide⟩ (Nat.le_of_ble_eq_true rfl) ⟨rfl, rfl⟩ (Or.inl ⟨rfl, rfl⟩) rfl rfl dX10_two_18 ?_
  refine ws_aload_n cx dX10_two_21 rfl (j := 0) rfl ?_
  refine ws_iload_n cx dX10_two_22 rfl (j := 2) rfl ?_
  refine ws_iload_n cx dX10_two_23 rfl (j := 3) rfl ?_
  obtain ⟨_, h12, hM⟩ := bnd hM
  obtain ⟨q10, h11, hM⟩ := bnd hM
  refine ws_callV cx (rest := [.long q7.1, .long (q1.1 * q4.1)]) (st' := [.long q10.1, .long q7.1, .long (q1.1 * q4.1)]) (kX10_cellAt l D b h11) mvX10_cellAt (ck_k h12) (by decide) (q := (RX10, TX10, 31)) rfl seX10_cellAt lkX10_160 rfl ⟨by decide, by decide⟩ (Nat.le_of_ble_eq_true rfl) ⟨rfl, rfl⟩ (Or.inl ⟨rfl, rfl⟩) rfl rfl dX10_two_24 ?_
  refine ws_lmul cx dX10_two_27 ?_
  refine ws_lsub cx dX10_two_28 ?_
  exact ws_lretM cx ex hM dX10_two_29

def mX10_three (S : SH) (me : ME) (o : Nat) (a0 : Int32) (a1 : Int32) (a2 : Int32) (a3 : Int32) (a4 : Int32) (a5 : Int32) : Option (Int64 × ME) :=
  (ck S 10 o).bind fun _ => (mX10_cellAt S me o a0 a3).bind fun q1 =>
  (ck S 10 o).bind fun _ => (mX10_cellAt S q1.2 o a1 a4).bind fun q4 =>
  (ck S 10 o).bind fun _ => (mX10_cellAt S q4.2 o a2 a5).bind fun q7 =>
  (ck S 10 o).bind fun _ => (mX10_cellAt S q7.2 o a1 a5).bind fun q10 =>
  (ck S 10 o).bind fun _ => (mX10_cellAt S q10.2 o a2 a4).bind fun q13 =>
  (ck S 10 o).bind fun _ => (mX10_cellAt S q13.2 o a0 a4).bind fun q16 =>
  (ck S 10 o).bind fun _ => (mX10_cellAt S q16.2 o a1 a3).bind fun q19 =>
  (ck S 10 o).bind fun _ => (mX10_cellAt S q19.2 o a2 a5).bind fun q22 =>
  (ck S 10 o).bind fun _ => (mX10_cellAt S q22.2 o a1 a5).bind fun q25 =>
  (ck S 10 o).bind fun _ => (mX10_cellAt S q25.2 o a2 a3).bind fun q28 =>
  (ck S 10 o).bind fun _ => (mX10_cellAt S q28.2 o a0 a5).bind fun q31 =>
  (ck S 10 o).bind fun _ => (mX10_cellAt S q31.2 o a1 a3).bind fun q34 =>
  (ck S 10 o).bind fun _ => (mX10_cellAt S q34.2 o a2 a4).bind fun q37 =>
  (ck S 10 o).bind fun _ => (mX10_cellAt S q37.2 o a1 a4).bind fun q40 =>
  (ck S 10 o).bind fun _ => (mX10_cellAt S q40.2 o a2 a3).bind fun q43 =>
  some (((q1.1 * ((q4.1 * q7.1) - (q10.1 * q13.1))) - (q16.1 * ((q19.1 * q22.1) - (q25.1 * q28.1)))) + (q31.1 * ((q34.1 * q37.1) - (q40.1 * q43.1))), q43.2)
set_option maxRecDepth 100000 in
set_option maxHeartbeats 4000000 in
theorem kX10_three (l : Launch) (D : va_G) (b : Nat) {S : SH} {me : ME} {o : Nat} {a0 : Int32} {a1 : Int32} {a2 : Int32} {a3 : Int32} {a4 : Int32} {a5 : Int32} {q : Int64 × ME} (hM : mX10_three S me o a0 a1 a2 a3 a4 a5 = some q) : Ct l D b yX10_three cX10_three 7 (some .long) 1 22 0 0 [.ref (b + o), .int a0, .int a1, .int a2, .int a3, .int a4, .int a5] S me S q.2 (some (.long q.1)) := by
  refine ct_of (own := RX10) (nm := "three") (lv := [(0, .ref (b + o)), (1, .int a0), (2, .int a1), (3, .int a2), (4, .int a3), (5, .int a4), (6, .int a5)]) (plainFor_of_name (by decide)) rfl rfl (Nat.le_of_ble_eq_true rfl) rfl ⟨rfl, rfl⟩ (fun X cx ex hL => ?_)
  unfold mX10_three at hM
  refine ws_aload_n cx dX10_three_0 rfl (j := 0) rfl ?_
  refine ws_iload_n cx dX10_three_1 rfl (j := 1) rfl ?_
  refine ws_iload cx dX10_three_2 (j := 4) rfl ?_
  obtain ⟨_, h3, hM⟩ := bnd hM
  obtain ⟨q1, h2, hM⟩ := bnd hM
  refine ws_callV cx (rest := []) (st' := [.long q1.1]) (kX10_cellAt l D b h2) mvX10_cellAt (ck_k h3) (by decide) (q := (RX10, TX10, 31)) rfl seX10_cellAt lkX10_160 rfl ⟨by decide, by decide⟩ (Nat.le_of_ble_eq_true rfl) ⟨rfl, rfl⟩ (Or.inl ⟨rfl, rfl⟩) rfl rfl dX10_three_4 ?_
  refine ws_aload_n cx dX10_three_7 rfl (j := 0) rfl ?_
  refine ws_iload_n cx dX10_three_8 rfl (j := 2) rfl ?_
  refine ws_iload cx dX10_three_9 (j := 5) rfl ?_
  obtain ⟨_, h6, hM⟩ := bnd hM
  obtain ⟨q4, h5, hM⟩ := bnd hM
  refine ws_callV cx (rest := [.long q1.1]) (st' := [.long q4.1, .long q1.1]) (kX10_cellAt l D b h5) mvX10_cellAt (ck_k h6) (by decide) (q := (RX10, TX10, 31)) rfl seX10_cellAt lkX10_160 rfl ⟨by decide, by decide⟩ (Nat.le_of_ble_eq_true rfl) ⟨rfl, rfl⟩ (Or.inl ⟨rfl, rfl⟩) rfl rfl dX10_three_11 ?_
  refine ws_aload_n cx dX10_three_14 rfl (j := 0) rfl ?_
  refine ws_iload_n cx dX10_three_15 rfl (j := 3) rfl ?_
  refine ws_iload cx dX10_three_16 (j := 6) rfl ?_
  obtain ⟨_, h9, hM⟩ := bnd hM
  obtain ⟨q7, h8, hM⟩ := bnd hM
  refine ws_callV cx (rest := [.long q4.1, .long q1.1]) (st' := [.long q7.1, .long q4.1, .long q1.1]) (kX10_cellAt l D b h8) mvX10_cellAt (ck_k h9) (by decide) (q := (RX10, TX10, 31)) rfl seX10_cellAt lkX10_160 rfl ⟨by decide, by decide⟩ (Nat.le_of_ble_eq_true rfl) ⟨rfl, rfl⟩ (Or.inl ⟨rfl, rfl⟩) rfl rfl dX10_three_18 ?_
  refine ws_lmul cx dX10_three_21 ?_
  refine ws_aload_n cx dX10_three_22 rfl (j := 0) rfl ?_
  refine ws_iload_n cx dX10_three_23 rfl (j := 2) rfl ?_
  refine ws_iload cx dX10_three_24 (j := 6) rfl ?_
  obtain ⟨_, h12, hM⟩ := bnd hM
  obtain ⟨q10, h11, hM⟩ := bnd hM
  refine ws_callV cx (rest := [.long (q4.1 * q7.1), .long q1.1]) (st' := [.long q10.1, .long (q4.1 * q7.1), .long q1.1]) (kX10_cellAt l D b h11) mvX10_cellAt (ck_k h12) (by decide) (q := (RX10, TX10, 31)) rfl seX10_cellAt lkX10_160 rfl ⟨by decide, by decide⟩ (Nat.le_of_ble_eq_true rfl) ⟨rfl, rfl⟩ (Or.inl ⟨rfl, rfl⟩) rfl rfl dX10_three_26 ?_
  refine ws_aload_n cx dX10_three_29 rfl (j := 0) rfl ?_
  refine ws_iload_n cx dX10_three_30 rfl (j := 3) rfl ?_
  refine ws_iload cx dX10_three_31 (j := 5) rfl ?_
  obtain ⟨_, h15, hM⟩ := bnd hM
  obtain ⟨q13, h14, hM⟩ := bnd hM
  refine ws_callV cx (rest := [.long q10.1, .long (q4.1 * q7.1), .long q1.1]) (st' := [.long q13.1, .long q10.1, .long (q4.1 * q7.1), .long q1.1]) (kX10_cellAt l D b h14) mvX10_cellAt (ck_k h15) (by decide) (q := (RX10, TX10, 31)) rfl seX10_cellAt lkX10_160 rfl ⟨by decide, by decide⟩ (Nat.le_of_ble_eq_true rfl) ⟨rfl, rfl⟩ (Or.inl ⟨rfl, rfl⟩) rfl rfl dX10_three_33 ?_
  refine ws_lmul cx dX10_three_36 ?_
  refine ws_lsub cx dX10_three_37 ?_
  refine ws_lmul cx dX10_three_38 ?_
  refine ws_aload_n cx dX10_three_39 rfl (j := 0) rfl ?_
  refine ws_iload_n cx dX10_three_40 rfl (j := 1) rfl ?_
  refine ws_iload cx dX10_three_41 (j := 5) rfl ?_
  obtain ⟨_, h18, hM⟩ := bnd hM
  obtain ⟨q16, h17, hM⟩ := bnd hM
  refine ws_callV cx (rest := [.long (q1.1 * ((q4.1 * q7.1) - (q10.1 * q13.1)))]) (st' := [.long q16.1, .long (q1.1 * ((q4.1 * q7.1) - (q10.1 * q13.1)))]) (kX10_cellAt l D b h17) mvX10_cellAt (ck_k h18) (by decide) (q := (RX10, TX10, 31)) rfl seX10_cellAt lkX10_160 rfl ⟨by decide, by decide⟩ (Nat.le_of_ble_eq_true rfl) ⟨rfl, rfl⟩ (Or.inl ⟨rfl, rfl⟩) rfl rfl dX10_three_43 ?_
  refine ws_aload_n cx dX10_three_46 rfl (j := 0) rfl ?_
  refine ws_iload_n cx dX10_three_47 rfl (j := 2) rfl ?_
  refine ws_iload cx dX10_three_48 (j := 4) rfl ?_
  obtain ⟨_, h21, hM⟩ := bnd hM
  obtain ⟨q19, h20, hM⟩ := bnd hM
  refine ws_callV cx (rest := [.long q16.1, .long (q1.1 * ((q4.1 * q7.1) - (q10.1 * q13.1)))]) (st' := [.long q19.1, .long q16.1, .long (q1.1 * ((q4.1 * q7.1) - (q10.1 * q13.1)))]) (kX10_cellAt l D b h20) mvX10_cellAt (ck_k h21) (by decide) (q := (RX10, TX10, 31)) rfl seX10_cellAt lkX10_160 rfl ⟨by decide, by decide⟩ (Nat.le_of_ble_eq_true rfl) ⟨rfl, rfl⟩ (Or.inl ⟨rfl, rfl⟩) rfl rfl dX10_three_50 ?_
  refine ws_aload_n cx dX10_three_53 rfl (j := 0) rfl ?_
  refine ws_iload_n cx dX10_three_54 rfl (j := 3) rfl ?_
  refine ws_iload cx dX10_three_55 (j := 6) rfl ?_
  obtain ⟨_, h24, hM⟩ := bnd hM
  obtain ⟨q22, h23, hM⟩ := bnd hM
  refine ws_callV cx (rest := [.long q19.1, .long q16.1, .long (q1.1 * ((q4.1 * q7.1) - (q10.1 * q13.1)))]) (st' := [.long q22.1, .long q19.1, .long q16.1, .long (q1.1 * ((q4.1 * q7.1) - (q10.1 * q13.1)))]) (kX10_cellAt l D b h23) mvX10_cellAt (ck_k h24) (by decide) (q := (RX10, TX10, 31)) rfl seX10_cellAt lkX10_160 rfl ⟨by decide, by decide⟩ (Nat.le_of_ble_eq_true rfl) ⟨rfl, rfl⟩ (Or.inl ⟨rfl, rfl⟩) rfl rfl dX10_three_57 ?_
  refine ws_lmul cx dX10_three_60 ?_
  refine ws_aload_n cx dX10_three_61 rfl (j := 0) rfl ?_
  refine ws_iload_n cx dX10_three_62 rfl (j := 2) rfl ?_
  refine ws_iload cx dX10_three_63 (j := 6) rfl ?_
  obtain ⟨_, h27, hM⟩ := bnd hM
  obtain ⟨q25, h26, hM⟩ := bnd hM
  refine ws_callV cx (rest := [.long (q19.1 * q22.1), .long q16.1, .long (q1.1 * ((q4.1 * q7.1) - (q10.1 * q13.1)))]) (st' := [.long q25.1, .long (q19.1 * q22.1), .long q16.1, .long (q1.1 * ((q4.1 * q7.1) - (q10.1 * q13.1)))]) (kX10_cellAt l D b h26) mvX10_cellAt (ck_k h27) (by decide) (q := (RX10, TX10, 31)) rfl seX10_cellAt lkX10_160 rfl ⟨by decide, by decide⟩ (Nat.le_of_ble_eq_true rfl) ⟨rfl, rfl⟩ (Or.inl ⟨rfl, rfl⟩) rfl rfl dX10_three_65 ?_
  refine ws_aload_n cx dX10_three_68 rfl (j := 0) rfl ?_
  refine ws_iload_n cx dX10_three_69 rfl (j := 3) rfl ?_
  refine ws_iload cx dX10_three_70 (j := 4) rfl ?_
  obtain ⟨_, h30, hM⟩ := bnd hM
  obtain ⟨q28, h29, hM⟩ := bnd hM
  refine ws_callV cx (rest := [.long q25.1, .long (q19.1 * q22.1), .long q16.1, .long (q1.1 * ((q4.1 * q7.1) - (q10.1 * q13.1)))]) (st' := [.long q28.1, .long q25.1, .long (q19.1 * q22.1), .long q16.1, .long (q1.1 * ((q4.1 * q7.1) - (q10.1 * q13.1)))]) (kX10_cellAt l D b h29) mvX10_cellAt (ck_k h30) (by decide) (q := (RX10, TX10, 31)) rfl seX10_cellAt lkX10_160 rfl ⟨by decide, by decide⟩ (Nat.le_of_ble_eq_true rfl) ⟨rfl, rfl⟩ (Or.inl ⟨rfl, rfl⟩) rfl rfl dX10_three_72 ?_
  refine ws_lmul cx dX10_three_75 ?_
  refine ws_lsub cx dX10_three_76 ?_
  refine ws_lmul cx dX10_three_77 ?_
  refine ws_lsub cx dX10_three_78 ?_
  refine ws_aload_n cx dX10_three_79 rfl (j := 0) rfl ?_
  refine ws_iload_n cx dX10_three_80 rfl (j := 1) rfl ?_
  refine ws_iload cx dX10_three_81 (j := 6) rfl ?_
  obtain ⟨_, h33, hM⟩ := bnd hM
  obtain ⟨q31, h32, hM⟩ := bnd hM
  refine ws_callV cx (rest := [.long ((q1.1 * ((q4.1 * q7.1) - (q10.1 * q13.1))) - (q16.1 * ((q19.1 * q22.1) - (q25.1 * q28.1))))]) (st' := [.long q31.1, .long ((q1.1 * ((q4.1 * q7.1) - (q10.1 * q13.1))) - (q16.1 * ((q19.1 * q22.1) - (q25.1 * q28.1))))]) (kX10_cellAt l D b h32) mvX10_cellAt (ck_k h33) (by decide) (q := (RX10, TX10, 31)) rfl seX10_cellAt lkX10_160 rfl ⟨by decide, by decide⟩ (Nat.le_of_ble_eq_true rfl) ⟨rfl, rfl⟩ (Or.inl ⟨rfl, rfl⟩) rfl rfl dX10_three_83 ?_
  refine ws_aload_n cx dX10_three_86 rfl (j := 0) rfl ?_
  refine ws_iload_n cx dX10_three_87 rfl (j := 2) rfl ?_
  refine ws_iload cx dX10_three_88 (j := 4) rfl ?_
  obtain ⟨_, h36, hM⟩ := bnd hM
  obtain ⟨q34, h35, hM⟩ := bnd hM
  refine ws_callV cx (rest := [.long q31.1, .long ((q1.1 * ((q4.1 * q7.1) - (q10.1 * q13.1))) - (q16.1 * ((q19.1 * q22.1) - (q25.1 * q28.1))))]) (st' := [.long q34.1, .long q31.1, .long ((q1.1 * ((q4.1 * q7.1) - (q10.1 * q13.1))) - (q16.1 * ((q19.1 * q22.1) - (q25.1 * q28.1))))]) (kX10_cellAt l D b h35) mvX10_cellAt (ck_k h36) (by decide) (q := (RX10, TX10, 31)) rfl seX10_cellAt lkX10_160 rfl ⟨by decide, by decide⟩ (Nat.le_of_ble_eq_true rfl) ⟨rfl, rfl⟩ (Or.inl ⟨rfl, rfl⟩) rfl rfl dX10_three_90 ?_
  refine ws_aload_n cx dX10_three_93 rfl (j := 0) rfl ?_
  refine ws_iload_n cx dX10_three_94 rfl (j := 3) rfl ?_
  refine ws_iload cx dX10_three_95 (j := 5) rfl ?_
  obtain ⟨_, h39, hM⟩ := bnd hM
  obtain ⟨q37, h38, hM⟩ := bnd hM
  refine ws_callV cx (rest := [.long q34.1, .long q31.1, .long ((q1.1 * ((q4.1 * q7.1) - (q10.1 * q13.1))) - (q16.1 * ((q19.1 * q22.1) - (q25.1 * q28.1))))]) (st' := [.long q37.1, .long q34.1, .long q31.1, .long ((q1.1 * ((q4.1 * q7.1) - (q10.1 * q13.1))) - (q16.1 * ((q19.1 * q22.1) - (q25.1 * q28.1))))]) (kX10_cellAt l D b h38) mvX10_cellAt (ck_k h39) (by decide) (q := (RX10, TX10, 31)) rfl seX10_cellAt lkX10_160 rfl ⟨by decide, by decide⟩ (Nat.le_of_ble_eq_true rfl) ⟨rfl, rfl⟩ (Or.inl ⟨rfl, rfl⟩) rfl rfl dX10_three_97 ?_
  refine ws_lmul cx dX10_three_100 ?_
  refine ws_aload_n cx dX10_three_101 rfl (j := 0) rfl ?_
  refine ws_iload_n cx dX10_three_102 rfl (j := 2) rfl ?_
  refine ws_iload cx dX10_three_103 (j := 5) rfl ?_
  obtain ⟨_, h42, hM⟩ := bnd hM
  obtain ⟨q40, h41, hM⟩ := bnd hM
  refine ws_callV cx (rest := [.long (q34.1 * q37.1), .long q31.1, .long ((q1.1 * ((q4.1 * q7.1) - (q10.1 * q13.1))) - (q16.1 * ((q19.1 * q22.1) - (q25.1 * q28.1))))]) (st' := [.long q40.1, .long (q34.1 * q37.1), .long q31.1, .long ((q1.1 * ((q4.1 * q7.1) - (q10.1 * q13.1))) - (q16.1 * ((q19.1 * q22.1) - (q25.1 * q28.1))))]) (kX10_cellAt l D b h41) mvX10_cellAt (ck_k h42) (by decide) (q := (RX10, TX10, 31)) rfl seX10_cellAt lkX10_160 rfl ⟨by decide, by decide⟩ (Nat.le_of_ble_eq_true rfl) ⟨rfl, rfl⟩ (Or.inl ⟨rfl, rfl⟩) rfl rfl dX10_three_105 ?_
  refine ws_aload_n cx dX10_three_108 rfl (j := 0) rfl ?_
  refine ws_iload_n cx dX10_three_109 rfl (j := 3) rfl ?_
  refine ws_iload cx dX10_three_110 (j := 4) rfl ?_
  obtain ⟨_, h45, hM⟩ := bnd hM
  obtain ⟨q43, h44, hM⟩ := bnd hM
  refine ws_callV cx (rest := [.long q40.1, .long (q34.1 * q37.1), .long q31.1, .long ((q1.1 * ((q4.1 * q7.1) - (q10.1 * q13.1))) - (q16.1 * ((q19.1 * q22.1) - (q25.1 * q28.1))))]) (st' := [.long q43.1, .long q40.1, .long (q34.1 * q37.1), .long q31.1, .long ((q1.1 * ((q4.1 * q7.1) - (q10.1 * q13.1))) - (q16.1 * ((q19.1 * q22.1) - (q25.1 * q28.1))))]) (kX10_cellAt l D b h44) mvX10_cellAt (ck_k h45) (by decide) (q := (RX10, TX10, 31)) rfl seX10_cellAt lkX10_160 rfl ⟨by decide, by decide⟩ (Nat.le_of_ble_eq_true rfl) ⟨rfl, rfl⟩ (Or.inl ⟨rfl, rfl⟩) rfl rfl dX10_three_112 ?_
  refine ws_lmul cx dX10_three_115 ?_
  refine ws_lsub cx dX10_three_116 ?_
  refine ws_lmul cx dX10_three_117 ?_
  refine ws_ladd cx dX10_three_118 ?_
  exact ws_lretM cx ex hM dX10_three_119

def mX10_rankOf_j145 (S : SH) (o : Nat) (a0 : Int32) (k9 : (ME × Int32 × Int32 → Option (Int32 × ME))) (k20 : (ME × Int32 × Int32 × Int32 → Option (Int32 × ME))) (k52 : (ME × Int32 × Int32 × Int32 × Int32 → Option (Int32 × ME))) (k61 : (ME × Int32 × Int32 × Int32 × Int32 × Int32 → Option (Int32 × ME))) (k98 : (ME × Int32 × Int32 × Int32 × Int32 × Int32 × Int32 → Option (Int32 × ME))) (k113 : (ME × Int32 × Int32 × Int32 × Int32 × Int32 × Int32 × Int32 → Option (Int32 × ME))) (me : ME) (x3 : Int32) (x4 : Int32) (x5 : Int32) (x6 : Int32) (x7 : Int32) (x8 : Int32) (y0 : Int32) : Option (Int32 × ME) :=
  k113 (me, y0, x3, x4, x5, x6, x7, x8 + (1 : Int32))
def mX10_rankOf_j152 (S : SH) (o : Nat) (a0 : Int32) (k9 : (ME × Int32 × Int32 → Option (Int32 × ME))) (k20 : (ME × Int32 × Int32 × Int32 → Option (Int32 × ME))) (k52 : (ME × Int32 × Int32 × Int32 × Int32 → Option (Int32 × ME))) (k61 : (ME × Int32 × Int32 × Int32 × Int32 × Int32 → Option (Int32 × ME))) (k98 : (ME × Int32 × Int32 × Int32 × Int32 × Int32 × Int32 → Option (Int32 × ME))) (me : ME) (x2 : Int32) (x3 : Int32) (x4 : Int32) (x5 : Int32) (x6 : Int32) (x7 : Int32) : Option (Int32 × ME) :=
  k98 (me, x2, x3, x4, x5, x6, x7 + (1 : Int32))
def mX10_rankOf_L113 (S : SH) (o : Nat) (a0 : Int32) (k9 : (ME × Int32 × Int32 → Option (Int32 × ME))) (k20 : (ME × Int32 × Int32 × Int32 → Option (Int32 × ME))) (k52 : (ME × Int32 × Int32 × Int32 × Int32 → Option (Int32 × ME))) (k61 : (ME × Int32 × Int32 × Int32 × Int32 × Int32 → Option (Int32 × ME))) (k98 : (ME × Int32 × Int32 × Int32 × Int32 × Int32 × Int32 → Option (Int32 × ME))) (k113 : (ME × Int32 × Int32 × Int32 × Int32 × Int32 × Int32 × Int32 → Option (Int32 × ME))) : ME × Int32 × Int32 × Int32 × Int32 × Int32 × Int32 × Int32 → Option (Int32 × ME)
  | (me, x2, x3, x4, x5, x6, x7, x8) =>
    if x6 ≤ x8 then
      mX10_rankOf_j152 S o a0 k9 k20 k52 k61 k98 me x2 x3 x4 x5 x6 x7
    else
      (ck S 10 o).bind fun _ => (mX10_three S me o x3 x5 x7 x4 x6 x8).bind fun q2 =>
      if (lg_cmp q2.1 (0 : Int64)) = 0 then
        mX10_rankOf_j145 S o a0 k9 k20 k52 k61 k98 k113 q2.2 x3 x4 x5 x6 x7 x8 x2
      else
        mX10_rankOf_j145 S o a0 k9 k20 k52 k61 k98 k113 q2.2 x3 x4 x5 x6 x7 x8 (3 : Int32)
def mX10_rankOf_j158 (S : SH) (o : Nat) (a0 : Int32) (k9 : (ME × Int32 × Int32 → Option (Int32 × ME))) (k20 : (ME × Int32 × Int32 × Int32 → Option (Int32 × ME))) (k52 : (ME × Int32 × Int32 × Int32 × Int32 → Option (Int32 × ME))) (k61 : (ME × Int32 × Int32 × Int32 × Int32 × Int32 → Option (Int32 × ME))) (me : ME) (x2 : Int32) (x3 : Int32) (x4 : Int32) (x5 : Int32) (x6 : Int32) : Option (Int32 × ME) :=
  k61 (me, x2, x3, x4, x5, x6 + (1 : Int32))
def mX10_rankOf_L98 (S : SH) (o : Nat) (a0 : Int32) (k9 : (ME × Int32 × Int32 → Option (Int32 × ME))) (k20 : (ME × Int32 × Int32 × Int32 → Option (Int32 × ME))) (k52 : (ME × Int32 × Int32 × Int32 × Int32 → Option (Int32 × ME))) (k61 : (ME × Int32 × Int32 × Int32 × Int32 × Int32 → Option (Int32 × ME))) (k98 : (ME × Int32 × Int32 × Int32 × Int32 × Int32 × Int32 → Option (Int32 × ME))) : ME × Int32 × Int32 × Int32 × Int32 × Int32 × Int32 → Option (Int32 × ME)
  | (me, x2, x3, x4, x5, x6, x7) =>
    if x5 ≤ x7 then
      mX10_rankOf_j158 S o a0 k9 k20 k52 k61 me x2 x3 x4 x5 x6
    else
      if (3 : Int32) ≤ x2 then
        mX10_rankOf_j158 S o a0 k9 k20 k52 k61 me x2 x3 x4 x5 x6
      else
        lpn (mX10_rankOf_L113 S o a0 k9 k20 k52 k61 k98) lpF (me, x2, x3, x4, x5, x6, x7, (0 : Int32))
def mX10_rankOf_j94 (S : SH) (o : Nat) (a0 : Int32) (k9 : (ME × Int32 × Int32 → Option (Int32 × ME))) (k20 : (ME × Int32 × Int32 × Int32 → Option (Int32 × ME))) (k52 : (ME × Int32 × Int32 × Int32 × Int32 → Option (Int32 × ME))) (k61 : (ME × Int32 × Int32 × Int32 × Int32 × Int32 → Option (Int32 × ME))) (me : ME) (x3 : Int32) (x4 : Int32) (x5 : Int32) (x6 : Int32) (y0 : Int32) : Option (Int32 × ME) :=
  lpn (mX10_rankOf_L98 S o a0 k9 k20 k52 k61) lpF (me, y0, x3, x4, x5, x6, (0 : Int32))
def mX10_rankOf_j93 (S : SH) (o : Nat) (a0 : Int32) (k9 : (ME × Int32 × Int32 → Option (Int32 × ME))) (k20 : (ME × Int32 × Int32 × Int32 → Option (Int32 × ME))) (k52 : (ME × Int32 × Int32 × Int32 × Int32 → Option (Int32 × ME))) (k61 : (ME × Int32 × Int32 × Int32 × Int32 × Int32 → Option (Int32 × ME))) (me : ME) (x2 : Int32) (x3 : Int32) (x4 : Int32) (x5 : Int32) (x6 : Int32) : Option (Int32 × ME) :=
  mX10_rankOf_j94 S o a0 k9 k20 k52 k61 me x3 x4 x5 x6 x2
def mX10_rankOf_j164 (S : SH) (o : Nat) (a0 : Int32) (k9 : (ME × Int32 × Int32 → Option (Int32 × ME))) (k20 : (ME × Int32 × Int32 × Int32 → Option (Int32 × ME))) (k52 : (ME × Int32 × Int32 × Int32 × Int32 → Option (Int32 × ME))) (me : ME) (x2 : Int32) (x3 : Int32) (x4 : Int32) (x5 : Int32) : Option (Int32 × ME) :=
  k52 (me, x2, x3, x4, x5 + (1 : Int32))
def mX10_rankOf_L61 (S : SH) (o : Nat) (a0 : Int32) (k9 : (ME × Int32 × Int32 → Option (Int32 × ME))) (k20 : (ME × Int32 × Int32 × Int32 → Option (Int32 × ME))) (k52 : (ME × Int32 × Int32 × Int32 × Int32 → Option (Int32 × ME))) (k61 : (ME × Int32 × Int32 × Int32 × Int32 × Int32 → Option (Int32 × ME))) : ME × Int32 × Int32 × Int32 × Int32 × Int32 → Option (Int32 × ME)
  | (me, x2, x3, x4, x5, x6) =>
    if x4 ≤ x6 then
      mX10_rankOf_j164 S o a0 k9 k20 k52 me x2 x3 x4 x5
    else
      if (2 : Int32) ≤ x2 then
        mX10_rankOf_j93 S o a0 k9 k20 k52 k61 me x2 x3 x4 x5 x6
      else
        (ck S 10 o).bind fun _ => (mX10_two S me o x3 x5 x4 x6).bind fun q10 =>
        if (lg_cmp q10.1 (0 : Int64)) = 0 then
          mX10_rankOf_j93 S o a0 k9 k20 k52 k61 q10.2 x2 x3 x4 x5 x6
        else
          mX10_rankOf_j94 S o a0 k9 k20 k52 k61 q10.2 x3 x4 x5 x6 (2 : Int32)
def mX10_rankOf_j170 (S : SH) (o : Nat) (a0 : Int32) (k9 : (ME × Int32 × Int32 → Option (Int32 × ME))) (k20 : (ME × Int32 × Int32 × Int32 → Option (Int32 × ME))) (me : ME) (x2 : Int32) (x3 : Int32) (x4 : Int32) : Option (Int32 × ME) :=
  k20 (me, x2, x3, x4 + (1 : Int32))
def mX10_rankOf_L52 (S : SH) (o : Nat) (a0 : Int32) (k9 : (ME × Int32 × Int32 → Option (Int32 × ME))) (k20 : (ME × Int32 × Int32 × Int32 → Option (Int32 × ME))) (k52 : (ME × Int32 × Int32 × Int32 × Int32 → Option (Int32 × ME))) : ME × Int32 × Int32 × Int32 × Int32 → Option (Int32 × ME)
  | (me, x2, x3, x4, x5) =>
    if x3 ≤ x5 then
      mX10_rankOf_j170 S o a0 k9 k20 me x2 x3 x4
    else
      lpn (mX10_rankOf_L61 S o a0 k9 k20 k52) lpF (me, x2, x3, x4, x5, (0 : Int32))
def mX10_rankOf_j48 (S : SH) (o : Nat) (a0 : Int32) (k9 : (ME × Int32 × Int32 → Option (Int32 × ME))) (k20 : (ME × Int32 × Int32 × Int32 → Option (Int32 × ME))) (me : ME) (x3 : Int32) (x4 : Int32) (y0 : Int32) : Option (Int32 × ME) :=
  lpn (mX10_rankOf_L52 S o a0 k9 k20) lpF (me, y0, x3, x4, (0 : Int32))
def mX10_rankOf_j47 (S : SH) (o : Nat) (a0 : Int32) (k9 : (ME × Int32 × Int32 → Option (Int32 × ME))) (k20 : (ME × Int32 × Int32 × Int32 → Option (Int32 × ME))) (me : ME) (x2 : Int32) (x3 : Int32) (x4 : Int32) : Option (Int32 × ME) :=
  mX10_rankOf_j48 S o a0 k9 k20 me x3 x4 x2
def mX10_rankOf_j176 (S : SH) (o : Nat) (a0 : Int32) (k9 : (ME × Int32 × Int32 → Option (Int32 × ME))) (me : ME) (x2 : Int32) (x3 : Int32) : Option (Int32 × ME) :=
  k9 (me, x2, x3 + (1 : Int32))
def mX10_rankOf_L20 (S : SH) (o : Nat) (a0 : Int32) (k9 : (ME × Int32 × Int32 → Option (Int32 × ME))) (k20 : (ME × Int32 × Int32 × Int32 → Option (Int32 × ME))) : ME × Int32 × Int32 × Int32 → Option (Int32 × ME)
  | (me, x2, x3, x4) =>
    if (3 : Int32) ≤ x4 then
      mX10_rankOf_j176 S o a0 k9 me x2 x3
    else
      if (1 : Int32) ≤ x2 then
        mX10_rankOf_j47 S o a0 k9 k20 me x2 x3 x4
      else
        (ck S 10 o).bind fun _ => (mX10_cellAt S me o x3 x4).bind fun q17 =>
        if (lg_cmp q17.1 (0 : Int64)) = 0 then
          mX10_rankOf_j47 S o a0 k9 k20 q17.2 x2 x3 x4
        else
          mX10_rankOf_j48 S o a0 k9 k20 q17.2 x3 x4 (1 : Int32)
def mX10_rankOf_j182 (S : SH) (o : Nat) (a0 : Int32) (me : ME) (x2 : Int32) : Option (Int32 × ME) :=
  some (x2, me)
def mX10_rankOf_L9 (S : SH) (o : Nat) (a0 : Int32) (k9 : (ME × Int32 × Int32 → Option (Int32 × ME))) : ME × Int32 × Int32 → Option (Int32 × ME)
  | (me, x2, x3) =>
    (gI S me 10 22 o).bind fun v21 =>
    if v21 ≤ x3 then
      mX10_rankOf_j182 S o a0 me x2
    else
      lpn (mX10_rankOf_L20 S o a0 k9) lpF (me, x2, x3, (0 : Int32))
def mX10_rankOf (S : SH) (me : ME) (o : Nat) (a0 : Int32) : Option (Int32 × ME) :=
  (ck S 10 o).bind fun _ => (mX10_layRows S me o a0).bind fun q24 =>
  lpn (mX10_rankOf_L9 S o a0) lpF (q24.2, (0 : Int32), (0 : Int32))
set_option maxRecDepth 100000 in
set_option maxHeartbeats 4000000 in
theorem kX10_rankOf (l : Launch) (D : va_G) (b : Nat) {S : SH} {me : ME} {o : Nat} {a0 : Int32} {q : Int32 × ME} (hM : mX10_rankOf S me o a0 = some q) : Ct l D b yX10_rankOf cX10_rankOf 9 (some .int) 3 67 0 0 [.ref (b + o), .int a0] S me S q.2 (some (.int q.1)) := by
  refine ct_of (own := RX10) (nm := "rankOf") (lv := [(0, .ref (b + o)), (1, .int a0)]) (plainFor_of_name (by decide)) rfl rfl (Nat.le_of_ble_eq_true rfl) rfl ⟨rfl, rfl⟩ (fun X cx ex hL => ?_)
  have J145 : ∀ (k9 : (ME × Int32 × Int32 → Option (Int32 × ME))), (∀ (me : ME) (x2 : Int32) (x3 : Int32), k9 (me, x2, x3) = some q → WS X b 9 S me 9 [(0, .ref (b + o)), (2, .int x2), (3, .int x3)] []) → ∀ (k20 : (ME × Int32 × Int32 × Int32 → Option (Int32 × ME))), (∀ (me : ME) (x2 : Int32) (x3 : Int32) (x4 : Int32), k20 (me, x2, x3, x4) = some q → WS X b 9 S me 20 [(0, .ref (b + o)), (2, .int x2), (3, .int x3), (4, .int x4)] []) → ∀ (k52 : (ME × Int32 × Int32 × Int32 × Int32 → Option (Int32 × ME))), (∀ (me : ME) (x2 : Int32) (x3 : Int32) (x4 : Int32) (x5 : Int32), k52 (me, x2, x3, x4, x5) = some q → WS X b 9 S me 52 [(0, .ref (b + o)), (2, .int x2), (3, .int x3), (4, .int x4), (5, .int x5)] []) → ∀ (k61 : (ME × Int32 × Int32 × Int32 × Int32 × Int32 → Option (Int32 × ME))), (∀ (me : ME) (x2 : Int32) (x3 : Int32) (x4 : Int32) (x5 : Int32) (x6 : Int32), k61 (me, x2, x3, x4, x5, x6) = some q → WS X b 9 S me 61 [(0, .ref (b + o)), (2, .int x2), (3, .int x3), (4, .int x4), (5, .int x5), (6, .int x6)] []) → ∀ (k98 : (ME × Int32 × Int32 × Int32 × Int32 × Int32 × Int32 → Option (Int32 × ME))), (∀ (me : ME) (x2 : Int32) (x3 : Int32) (x4 : Int32) (x5 : Int32) (x6 : Int32) (x7 : Int32), k98 (me, x2, x3, x4, x5, x6, x7) = some q → WS X b 9 S me 98 [(0, .ref (b + o)), (2, .int x2), (3, .int x3), (4, .int x4), (5, .int x5), (6, .int x6), (7, .int x7)] []) → ∀ (k113 : (ME × Int32 × Int32 × Int32 × Int32 × Int32 × Int32 × Int32 → Option (Int32 × ME))), (∀ (me : ME) (x2 : Int32) (x3 : Int32) (x4 : Int32) (x5 : Int32) (x6 : Int32) (x7 : Int32) (x8 : Int32), k113 (me, x2, x3, x4, x5, x6, x7, x8) = some q → WS X b 9 S me 113 [(0, .ref (b + o)), (2, .int x2), (3, .int x3), (4, .int x4), (5, .int x5), (6, .int x6), (7, .int x7), (8, .int x8)] []) → ∀ (me : ME) (x3 : Int32) (x4 : Int32) (x5 : Int32) (x6 : Int32) (x7 : Int32) (x8 : Int32) (y0 : Int32), mX10_rankOf_j145 S o a0 k9 k20 k52 k61 k98 k113 me x3 x4 x5 x6 x7 x8 y0 = some q → WS X b 9 S me 145 [(0, .ref (b + o)), (3, .int x3), (4, .int x4), (5, .int x5), (6, .int x6), (7, .int x7), (8, .int x8)] [.int y0] := by
    intro k9 hk9 k20 hk20 k52 hk52 k61 hk61 k98 hk98 k113 hk113 me x3 x4 x5 x6 x7 x8 y0 hM
    unfold mX10_rankOf_j145 at hM
    refine ws_istore_n cx dX10_rankOf_145 rfl (by decide) (lv' := [(2, .int y0), (0, .ref (b + o)), (3, .int x3), (4, .int x4), (5, .int x5), (6, .int x6), (7, .int x7), (8, .int x8)]) rfl ?_
    refine ws_iinc cx dX10_rankOf_146 (j := 7) rfl (v := x8 + (1 : Int32)) rfl (by decide) (lv' := [(8, .int (x8 + (1 : Int32))), (2, .int y0), (0, .ref (b + o)), (3, .int x3), (4, .int x4), (5, .int x5), (6, .int x6), (7, .int x7)]) rfl ?_
    refine ws_goto cx dX10_rankOf_149 (tgt := 113) (by decide) ?_
    refine ws_sub [2, 1, 3, 4, 5, 6, 7, 0] (lv' := [(0, .ref (b + o)), (2, .int y0), (3, .int x3), (4, .int x4), (5, .int x5), (6, .int x6), (7, .int x7), (8, .int (x8 + (1 : Int32)))]) rfl ?_
    exact hk113 _ _ _ _ _ _ _ _ hM
  have J152 : ∀ (k9 : (ME × Int32 × Int32 → Option (Int32 × ME))), (∀ (me : ME) (x2 : Int32) (x3 : Int32), k9 (me, x2, x3) = some q → WS X b 9 S me 9 [(0, .ref (b + o)), (2, .int x2), (3, .int x3)] []) → ∀ (k20 : (ME × Int32 × Int32 × Int32 → Option (Int32 × ME))), (∀ (me : ME) (x2 : Int32) (x3 : Int32) (x4 : Int32), k20 (me, x2, x3, x4) = some q → WS X b 9 S me 20 [(0, .ref (b + o)), (2, .int x2), (3, .int x3), (4, .int x4)] []) → ∀ (k52 : (ME × Int32 × Int32 × Int32 × Int32 → Option (Int32 × ME))), (∀ (me : ME) (x2 : Int32) (x3 : Int32) (x4 : Int32) (x5 : Int32), k52 (me, x2, x3, x4, x5) = some q → WS X b 9 S me 52 [(0, .ref (b + o)), (2, .int x2), (3, .int x3), (4, .int x4), (5, .int x5)] []) → ∀ (k61 : (ME × Int32 × Int32 × Int32 × Int32 × Int32 → Option (Int32 × ME))), (∀ (me : ME) (x2 : Int32) (x3 : Int32) (x4 : Int32) (x5 : Int32) (x6 : Int32), k61 (me, x2, x3, x4, x5, x6) = some q → WS X b 9 S me 61 [(0, .ref (b + o)), (2, .int x2), (3, .int x3), (4, .int x4), (5, .int x5), (6, .int x6)] []) → ∀ (k98 : (ME × Int32 × Int32 × Int32 × Int32 × Int32 × Int32 → Option (Int32 × ME))), (∀ (me : ME) (x2 : Int32) (x3 : Int32) (x4 : Int32) (x5 : Int32) (x6 : Int32) (x7 : Int32), k98 (me, x2, x3, x4, x5, x6, x7) = some q → WS X b 9 S me 98 [(0, .ref (b + o)), (2, .int x2), (3, .int x3), (4, .int x4), (5, .int x5), (6, .int x6), (7, .int x7)] []) → ∀ (me : ME) (x2 : Int32) (x3 : Int32) (x4 : Int32) (x5 : Int32) (x6 : Int32) (x7 : Int32), mX10_rankOf_j152 S o a0 k9 k20 k52 k61 k98 me x2 x3 x4 x5 x6 x7 = some q → WS X b 9 S me 152 [(0, .ref (b + o)), (2, .int x2), (3, .int x3), (4, .int x4), (5, .int x5), (6, .int x6), (7, .int x7)] [] := by
    intro k9 hk9 k20 hk20 k52 hk52 k61 hk61 k98 hk98 me x2 x3 x4 x5 x6 x7 hM
    unfold mX10_rankOf_j152 at hM
    refine ws_iinc cx dX10_rankOf_152 (j := 6) rfl (v := x7 + (1 : Int32)) rfl (by decide) (lv' := [(7, .int (x7 + (1 : Int32))), (0, .ref (b + o)), (2, .int x2), (3, .int x3), (4, .int x4), (5, .int x5), (6, .int x6)]) rfl ?_
    refine ws_goto cx dX10_rankOf_155 (tgt := 98) (by decide) ?_
    refine ws_sub [1, 2, 3, 4, 5, 6, 0] (lv' := [(0, .ref (b + o)), (2, .int x2), (3, .int x3), (4, .int x4), (5, .int x5), (6, .int x6), (7, .int (x7 + (1 : Int32)))]) rfl ?_
    exact hk98 _ _ _ _ _ _ _ hM
  have L113 : ∀ (k9 : (ME × Int32 × Int32 → Option (Int32 × ME))), (∀ (me : ME) (x2 : Int32) (x3 : Int32), k9 (me, x2, x3) = some q → WS X b 9 S me 9 [(0, .ref (b + o)), (2, .int x2), (3, .int x3)] []) → ∀ (k20 : (ME × Int32 × Int32 × Int32 → Option (Int32 × ME))), (∀ (me : ME) (x2 : Int32) (x3 : Int32) (x4 : Int32), k20 (me, x2, x3, x4) = some q → WS X b 9 S me 20 [(0, .ref (b + o)), (2, .int x2), (3, .int x3), (4, .int x4)] []) → ∀ (k52 : (ME × Int32 × Int32 × Int32 × Int32 → Option (Int32 × ME))), (∀ (me : ME) (x2 : Int32) (x3 : Int32) (x4 : Int32) (x5 : Int32), k52 (me, x2, x3, x4, x5) = some q → WS X b 9 S me 52 [(0, .ref (b + o)), (2, .int x2), (3, .int x3), (4, .int x4), (5, .int x5)] []) → ∀ (k61 : (ME × Int32 × Int32 × Int32 × Int32 × Int32 → Option (Int32 × ME))), (∀ (me : ME) (x2 : Int32) (x3 : Int32) (x4 : Int32) (x5 : Int32) (x6 : Int32), k61 (me, x2, x3, x4, x5, x6) = some q → WS X b 9 S me 61 [(0, .ref (b + o)), (2, .int x2), (3, .int x3), (4, .int x4), (5, .int x5), (6, .int x6)] []) → ∀ (k98 : (ME × Int32 × Int32 × Int32 × Int32 × Int32 × Int32 → Option (Int32 × ME))), (∀ (me : ME) (x2 : Int32) (x3 : Int32) (x4 : Int32) (x5 : Int32) (x6 : Int32) (x7 : Int32), k98 (me, x2, x3, x4, x5, x6, x7) = some q → WS X b 9 S me 98 [(0, .ref (b + o)), (2, .int x2), (3, .int x3), (4, .int x4), (5, .int x5), (6, .int x6), (7, .int x7)] []) → ∀ (n : Nat) (me : ME) (x2 : Int32) (x3 : Int32) (x4 : Int32) (x5 : Int32) (x6 : Int32) (x7 : Int32) (x8 : Int32), lpn (mX10_rankOf_L113 S o a0 k9 k20 k52 k61 k98) n (me, x2, x3, x4, x5, x6, x7, x8) = some q → WS X b 9 S me 113 [(0, .ref (b + o)), (2, .int x2), (3, .int x3), (4, .int x4), (5, .int x5), (6, .int x6), (7, .int x7), (8, .int x8)] [] := by
    intro k9 hk9 k20 hk20 k52 hk52 k61 hk61 k98 hk98 n
    induction n with
    | zero => intro me x2 x3 x4 x5 x6 x7 x8 hM; exact absurd hM (by intro h; cases h)
    | succ n ih =>
      intro me x2 x3 x4 x5 x6 x7 x8 hM
      have hM : mX10_rankOf_L113 S o a0 k9 k20 k52 k61 k98 (lpn (mX10_rankOf_L113 S o a0 k9 k20 k52 k61 k98) n) (me, x2, x3, x4, x5, x6, x7, x8) = some q := hM
      unfold mX10_rankOf_L113 at hM
      refine ws_iload cx dX10_rankOf_113 (j := 7) rfl ?_
      refine ws_iload cx dX10_rankOf_115 (j := 5) rfl ?_
      refine ws_icmp_ge cx dX10_rankOf_117 (tgt := 152) (by decide) (fun c1 => ?_) (fun c1 => ?_)
      · have hM := if_t hM c1
        refine ws_sub [0, 1, 2, 3, 4, 5, 6] (lv' := [(0, .ref (b + o)), (2, .int x2), (3, .int x3), (4, .int x4), (5, .int x5), (6, .int x6), (7, .int x7)]) rfl ?_
        exact J152 _ hk9 _ hk20 _ hk52 _ hk61 _ hk98 _ _ _ _ _ _ _ hM
      · have hM := if_f hM c1
        refine ws_aload_n cx dX10_rankOf_120 rfl (j := 0) rfl ?_
        refine ws_iload_n cx dX10_rankOf_121 rfl (j := 2) rfl ?_
        refine ws_iload cx dX10_rankOf_122 (j := 4) rfl ?_
        refine ws_iload cx dX10_rankOf_124 (j := 6) rfl ?_
        refine ws_iload cx dX10_rankOf_126 (j := 3) rfl ?_
        refine ws_iload cx dX10_rankOf_128 (j := 5) rfl ?_
        refine ws_iload cx dX10_rankOf_130 (j := 7) rfl ?_
        obtain ⟨_, h4, hM⟩ := bnd hM
        obtain ⟨q2, h3, hM⟩ := bnd hM
        refine ws_callV cx (rest := []) (st' := [.long q2.1]) (kX10_three l D b h3) mvX10_three (ck_k h4) (by decide) (q := (RX10, TX10, 31)) rfl seX10_three lkX10_172 rfl ⟨by decide, by decide⟩ (Nat.le_of_ble_eq_true rfl) ⟨rfl, rfl⟩ (Or.inl ⟨rfl, rfl⟩) rfl rfl dX10_rankOf_132 ?_
        refine ws_lconst cx dX10_rankOf_135 (v := 0) (by decide) ?_
        refine ws_lcmp cx dX10_rankOf_136 ?_
        refine ws_if_eq cx dX10_rankOf_137 (tgt := 144) (by decide) (fun c5 => ?_) (fun c5 => ?_)
        · have hM := if_t hM c5
          refine ws_iload_n cx dX10_rankOf_144 rfl (j := 1) rfl ?_
          refine ws_sub [0, 2, 3, 4, 5, 6, 7] (lv' := [(0, .ref (b + o)), (3, .int x3), (4, .int x4), (5, .int x5), (6, .int x6), (7, .int x7), (8, .int x8)]) rfl ?_
          exact J145 _ hk9 _ hk20 _ hk52 _ hk61 _ hk98 _ ih _ _ _ _ _ _ _ _ hM
        · have hM := if_f hM c5
          refine ws_iconst cx dX10_rankOf_140 (v := 3) (by decide) ?_
          refine ws_goto cx dX10_rankOf_141 (tgt := 145) (by decide) ?_
          refine ws_sub [0, 2, 3, 4, 5, 6, 7] (lv' := [(0, .ref (b + o)), (3, .int x3), (4, .int x4), (5, .int x5), (6, .int x6), (7, .int x7), (8, .int x8)]) rfl ?_
          exact J145 _ hk9 _ hk20 _ hk52 _ hk61 _ hk98 _ ih _ _ _ _ _ _ _ _ hM
  have J158 : ∀ (k9 : (ME × Int32 × Int32 → Option (Int32 × ME))), (∀ (me : ME) (x2 : Int32) (x3 : Int32), k9 (me, x2, x3) = some q → WS X b 9 S me 9 [(0, .ref (b + o)), (2, .int x2), (3, .int x3)] []) → ∀ (k20 : (ME × Int32 × Int32 × Int32 → Option (Int32 × ME))), (∀ (me : ME) (x2 : Int32) (x3 : Int32) (x4 : Int32), k20 (me, x2, x3, x4) = some q → WS X b 9 S me 20 [(0, .ref (b + o)), (2, .int x2), (3, .int x3), (4, .int x4)] []) → ∀ (k52 : (ME × Int32 × Int32 × Int32 × Int32 → Option (Int32 × ME))), (∀ (me : ME) (x2 : Int32) (x3 : Int32) (x4 : Int32) (x5 : Int32), k52 (me, x2, x3, x4, x5) = some q → WS X b 9 S me 52 [(0, .ref (b + o)), (2, .int x2), (3, .int x3), (4, .int x4), (5, .int x5)] []) → ∀ (k61 : (ME × Int32 × Int32 × Int32 × Int32 × Int32 → Option (Int32 × ME))), (∀ (me : ME) (x2 : Int32) (x3 : Int32) (x4 : Int32) (x5 : Int32) (x6 : Int32), k61 (me, x2, x3, x4, x5, x6) = some q → WS X b 9 S me 61 [(0, .ref (b + o)), (2, .int x2), (3, .int x3), (4, .int x4), (5, .int x5), (6, .int x6)] []) → ∀ (me : ME) (x2 : Int32) (x3 : Int32) (x4 : Int32) (x5 : Int32) (x6 : Int32), mX10_rankOf_j158 S o a0 k9 k20 k52 k61 me x2 x3 x4 x5 x6 = some q → WS X b 9 S me 158 [(0, .ref (b + o)), (2, .int x2), (3, .int x3), (4, .int x4), (5, .int x5), (6, .int x6)] [] := by
    intro k9 hk9 k20 hk20 k52 hk52 k61 hk61 me x2 x3 x4 x5 x6 hM
    unfold mX10_rankOf_j158 at hM
    refine ws_iinc cx dX10_rankOf_158 (j := 5) rfl (v := x6 + (1 : Int32)) rfl (by decide) (lv' := [(6, .int (x6 + (1 : Int32))), (0, .ref (b + o)), (2, .int x2), (3, .int x3), (4, .int x4), (5, .int x5)]) rfl ?_
    refine ws_goto cx dX10_rankOf_161 (tgt := 61) (by decide) ?_
    refine ws_sub [1, 2, 3, 4, 5, 0] (lv' := [(0, .ref (b + o)), (2, .int x2), (3, .int x3), (4, .int x4), (5, .int x5), (6, .int (x6 + (1 : Int32)))]) rfl ?_
    exact hk61 _ _ _ _ _ _ hM
  have L98 : ∀ (k9 : (ME × Int32 × Int32 → Option (Int32 × ME))), (∀ (me : ME) (x2 : Int32) (x3 : Int32), k9 (me, x2, x3) = some q → WS X b 9 S me 9 [(0, .ref (b + o)), (2, .int x2), (3, .int x3)] []) → ∀ (k20 : (ME × Int32 × Int32 × Int32 → Option (Int32 × ME))), (∀ (me : ME) (x2 : Int32) (x3 : Int32) (x4 : Int32), k20 (me, x2, x3, x4) = some q → WS X b 9 S me 20 [(0, .ref (b + o)), (2, .int x2), (3, .int x3), (4, .int x4)] []) → ∀ (k52 : (ME × Int32 × Int32 × Int32 × Int32 → Option (Int32 × ME))), (∀ (me : ME) (x2 : Int32) (x3 : Int32) (x4 : Int32) (x5 : Int32), k52 (me, x2, x3, x4, x5) = some q → WS X b 9 S me 52 [(0, .ref (b + o)), (2, .int x2), (3, .int x3), (4, .int x4), (5, .int x5)] []) → ∀ (k61 : (ME × Int32 × Int32 × Int32 × Int32 × Int32 → Option (Int32 × ME))), (∀ (me : ME) (x2 : Int32) (x3 : Int32) (x4 : Int32) (x5 : Int32) (x6 : Int32), k61 (me, x2, x3, x4, x5, x6) = some q → WS X b 9 S me 61 [(0, .ref (b + o)), (2, .int x2), (3, .int x3), (4, .int x4), (5, .int x5), (6, .int x6)] []) → ∀ (n : Nat) (me : ME) (x2 : Int32) (x3 : Int32) (x4 : Int32) (x5 : Int32) (x6 : Int32) (x7 : Int32), lpn (mX10_rankOf_L98 S o a0 k9 k20 k52 k61) n (me, x2, x3, x4, x5, x6, x7) = some q → WS X b 9 S me 98 [(0, .ref (b + o)), (2, .int x2), (3, .int x3), (4, .int x4), (5, .int x5), (6, .int x6), (7, .int x7)] [] := by
    intro k9 hk9 k20 hk20 k52 hk52 k61 hk61 n
    induction n with
    | zero => intro me x2 x3 x4 x5 x6 x7 hM; exact absurd hM (by intro h; cases h)
    | succ n ih =>
      intro me x2 x3 x4 x5 x6 x7 hM
      have hM : mX10_rankOf_L98 S o a0 k9 k20 k52 k61 (lpn (mX10_rankOf_L98 S o a0 k9 k20 k52 k61) n) (me, x2, x3, x4, x5, x6, x7) = some q := hM
      unfold mX10_rankOf_L98 at hM
      refine ws_iload cx dX10_rankOf_98 (j := 6) rfl ?_
      refine ws_iload cx dX10_rankOf_100 (j := 4) rfl ?_
      refine ws_icmp_ge cx dX10_rankOf_102 (tgt := 158) (by decide) (fun c6 => ?_) (fun c6 => ?_)
      · have hM := if_t hM c6
        refine ws_sub [0, 1, 2, 3, 4, 5] (lv' := [(0, .ref (b + o)), (2, .int x2), (3, .int x3), (4, .int x4), (5, .int x5), (6, .int x6)]) rfl ?_
        exact J158 _ hk9 _ hk20 _ hk52 _ hk61 _ _ _ _ _ _ hM
      · have hM := if_f hM c6
        refine ws_iload_n cx dX10_rankOf_105 rfl (j := 1) rfl ?_
        refine ws_iconst cx dX10_rankOf_106 (v := 3) (by decide) ?_
        refine ws_icmp_ge cx dX10_rankOf_107 (tgt := 158) (by decide) (fun c7 => ?_) (fun c7 => ?_)
        · have hM := if_t hM c7
          refine ws_sub [0, 1, 2, 3, 4, 5] (lv' := [(0, .ref (b + o)), (2, .int x2), (3, .int x3), (4, .int x4), (5, .int x5), (6, .int x6)]) rfl ?_
          exact J158 _ hk9 _ hk20 _ hk52 _ hk61 _ _ _ _ _ _ hM
        · have hM := if_f hM c7
          refine ws_iconst cx dX10_rankOf_110 (v := 0) (by decide) ?_
          refine ws_istore cx dX10_rankOf_111 (by decide) (lv' := [(8, .int (0 : Int32)), (0, .ref (b + o)), (2, .int x2), (3, .int x3), (4, .int x4), (5, .int x5), (6, .int x6), (7, .int x7)]) rfl ?_
          refine ws_sub [1, 2, 3, 4, 5, 6, 7, 0] (lv' := [(0, .ref (b + o)), (2, .int x2), (3, .int x3), (4, .int x4), (5, .int x5), (6, .int x6), (7, .int x7), (8, .int (0 : Int32))]) rfl ?_
          exact L113 _ hk9 _ hk20 _ hk52 _ hk61 _ ih _ _ _ _ _ _ _ _ _ hM
  have J94 : ∀ (k9 : (ME × Int32 × Int32 → Option (Int32 × ME))), (∀ (me : ME) (x2 : Int32) (x3 : Int32), k9 (me, x2, x3) = some q → WS X b 9 S me 9 [(0, .ref (b + o)), (2, .int x2), (3, .int x3)] []) → ∀ (k20 : (ME × Int32 × Int32 × Int32 → Option (Int32 × ME))), (∀ (me : ME) (x2 : Int32) (x3 : Int32) (x4 : Int32), k20 (me, x2, x3, x4) = some q → WS X b 9 S me 20 [(0, .ref (b + o)), (2, .int x2), (3, .int x3), (4, .int x4)] []) → ∀ (k52 : (ME × Int32 × Int32 × Int32 × Int32 → Option (Int32 × ME))), (∀ (me : ME) (x2 : Int32) (x3 : Int32) (x4 : Int32) (x5 : Int32), k52 (me, x2, x3, x4, x5) = some q → WS X b 9 S me 52 [(0, .ref (b + o)), (2, .int x2), (3, .int x3), (4, .int x4), (5, .int x5)] []) → ∀ (k61 : (ME × Int32 × Int32 × Int32 × Int32 × Int32 → Option (Int32 × ME))), (∀ (me : ME) (x2 : Int32) (x3 : Int32) (x4 : Int32) (x5 : Int32) (x6 : Int32), k61 (me, x2, x3, x4, x5, x6) = some q → WS X b 9 S me 61 [(0, .ref (b + o)), (2, .int x2), (3, .int x3), (4, .int x4), (5, .int x5), (6, .int x6)] []) → ∀ (me : ME) (x3 : Int32) (x4 : Int32) (x5 : Int32) (x6 : Int32) (y0 : Int32), mX10_rankOf_j94 S o a0 k9 k20 k52 k61 me x3 x4 x5 x6 y0 = some q → WS X b 9 S me 94 [(0, .ref (b + o)), (3, .int x3), (4, .int x4), (5, .int x5), (6, .int x6)] [.int y0] := by
    intro k9 hk9 k20 hk20 k52 hk52 k61 hk61 me x3 x4 x5 x6 y0 hM
    unfold mX10_rankOf_j94 at hM
    refine ws_istore_n cx dX10_rankOf_94 rfl (by decide) (lv' := [(2, .int y0), (0, .ref (b + o)), (3, .int x3), (4, .int x4), (5, .int x5), (6, .int x6)]) rfl ?_
    refine ws_iconst cx dX10_rankOf_95 (v := 0) (by decide) ?_
    refine ws_istore cx dX10_rankOf_96 (by decide) (lv' := [(7, .int (0 : Int32)), (2, .int y0), (0, .ref (b + o)), (3, .int x3), (4, .int x4), (5, .int x5), (6, .int x6)]) rfl ?_
    refine ws_sub [2, 1, 3, 4, 5, 6, 0] (lv' := [(0, .ref (b + o)), (2, .int y0), (3, .int x3), (4, .int x4), (5, .int x5), (6, .int x6), (7, .int (0 : Int32))]) rfl ?_
    exact L98 _ hk9 _ hk20 _ hk52 _ hk61 _ _ _ _ _ _ _ _ hM
  have J93 : ∀ (k9 : (ME × Int32 × Int32 → Option (Int32 × ME))), (∀ (me : ME) (x2 : Int32) (x3 : Int32), k9 (me, x2, x3) = some q → WS X b 9 S me 9 [(0, .ref (b + o)), (2, .int x2), (3, .int x3)] []) → ∀ (k20 : (ME × Int32 × Int32 × Int32 → Option (Int32 × ME))), (∀ (me : ME) (x2 : Int32) (x3 : Int32) (x4 : Int32), k20 (me, x2, x3, x4) = some q → WS X b 9 S me 20 [(0, .ref (b + o)), (2, .int x2), (3, .int x3), (4, .int x4)] []) → ∀ (k52 : (ME × Int32 × Int32 × Int32 × Int32 → Option (Int32 × ME))), (∀ (me : ME) (x2 : Int32) (x3 : Int32) (x4 : Int32) (x5 : Int32), k52 (me, x2, x3, x4, x5) = some q → WS X b 9 S me 52 [(0, .ref (b + o)), (2, .int x2), (3, .int x3), (4, .int x4), (5, .int x5)] []) → ∀ (k61 : (ME × Int32 × Int32 × Int32 × Int32 × Int32 → Option (Int32 × ME))), (∀ (me : ME) (x2 : Int32) (x3 : Int32) (x4 : Int32) (x5 : Int32) (x6 : Int32), k61 (me, x2, x3, x4, x5, x6) = some q → WS X b 9 S me 61 [(0, .ref (b + o)), (2, .int x2), (3, .int x3), (4, .int x4), (5, .int x5), (6, .int x6)] []) → ∀ (me : ME) (x2 : Int32) (x3 : Int32) (x4 : Int32) (x5 : Int32) (x6 : Int32), mX10_rankOf_j93 S o a0 k9 k20 k52 k61 me x2 x3 x4 x5 x6 = some q → WS X b 9 S me 93 [(0, .ref (b + o)), (2, .int x2), (3, .int x3), (4, .int x4), (5, .int x5), (6, .int x6)] [] := by
    intro k9 hk9 k20 hk20 k52 hk52 k61 hk61 me x2 x3 x4 x5 x6 hM
    unfold mX10_rankOf_j93 at hM
    refine ws_iload_n cx dX10_rankOf_93 rfl (j := 1) rfl ?_
    refine ws_sub [0, 2, 3, 4, 5] (lv' := [(0, .ref (b + o)), (3, .int x3), (4, .int x4), (5, .int x5), (6, .int x6)]) rfl ?_
    exact J94 _ hk9 _ hk20 _ hk52 _ hk61 _ _ _ _ _ _ hM
  have J164 : ∀ (k9 : (ME × Int32 × Int32 → Option (Int32 × ME))), (∀ (me : ME) (x2 : Int32) (x3 : Int32), k9 (me, x2, x3) = some q → WS X b 9 S me 9 [(0, .ref (b + o)), (2, .int x2), (3, .int x3)] []) → ∀ (k20 : (ME × Int32 × Int32 × Int32 → Option (Int32 × ME))), (∀ (me : ME) (x2 : Int32) (x3 : Int32) (x4 : Int32), k20 (me, x2, x3, x4) = some q → WS X b 9 S me 20 [(0, .ref (b + o)), (2, .int x2), (3, .int x3), (4, .int x4)] []) → ∀ (k52 : (ME × Int32 × Int32 × Int32 × Int32 → Option (Int32 × ME))), (∀ (me : ME) (x2 : Int32) (x3 : Int32) (x4 : Int32) (x5 : Int32), k52 (me, x2, x3, x4, x5) = some q → WS X b 9 S me 52 [(0, .ref (b + o)), (2, .int x2), (3, .int x3), (4, .int x4), (5, .int x5)] []) → ∀ (me : ME) (x2 : Int32) (x3 : Int32) (x4 : Int32) (x5 : Int32), mX10_rankOf_j164 S o a0 k9 k20 k52 me x2 x3 x4 x5 = some q → WS X b 9 S me 164 [(0, .ref (b + o)), (2, .int x2), (3, .int x3), (4, .int x4), (5, .int x5)] [] := by
    intro k9 hk9 k20 hk20 k52 hk52 me x2 x3 x4 x5 hM
    unfold mX10_rankOf_j164 at hM
    refine ws_iinc cx dX10_rankOf_164 (j := 4) rfl (v := x5 + (1 : Int32)) rfl (by decide) (lv' := [(5, .int (x5 + (1 : Int32))), (0, .ref (b + o)), (2, .int x2), (3, .int x3), (4, .int x4)]) rfl ?_
    refine ws_goto cx dX10_rankOf_167 (tgt := 52) (by decide) ?_
    refine ws_sub [1, 2, 3, 4, 0] (lv' := [(0, .ref (b + o)), (2, .int x2), (3, .int x3), (4, .int x4), (5, .int (x5 + (1 : Int32)))]) rfl ?_
    exact hk52 _ _ _ _ _ hM
  have L61 : ∀ (k9 : (ME × Int32 × Int32 → Option (Int32 × ME))), (∀ (me : ME) (x2 : Int32) (x3 : Int32), k9 (me, x2, x3) = some q → WS X b 9 S me 9 [(0, .ref (b + o)), (2, .int x2), (3, .int x3)] []) → ∀ (k20 : (ME × Int32 × Int32 × Int32 → Option (Int32 × ME))), (∀ (me : ME) (x2 : Int32) (x3 : Int32) (x4 : Int32), k20 (me, x2, x3, x4) = some q → WS X b 9 S me 20 [(0, .ref (b + o)), (2, .int x2), (3, .int x3), (4, .int x4)] []) → ∀ (k52 : (ME × Int32 × Int32 × Int32 × Int32 → Option (Int32 × ME))), (∀ (me : ME) (x2 : Int32) (x3 : Int32) (x4 : Int32) (x5 : Int32), k52 (me, x2, x3, x4, x5) = some q → WS X b 9 S me 52 [(0, .ref (b + o)), (2, .int x2), (3, .int x3), (4, .int x4), (5, .int x5)] []) → ∀ (n : Nat) (me : ME) (x2 : Int32) (x3 : Int32) (x4 : Int32) (x5 : Int32) (x6 : Int32), lpn (mX10_rankOf_L61 S o a0 k9 k20 k52) n (me, x2, x3, x4, x5, x6) = some q → WS X b 9 S me 61 [(0, .ref (b + o)), (2, .int x2), (3, .int x3), (4, .int x4), (5, .int x5), (6, .int x6)] [] := by
    intro k9 hk9 k20 hk20 k52 hk52 n
    induction n with
    | zero => intro me x2 x3 x4 x5 x6 hM; exact absurd hM (by intro h; cases h)
    | succ n ih =>
      intro me x2 x3 x4 x5 x6 hM
      have hM : mX10_rankOf_L61 S o a0 k9 k20 k52 (lpn (mX10_rankOf_L61 S o a0 k9 k20 k52) n) (me, x2, x3, x4, x5, x6) = some q := hM
      unfold mX10_rankOf_L61 at hM
      refine ws_iload cx dX10_rankOf_61 (j := 5) rfl ?_
      refine ws_iload cx dX10_rankOf_63 (j := 3) rfl ?_
      refine ws_icmp_ge cx dX10_rankOf_65 (tgt := 164) (by decide) (fun c8 => ?_) (fun c8 => ?_)
      · have hM := if_t hM c8
        refine ws_sub [0, 1, 2, 3, 4] (lv' := [(0, .ref (b + o)), (2, .int x2), (3, .int x3), (4, .int x4), (5, .int x5)]) rfl ?_
        exact J164 _ hk9 _ hk20 _ hk52 _ _ _ _ _ hM
      · have hM := if_f hM c8
        refine ws_iload_n cx dX10_rankOf_68 rfl (j := 1) rfl ?_
        refine ws_iconst cx dX10_rankOf_69 (v := 2) (by decide) ?_
        refine ws_icmp_ge cx dX10_rankOf_70 (tgt := 93) (by decide) (fun c9 => ?_) (fun c9 => ?_)
        · have hM := if_t hM c9
          refine ws_sub [0, 1, 2, 3, 4, 5] (lv' := [(0, .ref (b + o)), (2, .int x2), (3, .int x3), (4, .int x4), (5, .int x5), (6, .int x6)]) rfl ?_
          exact J93 _ hk9 _ hk20 _ hk52 _ ih _ _ _ _ _ _ hM
        · have hM := if_f hM c9
          refine ws_aload_n cx dX10_rankOf_73 rfl (j := 0) rfl ?_
          refine ws_iload_n cx dX10_rankOf_74 rfl (j := 2) rfl ?_
          refine ws_iload cx dX10_rankOf_75 (j := 4) rfl ?_
          refine ws_iload cx dX10_rankOf_77 (j := 3) rfl ?_
          refine ws_iload cx dX10_rankOf_79 (j := 5) rfl ?_
          obtain ⟨_, h12, hM⟩ := bnd hM
          obtain ⟨q10, h11, hM⟩ := bnd hM
          refine ws_callV cx (rest := []) (st' := [.long q10.1]) (kX10_two l D b h11) mvX10_two (ck_k h12) (by decide) (q := (RX10, TX10, 31)) rfl seX10_two lkX10_168 rfl ⟨by decide, by decide⟩ (Nat.le_of_ble_eq_true rfl) ⟨rfl, rfl⟩ (Or.inl ⟨rfl, rfl⟩) rfl rfl dX10_rankOf_81 ?_
          refine ws_lconst cx dX10_rankOf_84 (v := 0) (by decide) ?_
          refine ws_lcmp cx dX10_rankOf_85 ?_
          refine ws_if_eq cx dX10_rankOf_86 (tgt := 93) (by decide) (fun c13 => ?_) (fun c13 => ?_)
          · have hM := if_t hM c13
            refine ws_sub [0, 1, 2, 3, 4, 5] (lv' := [(0, .ref (b + o)), (2, .int x2), (3, .int x3), (4, .int x4), (5, .int x5), (6, .int x6)]) rfl ?_
            exact J93 _ hk9 _ hk20 _ hk52 _ ih _ _ _ _ _ _ hM
          · have hM := if_f hM c13
            refine ws_iconst cx dX10_rankOf_89 (v := 2) (by decide) ?_
            refine ws_goto cx dX10_rankOf_90 (tgt := 94) (by decide) ?_
            refine ws_sub [0, 2, 3, 4, 5] (lv' := [(0, .ref (b + o)), (3, .int x3), (4, .int x4), (5, .int x5), (6, .int x6)]) rfl ?_
            exact J94 _ hk9 _ hk20 _ hk52 _ ih _ _ _ _ _ _ hM
  have J170 : ∀ (k9 : (ME × Int32 × Int32 → Option (Int32 × ME))), (∀ (me : ME) (x2 : Int32) (x3 : Int32), k9 (me, x2, x3) = some q → WS X b 9 S me 9 [(0, .ref (b + o)), (2, .int x2), (3, .int x3)] []) → ∀ (k20 : (ME × Int32 × Int32 × Int32 → Option (Int32 × ME))), (∀ (me : ME) (x2 : Int32) (x3 : Int32) (x4 : Int32), k20 (me, x2, x3, x4) = some q → WS X b 9 S me 20 [(0, .ref (b + o)), (2, .int x2), (3, .int x3), (4, .int x4)] []) → ∀ (me : ME) (x2 : Int32) (x3 : Int32) (x4 : Int32), mX10_rankOf_j170 S o a0 k9 k20 me x2 x3 x4 = some q → WS X b 9 S me 170 [(0, .ref (b + o)), (2, .int x2), (3, .int x3), (4, .int x4)] [] := by
    intro k9 hk9 k20 hk20 me x2 x3 x4 hM
    unfold mX10_rankOf_j170 at hM
    refine ws_iinc cx dX10_rankOf_170 (j := 3) rfl (v := x4 + (1 : Int32)) rfl (by decide) (lv' := [(4, .int (x4 + (1 : Int32))), (0, .ref (b + o)), (2, .int x2), (3, .int x3)]) rfl ?_
    refine ws_goto cx dX10_rankOf_173 (tgt := 20) (by decide) ?_
    refine ws_sub [1, 2, 3, 0] (lv' := [(0, .ref (b + o)), (2, .int x2), (3, .int x3), (4, .int (x4 + (1 : Int32)))]) rfl ?_
    exact hk20 _ _ _ _ hM
  have L52 : ∀ (k9 : (ME × Int32 × Int32 → Option (Int32 × ME))), (∀ (me : ME) (x2 : Int32) (x3 : Int32), k9 (me, x2, x3) = some q → WS X b 9 S me 9 [(0, .ref (b + o)), (2, .int x2), (3, .int x3)] []) → ∀ (k20 : (ME × Int32 × Int32 × Int32 → Option (Int32 × ME))), (∀ (me : ME) (x2 : Int32) (x3 : Int32) (x4 : Int32), k20 (me, x2, x3, x4) = some q → WS X b 9 S me 20 [(0, .ref (b + o)), (2, .int x2), (3, .int x3), (4, .int x4)] []) → ∀ (n : Nat) (me : ME) (x2 : Int32) (x3 : Int32) (x4 : Int32) (x5 : Int32), lpn (mX10_rankOf_L52 S o a0 k9 k20) n (me, x2, x3, x4, x5) = some q → WS X b 9 S me 52 [(0, .ref (b + o)), (2, .int x2), (3, .int x3), (4, .int x4), (5, .int x5)] [] := by
    intro k9 hk9 k20 hk20 n
    induction n with
    | zero => intro me x2 x3 x4 x5 hM; exact absurd hM (by intro h; cases h)
    | succ n ih =>
      intro me x2 x3 x4 x5 hM
      have hM : mX10_rankOf_L52 S o a0 k9 k20 (lpn (mX10_rankOf_L52 S o a0 k9 k20) n) (me, x2, x3, x4, x5) = some q := hM
      unfold mX10_rankOf_L52 at hM
      refine ws_iload cx dX10_rankOf_52 (j := 4) rfl ?_
      refine ws_iload_n cx dX10_rankOf_54 rfl (j := 2) rfl ?_
      refine ws_icmp_ge cx dX10_rankOf_55 (tgt := 170) (by decide) (fun c14 => ?_) (fun c14 => ?_)
      · have hM := if_t hM c14
        refine ws_sub [0, 1, 2, 3] (lv' := [(0, .ref (b + o)), (2, .int x2), (3, .int x3), (4, .int x4)]) rfl ?_
        exact J170 _ hk9 _ hk20 _ _ _ _ hM
      · have hM := if_f hM c14
        refine ws_iconst cx dX10_rankOf_58 (v := 0) (by decide) ?_
        refine ws_istore cx dX10_rankOf_59 (by decide) (lv' := [(6, .int (0 : Int32)), (0, .ref (b + o)), (2, .int x2), (3, .int x3), (4, .int x4), (5, .int x5)]) rfl ?_
        refine ws_sub [1, 2, 3, 4, 5, 0] (lv' := [(0, .ref (b + o)), (2, .int x2), (3, .int x3), (4, .int x4), (5, .int x5), (6, .int (0 : Int32))]) rfl ?_
        exact L61 _ hk9 _ hk20 _ ih _ _ _ _ _ _ _ hM
  have J48 : ∀ (k9 : (ME × Int32 × Int32 → Option (Int32 × ME))), (∀ (me : ME) (x2 : Int32) (x3 : Int32), k9 (me, x2, x3) = some q → WS X b 9 S me 9 [(0, .ref (b + o)), (2, .int x2), (3, .int x3)] []) → ∀ (k20 : (ME × Int32 × Int32 × Int32 → Option (Int32 × ME))), (∀ (me : ME) (x2 : Int32) (x3 : Int32) (x4 : Int32), k20 (me, x2, x3, x4) = some q → WS X b 9 S me 20 [(0, .ref (b + o)), (2, .int x2), (3, .int x3), (4, .int x4)] []) → ∀ (me : ME) (x3 : Int32) (x4 : Int32) (y0 : Int32), mX10_rankOf_j48 S o a0 k9 k20 me x3 x4 y0 = some q → WS X b 9 S me 48 [(0, .ref (b + o)), (3, .int x3), (4, .int x4)] [.int y0] := by
    intro k9 hk9 k20 hk20 me x3 x4 y0 hM
    unfold mX10_rankOf_j48 at hM
    refine ws_istore_n cx dX10_rankOf_48 rfl (by decide) (lv' := [(2, .int y0), (0, .ref (b + o)), (3, .int x3), (4, .int x4)]) rfl ?_
    refine ws_iconst cx dX10_rankOf_49 (v := 0) (by decide) ?_
    refine ws_istore cx dX10_rankOf_50 (by decide) (lv' := [(5, .int (0 : Int32)), (2, .int y0), (0, .ref (b + o)), (3, .int x3), (4, .int x4)]) rfl ?_
    refine ws_sub [2, 1, 3, 4, 0] (lv' := [(0, .ref (b + o)), (2, .int y0), (3, .int x3), (4, .int x4), (5, .int (0 : Int32))]) rfl ?_
    exact L52 _ hk9 _ hk20 _ _ _ _ _ _ hM
  have J47 : ∀ (k9 : (ME × Int32 × Int32 → Option (Int32 × ME))), (∀ (me : ME) (x2 : Int32) (x3 : Int32), k9 (me, x2, x3) = some q → WS X b 9 S me 9 [(0, .ref (b + o)), (2, .int x2), (3, .int x3)] []) → ∀ (k20 : (ME × Int32 × Int32 × Int32 → Option (Int32 × ME))), (∀ (me : ME) (x2 : Int32) (x3 : Int32) (x4 : Int32), k20 (me, x2, x3, x4) = some q → WS X b 9 S me 20 [(0, .ref (b + o)), (2, .int x2), (3, .int x3), (4, .int x4)] []) → ∀ (me : ME) (x2 : Int32) (x3 : Int32) (x4 : Int32), mX10_rankOf_j47 S o a0 k9 k20 me x2 x3 x4 = some q → WS X b 9 S me 47 [(0, .ref (b + o)), (2, .int x2), (3, .int x3), (4, .int x4)] [] := by
    intro k9 hk9 k20 hk20 me x2 x3 x4 hM
    unfold mX10_rankOf_j47 at hM
    refine ws_iload_n cx dX10_rankOf_47 rfl (j := 1) rfl ?_
    refine ws_sub [0, 2, 3] (lv' := [(0, .ref (b + o)), (3, .int x3), (4, .int x4)]) rfl ?_
    exact J48 _ hk9 _ hk20 _ _ _ _ hM
  have J176 : ∀ (k9 : (ME × Int32 × Int32 → Option (Int32 × ME))), (∀ (me : ME) (x2 : Int32) (x3 : Int32), k9 (me, x2, x3) = some q → WS X b 9 S me 9 [(0, .ref (b + o)), (2, .int x2), (3, .int x3)] []) → ∀ (me : ME) (x2 : Int32) (x3 : Int32), mX10_rankOf_j176 S o a0 k9 me x2 x3 = some q → WS X b 9 S me 176 [(0, .ref (b + o)), (2, .int x2), (3, .int x3)] [] := by
    intro k9 hk9 me x2 x3 hM
    unfold mX10_rankOf_j176 at hM
    refine ws_iinc cx dX10_rankOf_176 (j := 2) rfl (v := x3 + (1 : Int32)) rfl (by decide) (lv' := [(3, .int (x3 + (1 : Int32))), (0, .ref (b + o)), (2, .int x2)]) rfl ?_
    refine ws_goto cx dX10_rankOf_179 (tgt := 9) (by decide) ?_
    refine ws_sub [1, 2, 0] (lv' := [(0, .ref (b + o)), (2, .int x2), (3, .int (x3 + (1 : Int32)))]) rfl ?_
    exact hk9 _ _ _ hM
  have L20 : ∀ (k9 : (ME × Int32 × Int32 → Option (Int32 × ME))), (∀ (me : ME) (x2 : Int32) (x3 : Int32), k9 (me, x2, x3) = some q → WS X b 9 S me 9 [(0, .ref (b + o)), (2, .int x2), (3, .int x3)] []) → ∀ (n : Nat) (me : ME) (x2 : Int32) (x3 : Int32) (x4 : Int32), lpn (mX10_rankOf_L20 S o a0 k9) n (me, x2, x3, x4) = some q → WS X b 9 S me 20 [(0, .ref (b + o)), (2, .int x2), (3, .int x3), (4, .int x4)] [] := by
    intro k9 hk9 n
    induction n with
    | zero => intro me x2 x3 x4 hM; exact absurd hM (by intro h; cases h)
    | succ n ih =>
      intro me x2 x3 x4 hM
      have hM : mX10_rankOf_L20 S o a0 k9 (lpn (mX10_rankOf_L20 S o a0 k9) n) (me, x2, x3, x4) = some q := hM
      unfold mX10_rankOf_L20 at hM
      refine ws_iload cx dX10_rankOf_20 (j := 3) rfl ?_
      refine ws_iconst cx dX10_rankOf_22 (v := 3) (by decide) ?_
      refine ws_icmp_ge cx dX10_rankOf_23 (tgt := 176) (by decide) (fun c15 => ?_) (fun c15 => ?_)
      · have hM := if_t hM c15
        refine ws_sub [0, 1, 2] (lv' := [(0, .ref (b + o)), (2, .int x2), (3, .int x3)]) rfl ?_
        exact J176 _ hk9 _ _ _ hM
      · have hM := if_f hM c15
        refine ws_iload_n cx dX10_rankOf_26 rfl (j := 1) rfl ?_
        refine ws_iconst cx dX10_rankOf_27 (v := 1) (by decide) ?_
        refine ws_icmp_ge cx dX10_rankOf_28 (tgt := 47) (by decide) (fun c16 => ?_) (fun c16 => ?_)
        · have hM := if_t hM c16
          refine ws_sub [0, 1, 2, 3] (lv' := [(0, .ref (b + o)), (2, .int x2), (3, .int x3), (4, .int x4)]) rfl ?_
          exact J47 _ hk9 _ ih _ _ _ _ hM
        · have hM := if_f hM c16
          refine ws_aload_n cx dX10_rankOf_31 rfl (j := 0) rfl ?_
          refine ws_iload_n cx dX10_rankOf_32 rfl (j := 2) rfl ?_
          refine ws_iload cx dX10_rankOf_33 (j := 3) rfl ?_
          obtain ⟨_, h19, hM⟩ := bnd hM
          obtain ⟨q17, h18, hM⟩ := bnd hM
          refine ws_callV cx (rest := []) (st' := [.long q17.1]) (kX10_cellAt l D b h18) mvX10_cellAt (ck_k h19) (by decide) (q := (RX10, TX10, 31)) rfl seX10_cellAt lkX10_160 rfl ⟨by decide, by decide⟩ (Nat.le_of_ble_eq_true rfl) ⟨rfl, rfl⟩ (Or.inl ⟨rfl, rfl⟩) rfl rfl dX10_rankOf_35 ?_
          refine ws_lconst cx dX10_rankOf_38 (v := 0) (by decide) ?_
          refine ws_lcmp cx dX10_rankOf_39 ?_
          refine ws_if_eq cx dX10_rankOf_40 (tgt := 47) (by decide) (fun c20 => ?_) (fun c20 => ?_)
          · have hM := if_t hM c20
            refine ws_sub [0, 1, 2, 3] (lv' := [(0, .ref (b + o)), (2, .int x2), (3, .int x3), (4, .int x4)]) rfl ?_
            exact J47 _ hk9 _ ih _ _ _ _ hM
          · have hM := if_f hM c20
            refine ws_iconst cx dX10_rankOf_43 (v := 1) (by decide) ?_
            refine ws_goto cx dX10_rankOf_44 (tgt := 48) (by decide) ?_
            refine ws_sub [0, 2, 3] (lv' := [(0, .ref (b + o)), (3, .int x3), (4, .int x4)]) rfl ?_
            exact J48 _ hk9 _ ih _ _ _ _ hM
  have J182 : ∀ (me : ME) (x2 : Int32), mX10_rankOf_j182 S o a0 me x2 = some q → WS X b 9 S me 182 [(2, .int x2)] [] := by
    intro  me x2 hM
    unfold mX10_rankOf_j182 at hM
    refine ws_iload_n cx dX10_rankOf_182 rfl (j := 0) rfl ?_
    exact ws_iretM cx ex hM dX10_rankOf_183
  have L9 : ∀ (n : Nat) (me : ME) (x2 : Int32) (x3 : Int32), lpn (mX10_rankOf_L9 S o a0) n (me, x2, x3) = some q → WS X b 9 S me 9 [(0, .ref (b + o)), (2, .int x2), (3, .int x3)] [] := by
    intro  n
    induction n with
    | zero => intro me x2 x3 hM; exact absurd hM (by intro h; cases h)
    | succ n ih =>
      intro me x2 x3 hM
      have hM : mX10_rankOf_L9 S o a0 (lpn (mX10_rankOf_L9 S o a0) n) (me, x2, x3) = some q := hM
      unfold mX10_rankOf_L9 at hM
      refine ws_iload_n cx dX10_rankOf_9 rfl (j := 2) rfl ?_
      refine ws_aload_n cx dX10_rankOf_10 rfl (j := 0) rfl ?_
      obtain ⟨v21, h22, hM⟩ := bnd hM
      refine ws_getI cx ffX10_154 h22 dX10_rankOf_11 ?_
      refine ws_icmp_ge cx dX10_rankOf_14 (tgt := 182) (by decide) (fun c23 => ?_) (fun c23 => ?_)
      · have hM := if_t hM c23
        refine ws_sub [1] (lv' := [(2, .int x2)]) rfl ?_
        exact J182 _ _ hM
      · have hM := if_f hM c23
        refine ws_iconst cx dX10_rankOf_17 (v := 0) (by decide) ?_
        refine ws_istore cx dX10_rankOf_18 (by decide) (lv' := [(4, .int (0 : Int32)), (0, .ref (b + o)), (2, .int x2), (3, .int x3)]) rfl ?_
        refine ws_sub [1, 2, 3, 0] (lv' := [(0, .ref (b + o)), (2, .int x2), (3, .int x3), (4, .int (0 : Int32))]) rfl ?_
        exact L20 _ ih _ _ _ _ _ hM
  unfold mX10_rankOf at hM
  refine ws_aload_n cx dX10_rankOf_0 rfl (j := 0) rfl ?_
  refine ws_iload_n cx dX10_rankOf_1 rfl (j := 1) rfl ?_
  obtain ⟨_, h26, hM⟩ := bnd hM
  obtain ⟨q24, h25, hM⟩ := bnd hM
  refine ws_callV cx (rest := []) (st' := []) (kX10_layRows l D b h25) mvX10_layRows (ck_k h26) (by decide) (q := (RX10, TX10, 31)) rfl seX10_layRows lkX10_164 rfl ⟨by decide, by decide⟩ (Nat.le_of_ble_eq_true rfl) ⟨rfl, rfl⟩ (Or.inl ⟨rfl, rfl⟩) rfl rfl dX10_rankOf_2 ?_
  refine ws_iconst cx dX10_rankOf_5 (v := 0) (by decide) ?_
  refine ws_istore_n cx dX10_rankOf_6 rfl (by decide) (lv' := [(2, .int (0 : Int32)), (0, .ref (b + o)), (1, .int a0)]) rfl ?_
  refine ws_iconst cx dX10_rankOf_7 (v := 0) (by decide) ?_
  refine ws_istore_n cx dX10_rankOf_8 rfl (by decide) (lv' := [(3, .int (0 : Int32)), (2, .int (0 : Int32)), (0, .ref (b + o)), (1, .int a0)]) rfl ?_
  refine ws_sub [2, 1, 0] (lv' := [(0, .ref (b + o)), (2, .int (0 : Int32)), (3, .int (0 : Int32))]) rfl ?_
  exact L9 _ _ _ _ hM
