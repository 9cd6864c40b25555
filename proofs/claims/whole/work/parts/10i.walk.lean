def mX10_yOf (S : SH) (me : ME) (o : Nat) (a0 : Int32) : Option (Int32 × ME) :=
  (gR S 10 2 o).bind fun v1 =>
  (gR S 10 3 o).bind fun v3 =>
  (aI S me 11 v3 ((7 : Int32) + a0)).bind fun v5 =>
  (aI S me 11 v1 v5).bind fun v7 =>
  some (v7, me)
set_option maxRecDepth 100000 in
set_option maxHeartbeats 4000000 in
theorem kX10_yOf (l : Launch) (D : va_G) (b : Nat) {S : SH} {me : ME} {o : Nat} {a0 : Int32} {q : Int32 × ME} (hM : mX10_yOf S me o a0 = some q) : Ct l D b yX10_yOf cX10_yOf 2 (some .int) 0 0 0 0 [.ref (b + o), .int a0] S me S q.2 (some (.int q.1)) := by
  refine ct_of (own := RX10) (nm := "yOf") (lv := [(0, .ref (b + o)), (1, .int a0)]) (plainFor_of_name (by decide)) rfl rfl (Nat.le_of_ble_eq_true rfl) rfl ⟨rfl, rfl⟩ (fun X cx ex hL => ?_)
  unfold mX10_yOf at hM
  refine ws_aload_n cx dX10_yOf_0 rfl (j := 0) rfl ?_
  obtain ⟨v1, h2, hM⟩ := bnd hM
  refine ws_getR cx ffX10_13 h2 dX10_yOf_1 ?_
  refine ws_aload_n cx dX10_yOf_4 rfl (j := 0) rfl ?_
  obtain ⟨v3, h4, hM⟩ := bnd hM
  refine ws_getR cx ffX10_16 h4 dX10_yOf_5 ?_
  refine ws_bipush cx dX10_yOf_8 (v := 7) (by decide) ?_
  refine ws_iload_n cx dX10_yOf_10 rfl (j := 1) rfl ?_
  refine ws_iadd cx dX10_yOf_11 ?_
  obtain ⟨v5, h6, hM⟩ := bnd hM
  refine ws_iald cx h6 dX10_yOf_12 ?_
  obtain ⟨v7, h8, hM⟩ := bnd hM
  refine ws_iald cx h8 dX10_yOf_13 ?_
  exact ws_iretM cx ex hM dX10_yOf_14

def mX10_isTogether_j72 (S : SH) (o : Nat) (a0 : Int32) (a1 : Int32) (me : ME) (y0 : Int32) : Option (Int32 × ME) :=
  if y0 = 0 ∨ y0 = 1 then some (y0, me) else none
def mX10_isTogether_j71 (S : SH) (o : Nat) (a0 : Int32) (a1 : Int32) (me : ME) : Option (Int32 × ME) :=
  mX10_isTogether_j72 S o a0 a1 me (0 : Int32)
def mX10_isTogether (S : SH) (me : ME) (o : Nat) (a0 : Int32) (a1 : Int32) : Option (Int32 × ME) :=
  (gR S 10 3 o).bind fun v2 =>
  (aI S me 11 v2 ((7 : Int32) + a0)).bind fun v4 =>
  (gR S 10 3 o).bind fun v6 =>
  (aI S me 11 v6 ((7 : Int32) + a1)).bind fun v8 =>
  if v4 = v8 then
    mX10_isTogether_j71 S o a0 a1 me
  else
    (ck S 10 o).bind fun _ => (mX10_timeOf S me o a0).bind fun q11 =>
    (ck S 10 o).bind fun _ => (mX10_timeOf S q11.2 o a1).bind fun q14 =>
    (mX10_square S q14.2 (q11.1 - q14.1)).bind fun q17 =>
    (ck S 10 o).bind fun _ => (mX10_xOf S q17.2 o a0).bind fun q19 =>
    (ck S 10 o).bind fun _ => (mX10_xOf S q19.2 o a1).bind fun q22 =>
    (mX10_square S q22.2 (q19.1 - q22.1)).bind fun q25 =>
    (ck S 10 o).bind fun _ => (mX10_yOf S q25.2 o a0).bind fun q27 =>
    (ck S 10 o).bind fun _ => (mX10_yOf S q27.2 o a1).bind fun q30 =>
    (mX10_square S q30.2 (q27.1 - q30.1)).bind fun q33 =>
    if (q25.1 + q33.1) < q17.1 then
      mX10_isTogether_j71 S o a0 a1 q33.2
    else
      mX10_isTogether_j72 S o a0 a1 q33.2 (1 : Int32)
set_option maxRecDepth 100000 in
set_option maxHeartbeats 4000000 in
theorem kX10_isTogether (l : Launch) (D : va_G) (b : Nat) {S : SH} {me : ME} {o : Nat} {a0 : Int32} {a1 : Int32} {q : Int32 × ME} (hM : mX10_isTogether S me o a0 a1 = some q) : Ct l D b yX10_isTogether cX10_isTogether 3 (some .boolean) 1 22 0 0 [.ref (b + o), .int a0, .int a1] S me S q.2 (some (.int q.1)) := by
  refine ct_of (own := RX10) (nm := "isTogether") (lv := [(0, .ref (b + o)), (1, .int a0), (2, .int a1)]) (plainFor_of_name (by decide)) rfl rfl (Nat.le_of_ble_eq_true rfl) rfl ⟨rfl, rfl⟩ (fun X cx ex hL => ?_)
  have J72 : ∀ (me : ME) (y0 : Int32), mX10_isTogether_j72 S o a0 a1 me y0 = some q → WS X b 3 S me 72 [] [.int y0] := by
    intro  me y0 hM
    unfold mX10_isTogether_j72 at hM
    obtain ⟨h1, hM⟩ := ite_o hM
    exact ws_zretM cx ex h1 hM dX10_isTogether_72
  have J71 : ∀ (me : ME), mX10_isTogether_j71 S o a0 a1 me = some q → WS X b 3 S me 71 [] [] := by
    intro  me hM
    unfold mX10_isTogether_j71 at hM
    refine ws_iconst cx dX10_isTogether_71 (v := 0) (by decide) ?_
    refine ws_sub [] (lv' := []) rfl ?_
    exact J72 _ _ hM
  unfold mX10_isTogether at hM
  refine ws_aload_n cx dX10_isTogether_0 rfl (j := 0) rfl ?_
  obtain ⟨v2, h3, hM⟩ := bnd hM
  refine ws_getR cx ffX10_16 h3 dX10_isTogether_1 ?_
  refine ws_bipush cx dX10_isTogether_4 (v := 7) (by decide) ?_
  refine ws_iload_n cx dX10_isTogether_6 rfl (j := 1) rfl ?_
  refine ws_iadd cx dX10_isTogether_7 ?_
  obtain ⟨v4, h5, hM⟩ := bnd hM
  refine ws_iald cx h5 dX10_isTogether_8 ?_
  refine ws_aload_n cx dX10_isTogether_9 rfl (j := 0) rfl ?_
  obtain ⟨v6, h7, hM⟩ := bnd hM
  refine ws_getR cx ffX10_16 h7 dX10_isTogether_10 ?_
  refine ws_bipush cx dX10_isTogether_13 (v := 7) (by decide) ?_
  refine ws_iload_n cx dX10_isTogether_15 rfl (j := 2) rfl ?_
  refine ws_iadd cx dX10_isTogether_16 ?_
  obtain ⟨v8, h9, hM⟩ := bnd hM
  refine ws_iald cx h9 dX10_isTogether_17 ?_
  refine ws_icmp_eq cx dX10_isTogether_18 (tgt := 71) (by decide) (fun c10 => ?_) (fun c10 => ?_)
  · have hM := if_t hM c10
    refine ws_sub [] (lv' := []) rfl ?_
    exact J71 _ hM
  · have hM := if_f hM c10
    refine ws_aload_n cx dX10_isTogether_21 rfl (j := 0) rfl ?_
    refine ws_iload_n cx dX10_isTogether_22 rfl (j := 1) rfl ?_
    obtain ⟨_, h13, hM⟩ := bnd hM
    obtain ⟨q11, h12, hM⟩ := bnd hM
    refine ws_callV cx (rest := []) (st' := [.int q11.1]) (kX10_timeOf l D b h12) mvX10_timeOf (ck_k h13) (by decide) (q := (RX10, TX10, 31)) rfl seX10_timeOf lkX10_110 rfl ⟨by decide, by decide⟩ (Nat.le_of_ble_eq_true rfl) ⟨rfl, rfl⟩ (Or.inl ⟨rfl, rfl⟩) rfl rfl dX10_isTogether_23 ?_
    refine ws_aload_n cx dX10_isTogether_26 rfl (j := 0) rfl ?_
    refine ws_iload_n cx dX10_isTogether_27 rfl (j := 2) rfl ?_
    obtain ⟨_, h16, hM⟩ := bnd hM
    obtain ⟨q14, h15, hM⟩ := bnd hM
    refine ws_callV cx (rest := [.int q11.1]) (st' := [.int q14.1, .int q11.1]) (kX10_timeOf l D b h15) mvX10_timeOf (ck_k h16) (by decide) (q := (RX10, TX10, 31)) rfl seX10_timeOf lkX10_110 rfl ⟨by decide, by decide⟩ (Nat.le_of_ble_eq_true rfl) ⟨rfl, rfl⟩ (Or.inl ⟨rfl, rfl⟩) rfl rfl dX10_isTogether_28 ?_
    refine ws_isub cx dX10_isTogether_31 ?_
    obtain ⟨q17, h18, hM⟩ := bnd hM
    refine ws_callS cx (rest := []) (st' := [.int q17.1]) (kX10_square l D b h18) mvX10_square lkX10_113 rfl ⟨by decide, by decide⟩ (Nat.le_of_ble_eq_true rfl) ⟨rfl, rfl⟩ (Or.inl ⟨rfl, rfl⟩) rfl rfl dX10_isTogether_32 ?_
    refine ws_aload_n cx dX10_isTogether_35 rfl (j := 0) rfl ?_
    refine ws_iload_n cx dX10_isTogether_36 rfl (j := 1) rfl ?_
    obtain ⟨_, h21, hM⟩ := bnd hM
    obtain ⟨q19, h20, hM⟩ := bnd hM
    refine ws_callV cx (rest := [.int q17.1]) (st' := [.int q19.1, .int q17.1]) (kX10_xOf l D b h20) mvX10_xOf (ck_k h21) (by decide) (q := (RX10, TX10, 31)) rfl seX10_xOf lkX10_116 rfl ⟨by decide, by decide⟩ (Nat.le_of_ble_eq_true rfl) ⟨rfl, rfl⟩ (Or.inl ⟨rfl, rfl⟩) rfl rfl dX10_isTogether_37 ?_
    refine ws_aload_n cx dX10_isTogether_40 rfl (j := 0) rfl ?_
    refine ws_iload_n cx dX10_isTogether_41 rfl (j := 2) rfl ?_
    obtain ⟨_, h24, hM⟩ := bnd hM
    obtain ⟨q22, h23, hM⟩ := bnd hM
    refine ws_callV cx (rest := [.int q19.1, .int q17.1]) (st' := [.int q22.1, .int q19.1, .int q17.1]) (kX10_xOf l D b h23) mvX10_xOf (ck_k h24) (by decide) (q := (RX10, TX10, 31)) rfl seX10_xOf lkX10_116 rfl ⟨by decide, by decide⟩ (Nat.le_of_ble_eq_true rfl) ⟨rfl, rfl⟩ (Or.inl ⟨rfl, rfl⟩) rfl rfl dX10_isTogether_42 ?_
    refine ws_isub cx dX10_isTogether_45 ?_
    obtain ⟨q25, h26, hM⟩ := bnd hM
    refine ws_callS cx (rest := [.int q17.1]) (st' := [.int q25.1, .int q17.1]) (kX10_square l D b h26) mvX10_square lkX10_113 rfl ⟨by decide, by decide⟩ (Nat.le_of_ble_eq_true rfl) ⟨rfl, rfl⟩ (Or.inl ⟨rfl, rfl⟩) rfl rfl dX10_isTogether_46 ?_
    refine ws_aload_n cx dX10_isTogether_49 rfl (j := 0) rfl ?_
    refine ws_iload_n cx dX10_isTogether_50 rfl (j := 1) rfl ?_
    obtain ⟨_, h29, hM⟩ := bnd hM
    obtain ⟨q27, h28, hM⟩ := bnd hM
    refine ws_callV cx (rest := [.int q25.1, .int q17.1]) (st' := [.int q27.1, .int q25.1, .int q17.1]) (kX10_yOf l D b h28) mvX10_yOf (ck_k h29) (by decide) (q := (RX10, TX10, 31)) rfl seX10_yOf lkX10_119 rfl ⟨by decide, by decide⟩ (Nat.le_of_ble_eq_true rfl) ⟨rfl, rfl⟩ (Or.inl ⟨rfl, rfl⟩) rfl rfl dX10_isTogether_51 ?_
    refine ws_aload_n cx dX10_isTogether_54 rfl (j := 0) rfl ?_
    refine ws_iload_n cx dX10_isTogether_55 rfl (j := 2) rfl ?_
    obtain ⟨_, h32, hM⟩ := bnd hM
    obtain ⟨q30, h31, hM⟩ := bnd hM
    refine ws_callV cx (rest := [.int q27.1, .int q25.1, .int q17.1]) (st' := [.int q30.1, .int q27.1, .int q25.1, .int q17.1]) (kX10_yOf l D b h31) mvX10_yOf (ck_k h32) (by decide) (q := (RX10, TX10, 31)) rfl seX10_yOf lkX10_119 rfl ⟨by decide, by decide⟩ (Nat.le_of_ble_eq_true rfl) ⟨rfl, rfl⟩ (Or.inl ⟨rfl, rfl⟩) rfl rfl dX10_isTogether_56 ?_
    refine ws_isub cx dX10_isTogether_59 ?_
    obtain ⟨q33, h34, hM⟩ := bnd hM
    refine ws_callS cx (rest := [.int q25.1, .int q17.1]) (st' := [.int q33.1, .int q25.1, .int q17.1]) (kX10_square l D b h34) mvX10_square lkX10_113 rfl ⟨by decide, by decide⟩ (Nat.le_of_ble_eq_true rfl) ⟨rfl, rfl⟩ (Or.inl ⟨rfl, rfl⟩) rfl rfl dX10_isTogether_60 ?_
    refine ws_iadd cx dX10_isTogether_63 ?_
    refine ws_icmp_gt cx dX10_isTogether_64 (tgt := 71) (by decide) (fun c35 => ?_) (fun c35 => ?_)
    · have hM := if_t hM c35
      refine ws_sub [] (lv' := []) rfl ?_
      exact J71 _ hM
    · have hM := if_f hM c35
      refine ws_iconst cx dX10_isTogether_67 (v := 1) (by decide) ?_
      refine ws_goto cx dX10_isTogether_68 (tgt := 72) (by decide) ?_
      refine ws_sub [] (lv' := []) rfl ?_
      exact J72 _ _ hM

def mX10_layGroups_j67 (S : SH) (o : Nat) (k9 : (ME × Int32 × Int32 → Option (Unit × ME))) (k25 : (ME × Int32 × Int32 × Int32 × Int32 → Option (Unit × ME))) (me : ME) (x1 : Int32) (x2 : Int32) (x4 : Int32) (y0 : Int32) : Option (Unit × ME) :=
  k25 (me, x1, x2, y0, x4 + (1 : Int32))
def mX10_layGroups_j61 (S : SH) (o : Nat) (k9 : (ME × Int32 × Int32 → Option (Unit × ME))) (k25 : (ME × Int32 × Int32 × Int32 × Int32 → Option (Unit × ME))) (me : ME) (x1 : Int32) (x2 : Int32) (x4 : Int32) : Option (Unit × ME) :=
  mX10_layGroups_j67 S o k9 k25 me x1 x2 x4 x4
def mX10_layGroups_j66 (S : SH) (o : Nat) (k9 : (ME × Int32 × Int32 → Option (Unit × ME))) (k25 : (ME × Int32 × Int32 × Int32 × Int32 → Option (Unit × ME))) (me : ME) (x1 : Int32) (x2 : Int32) (x3 : Int32) (x4 : Int32) : Option (Unit × ME) :=
  mX10_layGroups_j67 S o k9 k25 me x1 x2 x4 x3
def mX10_layGroups_j151 (S : SH) (o : Nat) (k9 : (ME × Int32 × Int32 → Option (Unit × ME))) (k94 : (ME × Int32 × Int32 × Int32 × Int32 × Int32 → Option (Unit × ME))) (k105 : (ME × Int32 × Int32 × Int32 × Int32 × Int32 × Int32 × Int32 → Option (Unit × ME))) (me : ME) (x1 : Int32) (x2 : Int32) (x3 : Int32) (x4 : Int32) (x5 : Int32) (x7 : Int32) (y0 : Int32) : Option (Unit × ME) :=
  k105 (me, x1, x2, x3, x4, x5, y0, x7 + (1 : Int32))
def mX10_layGroups_j146 (S : SH) (o : Nat) (k9 : (ME × Int32 × Int32 → Option (Unit × ME))) (k94 : (ME × Int32 × Int32 × Int32 × Int32 × Int32 → Option (Unit × ME))) (k105 : (ME × Int32 × Int32 × Int32 × Int32 × Int32 × Int32 × Int32 → Option (Unit × ME))) (me : ME) (x1 : Int32) (x2 : Int32) (x3 : Int32) (x4 : Int32) (x5 : Int32) (x7 : Int32) : Option (Unit × ME) :=
  mX10_layGroups_j151 S o k9 k94 k105 me x1 x2 x3 x4 x5 x7 (1 : Int32)
def mX10_layGroups_j150 (S : SH) (o : Nat) (k9 : (ME × Int32 × Int32 → Option (Unit × ME))) (k94 : (ME × Int32 × Int32 × Int32 × Int32 × Int32 → Option (Unit × ME))) (k105 : (ME × Int32 × Int32 × Int32 × Int32 × Int32 × Int32 × Int32 → Option (Unit × ME))) (me : ME) (x1 : Int32) (x2 : Int32) (x3 : Int32) (x4 : Int32) (x5 : Int32) (x7 : Int32) : Option (Unit × ME) :=
  mX10_layGroups_j151 S o k9 k94 k105 me x1 x2 x3 x4 x5 x7 (0 : Int32)
def mX10_layGroups_j171 (S : SH) (o : Nat) (k9 : (ME × Int32 × Int32 → Option (Unit × ME))) (k94 : (ME × Int32 × Int32 × Int32 × Int32 × Int32 → Option (Unit × ME))) (me : ME) (x1 : Int32) (x2 : Int32) (x3 : Int32) (x5 : Int32) (y0 : Int32) : Option (Unit × ME) :=
  k94 (me, x1, x2, x3, y0, x5 + (-1 : Int32))
def mX10_layGroups_j159 (S : SH) (o : Nat) (k9 : (ME × Int32 × Int32 → Option (Unit × ME))) (k94 : (ME × Int32 × Int32 × Int32 × Int32 × Int32 → Option (Unit × ME))) (me : ME) (x1 : Int32) (x2 : Int32) (x3 : Int32) (x4 : Int32) (x5 : Int32) (x6 : Int32) : Option (Unit × ME) :=
  if x6 = 0 then
    mX10_layGroups_j171 S o k9 k94 me x1 x2 x3 x5 x4
  else
    mX10_layGroups_j171 S o k9 k94 me x1 x2 x3 x5 x5
def mX10_layGroups_L105 (S : SH) (o : Nat) (k9 : (ME × Int32 × Int32 → Option (Unit × ME))) (k94 : (ME × Int32 × Int32 × Int32 × Int32 × Int32 → Option (Unit × ME))) (k105 : (ME × Int32 × Int32 × Int32 × Int32 × Int32 × Int32 × Int32 → Option (Unit × ME))) : ME × Int32 × Int32 × Int32 × Int32 × Int32 × Int32 × Int32 → Option (Unit × ME)
  | (me, x1, x2, x3, x4, x5, x6, x7) =>
    (gR S 10 3 o).bind fun v2 =>
    (aI S me 11 v2 (0 : Int32)).bind fun v4 =>
    if v4 ≤ x7 then
      mX10_layGroups_j159 S o k9 k94 me x1 x2 x3 x4 x5 x6
    else
      if x6 = 0 then
        mX10_layGroups_j150 S o k9 k94 k105 me x1 x2 x3 x4 x5 x7
      else
        (gR S 10 21 o).bind fun v8 =>
        (aI S me 11 v8 x5).bind fun v10 =>
        (mX10_has S me v10 x7).bind fun q12 =>
        if q12.1 = 0 then
          mX10_layGroups_j146 S o k9 k94 k105 q12.2 x1 x2 x3 x4 x5 x7
        else
          (ck S 10 o).bind fun _ => (mX10_isTogether S q12.2 o x7 x3).bind fun q15 =>
          if q15.1 = 0 then
            mX10_layGroups_j150 S o k9 k94 k105 q15.2 x1 x2 x3 x4 x5 x7
          else
            mX10_layGroups_j146 S o k9 k94 k105 q15.2 x1 x2 x3 x4 x5 x7
def mX10_layGroups_j206 (S : SH) (o : Nat) (k9 : (ME × Int32 × Int32 → Option (Unit × ME))) (me : ME) (x1 : Int32) (x2 : Int32) (x3 : Int32) (x4 : Int32) : Option (Unit × ME) :=
  (gR S 10 21 o).bind fun v19 =>
  (aI S me 11 v19 x4).bind fun v21 =>
  (uI S me v19 x4 (v21 ||| ((1 : Int32) <<< (x3 &&& 31)))).bind fun m24 =>
  k9 (m24, x1, x2 + (1 : Int32))
def mX10_layGroups_j179 (S : SH) (o : Nat) (k9 : (ME × Int32 × Int32 → Option (Unit × ME))) (me : ME) (x1 : Int32) (x2 : Int32) (x3 : Int32) (x4 : Int32) : Option (Unit × ME) :=
  (gI S me 10 20 o).bind fun v25 =>
  if x4 = v25 then
    (gR S 10 21 o).bind fun v28 =>
    (uI S me v28 x4 (0 : Int32)).bind fun m31 =>
    (gI S m31 10 20 o).bind fun v32 =>
    (sI S m31 10 20 o (v32 + (1 : Int32))).bind fun m35 =>
    mX10_layGroups_j206 S o k9 m35 x1 x2 x3 x4
  else
    mX10_layGroups_j206 S o k9 me x1 x2 x3 x4
def mX10_layGroups_L94 (S : SH) (o : Nat) (k9 : (ME × Int32 × Int32 → Option (Unit × ME))) (k94 : (ME × Int32 × Int32 × Int32 × Int32 × Int32 → Option (Unit × ME))) : ME × Int32 × Int32 × Int32 × Int32 × Int32 → Option (Unit × ME)
  | (me, x1, x2, x3, x4, x5) =>
    if x5 < 0 then
      mX10_layGroups_j179 S o k9 me x1 x2 x3 x4
    else
      lpn (mX10_layGroups_L105 S o k9 k94) lpF (me, x1, x2, x3, x4, x5, (1 : Int32), (0 : Int32))
def mX10_layGroups_j74 (S : SH) (o : Nat) (k9 : (ME × Int32 × Int32 → Option (Unit × ME))) (me : ME) (x1 : Int32) (x2 : Int32) (x3 : Int32) : Option (Unit × ME) :=
  (gI S me 10 20 o).bind fun v37 =>
  (gI S me 10 20 o).bind fun v39 =>
  lpn (mX10_layGroups_L94 S o k9) lpF (me, x1 ||| ((1 : Int32) <<< (x3 &&& 31)), x2, x3, v37, v39 - (1 : Int32))
def mX10_layGroups_L25 (S : SH) (o : Nat) (k9 : (ME × Int32 × Int32 → Option (Unit × ME))) (k25 : (ME × Int32 × Int32 × Int32 × Int32 → Option (Unit × ME))) : ME × Int32 × Int32 × Int32 × Int32 → Option (Unit × ME)
  | (me, x1, x2, x3, x4) =>
    (gR S 10 3 o).bind fun v41 =>
    (aI S me 11 v41 (0 : Int32)).bind fun v43 =>
    if v43 ≤ x4 then
      mX10_layGroups_j74 S o k9 me x1 x2 x3
    else
      (mX10_has S me x1 x4).bind fun q46 =>
      if q46.1 = 0 then
        if x3 = (-9 : Int32) then
          mX10_layGroups_j61 S o k9 k25 q46.2 x1 x2 x4
        else
          (ck S 10 o).bind fun _ => (mX10_isAhead S q46.2 o x4 x3).bind fun q50 =>
          if q50.1 = 0 then
            mX10_layGroups_j66 S o k9 k25 q50.2 x1 x2 x3 x4
          else
            mX10_layGroups_j61 S o k9 k25 q50.2 x1 x2 x4
      else
        mX10_layGroups_j66 S o k9 k25 q46.2 x1 x2 x3 x4
def mX10_layGroups_j225 (S : SH) (o : Nat) (me : ME) : Option (Unit × ME) :=
  some ((), me)
def mX10_layGroups_L9 (S : SH) (o : Nat) (k9 : (ME × Int32 × Int32 → Option (Unit × ME))) : ME × Int32 × Int32 → Option (Unit × ME)
  | (me, x1, x2) =>
    (gR S 10 3 o).bind fun v54 =>
    (aI S me 11 v54 (0 : Int32)).bind fun v56 =>
    if v56 ≤ x2 then
      mX10_layGroups_j225 S o me
    else
      lpn (mX10_layGroups_L25 S o k9) lpF (me, x1, x2, (-9 : Int32), (0 : Int32))
def mX10_layGroups (S : SH) (me : ME) (o : Nat) : Option (Unit × ME) :=
  (sI S me 10 20 o (0 : Int32)).bind fun m60 =>
  lpn (mX10_layGroups_L9 S o) lpF (m60, (0 : Int32), (0 : Int32))
set_option maxRecDepth 100000 in
set_option maxHeartbeats 4000000 in
theorem kX10_layGroups (l : Launch) (D : va_G) (b : Nat) {S : SH} {me : ME} {o : Nat} {q : Unit × ME} (hM : mX10_layGroups S me o = some q) : Ct l D b yX10_layGroups cX10_layGroups 8 none 2 45 0 0 [.ref (b + o)] S me S q.2 none := by
  refine ct_of (own := RX10) (nm := "layGroups") (lv := [(0, .ref (b + o))]) (plainFor_of_name (by decide)) rfl rfl (Nat.le_of_ble_eq_true rfl) rfl ⟨rfl, rfl⟩ (fun X cx ex hL => ?_)
  have J67 : ∀ (k9 : (ME × Int32 × Int32 → Option (Unit × ME))), (∀ (me : ME) (x1 : Int32) (x2 : Int32), k9 (me, x1, x2) = some q → WS X b 8 S me 9 [(0, .ref (b + o)), (1, .int x1), (2, .int x2)] []) → ∀ (k25 : (ME × Int32 × Int32 × Int32 × Int32 → Option (Unit × ME))), (∀ (me : ME) (x1 : Int32) (x2 : Int32) (x3 : Int32) (x4 : Int32), k25 (me, x1, x2, x3, x4) = some q → WS X b 8 S me 25 [(0, .ref (b + o)), (1, .int x1), (2, .int x2), (3, .int x3), (4, .int x4)] []) → ∀ (me : ME) (x1 : Int32) (x2 : Int32) (x4 : Int32) (y0 : Int32), mX10_layGroups_j67 S o k9 k25 me x1 x2 x4 y0 = some q → WS X b 8 S me 67 [(0, .ref (b + o)), (1, .int x1), (2, .int x2), (4, .int x4)] [.int y0] := by
    intro k9 hk9 k25 hk25 me x1 x2 x4 y0 hM
    unfold mX10_layGroups_j67 at hM
    refine ws_istore_n cx dX10_layGroups_67 rfl (by decide) (lv' := [(3, .int y0), (0, .ref (b + o)), (1, .int x1), (2, .int x2), (4, .int x4)]) rfl ?_
    refine ws_iinc cx dX10_layGroups_68 (j := 4) rfl (v := x4 + (1 : Int32)) rfl (by decide) (lv' := [(4, .int (x4 + (1 : Int32))), (3, .int y0), (0, .ref (b + o)), (1, .int x1), (2, .int x2)]) rfl ?_
    refine ws_goto cx dX10_layGroups_71 (tgt := 25) (by decide) ?_
    refine ws_sub [2, 3, 4, 1, 0] (lv' := [(0, .ref (b + o)), (1, .int x1), (2, .int x2), (3, .int y0), (4, .int (x4 + (1 : Int32)))]) rfl ?_
    exact hk25 _ _ _ _ _ hM
  have J61 : ∀ (k9 : (ME × Int32 × Int32 → Option (Unit × ME))), (∀ (me : ME) (x1 : Int32) (x2 : Int32), k9 (me, x1, x2) = some q → WS X b 8 S me 9 [(0, .ref (b + o)), (1, .int x1), (2, .int x2)] []) → ∀ (k25 : (ME × Int32 × Int32 × Int32 × Int32 → Option (Unit × ME))), (∀ (me : ME) (x1 : Int32) (x2 : Int32) (x3 : Int32) (x4 : Int32), k25 (me, x1, x2, x3, x4) = some q → WS X b 8 S me 25 [(0, .ref (b + o)), (1, .int x1), (2, .int x2), (3, .int x3), (4, .int x4)] []) → ∀ (me : ME) (x1 : Int32) (x2 : Int32) (x4 : Int32), mX10_layGroups_j61 S o k9 k25 me x1 x2 x4 = some q → WS X b 8 S me 61 [(0, .ref (b + o)), (1, .int x1), (2, .int x2), (4, .int x4)] [] := by
    intro k9 hk9 k25 hk25 me x1 x2 x4 hM
    unfold mX10_layGroups_j61 at hM
    refine ws_iload cx dX10_layGroups_61 (j := 3) rfl ?_
    refine ws_goto cx dX10_layGroups_63 (tgt := 67) (by decide) ?_
    refine ws_sub [0, 1, 2, 3] (lv' := [(0, .ref (b + o)), (1, .int x1), (2, .int x2), (4, .int x4)]) rfl ?_
    exact J67 _ hk9 _ hk25 _ _ _ _ _ hM
  have J66 : ∀ (k9 : (ME × Int32 × Int32 → Option (Unit × ME))), (∀ (me : ME) (x1 : Int32) (x2 : Int32), k9 (me, x1, x2) = some q → WS X b 8 S me 9 [(0, .ref (b + o)), (1, .int x1), (2, .int x2)] []) → ∀ (k25 : (ME × Int32 × Int32 × Int32 × Int32 → Option (Unit × ME))), (∀ (me : ME) (x1 : Int32) (x2 : Int32) (x3 : Int32) (x4 : Int32), k25 (me, x1, x2, x3, x4) = some q → WS X b 8 S me 25 [(0, .ref (b + o)), (1, .int x1), (2, .int x2), (3, .int x3), (4, .int x4)] []) → ∀ (me : ME) (x1 : Int32) (x2 : Int32) (x3 : Int32) (x4 : Int32), mX10_layGroups_j66 S o k9 k25 me x1 x2 x3 x4 = some q → WS X b 8 S me 66 [(0, .ref (b + o)), (1, .int x1), (2, .int x2), (3, .int x3), (4, .int x4)] [] := by
    intro k9 hk9 k25 hk25 me x1 x2 x3 x4 hM
    unfold mX10_layGroups_j66 at hM
    refine ws_iload_n cx dX10_layGroups_66 rfl (j := 3) rfl ?_
    refine ws_sub [0, 1, 2, 4] (lv' := [(0, .ref (b + o)), (1, .int x1), (2, .int x2), (4, .int x4)]) rfl ?_
    exact J67 _ hk9 _ hk25 _ _ _ _ _ hM
  have J151 : ∀ (k9 : (ME × Int32 × Int32 → Option (Unit × ME))), (∀ (me : ME) (x1 : Int32) (x2 : Int32), k9 (me, x1, x2) = some q → WS X b 8 S me 9 [(0, .ref (b + o)), (1, .int x1), (2, .int x2)] []) → ∀ (k94 : (ME × Int32 × Int32 × Int32 × Int32 × Int32 → Option (Unit × ME))), (∀ (me : ME) (x1 : Int32) (x2 : Int32) (x3 : Int32) (x4 : Int32) (x5 : Int32), k94 (me, x1, x2, x3, x4, x5) = some q → WS X b 8 S me 94 [(0, .ref (b + o)), (1, .int x1), (2, .int x2), (3, .int x3), (4, .int x4), (5, .int x5)] []) → ∀ (k105 : (ME × Int32 × Int32 × Int32 × Int32 × Int32 × Int32 × Int32 → Option (Unit × ME))), (∀ (me : ME) (x1 : Int32) (x2 : Int32) (x3 : Int32) (x4 : Int32) (x5 : Int32) (x6 : Int32) (x7 : Int32), k105 (me, x1, x2, x3, x4, x5, x6, x7) = some q → WS X b 8 S me 105 [(0, .ref (b + o)), (1, .int x1), (2, .int x2), (3, .int x3), (4, .int x4), (5, .int x5), (6, .int x6), (7, .int x7)] []) → ∀ (me : ME) (x1 : Int32) (x2 : Int32) (x3 : Int32) (x4 : Int32) (x5 : Int32) (x7 : Int32) (y0 : Int32), mX10_layGroups_j151 S o k9 k94 k105 me x1 x2 x3 x4 x5 x7 y0 = some q → WS X b 8 S me 151 [(0, .ref (b + o)), (1, .int x1), (2, .int x2), (3, .int x3), (4, .int x4), (5, .int x5), (7, .int x7)] [.int y0] := by
    intro k9 hk9 k94 hk94 k105 hk105 me x1 x2 x3 x4 x5 x7 y0 hM
    unfold mX10_layGroups_j151 at hM
    refine ws_istore cx dX10_layGroups_151 (by decide) (lv' := [(6, .int y0), (0, .ref (b + o)), (1, .int x1), (2, .int x2), (3, .int x3), (4, .int x4), (5, .int x5), (7, .int x7)]) rfl ?_
    refine ws_iinc cx dX10_layGroups_153 (j := 7) rfl (v := x7 + (1 : Int32)) rfl (by decide) (lv' := [(7, .int (x7 + (1 : Int32))), (6, .int y0), (0, .ref (b + o)), (1, .int x1), (2, .int x2), (3, .int x3), (4, .int x4), (5, .int x5)]) rfl ?_
    refine ws_goto cx dX10_layGroups_156 (tgt := 105) (by decide) ?_
    refine ws_sub [2, 3, 4, 5, 6, 7, 1, 0] (lv' := [(0, .ref (b + o)), (1, .int x1), (2, .int x2), (3, .int x3), (4, .int x4), (5, .int x5), (6, .int y0), (7, .int (x7 + (1 : Int32)))]) rfl ?_
    exact hk105 _ _ _ _ _ _ _ _ hM
  have J146 : ∀ (k9 : (ME × Int32 × Int32 → Option (Unit × ME))), (∀ (me : ME) (x1 : Int32) (x2 : Int32), k9 (me, x1, x2) = some q → WS X b 8 S me 9 [(0, .ref (b + o)), (1, .int x1), (2, .int x2)] []) → ∀ (k94 : (ME × Int32 × Int32 × Int32 × Int32 × Int32 → Option (Unit × ME))), (∀ (me : ME) (x1 : Int32) (x2 : Int32) (x3 : Int32) (x4 : Int32) (x5 : Int32), k94 (me, x1, x2, x3, x4, x5) = some q → WS X b 8 S me 94 [(0, .ref (b + o)), (1, .int x1), (2, .int x2), (3, .int x3), (4, .int x4), (5, .int x5)] []) → ∀ (k105 : (ME × Int32 × Int32 × Int32 × Int32 × Int32 × Int32 × Int32 → Option (Unit × ME))), (∀ (me : ME) (x1 : Int32) (x2 : Int32) (x3 : Int32) (x4 : Int32) (x5 : Int32) (x6 : Int32) (x7 : Int32), k105 (me, x1, x2, x3, x4, x5, x6, x7) = some q → WS X b 8 S me 105 [(0, .ref (b + o)), (1, .int x1), (2, .int x2), (3, .int x3), (4, .int x4), (5, .int x5), (6, .int x6), (7, .int x7)] []) → ∀ (me : ME) (x1 : Int32) (x2 : Int32) (x3 : Int32) (x4 : Int32) (x5 : Int32) (x7 : Int32), mX10_layGroups_j146 S o k9 k94 k105 me x1 x2 x3 x4 x5 x7 = some q → WS X b 8 S me 146 [(0, .ref (b + o)), (1, .int x1), (2, .int x2), (3, .int x3), (4, .int x4), (5, .int x5), (7, .int x7)] [] := by
    intro k9 hk9 k94 hk94 k105 hk105 me x1 x2 x3 x4 x5 x7 hM
    unfold mX10_layGroups_j146 at hM
    refine ws_iconst cx dX10_layGroups_146 (v := 1) (by decide) ?_
    refine ws_goto cx dX10_layGroups_147 (tgt := 151) (by decide) ?_
    refine ws_sub [0, 1, 2, 3, 4, 5, 6] (lv' := [(0, .ref (b + o)), (1, .int x1), (2, .int x2), (3, .int x3), (4, .int x4), (5, .int x5), (7, .int x7)]) rfl ?_
    exact J151 _ hk9 _ hk94 _ hk105 _ _ _ _ _ _ _ _ hM
  have J150 : ∀ (k9 : (ME × Int32 × Int32 → Option (Unit × ME))), (∀ (me : ME) (x1 : Int32) (x2 : Int32), k9 (me, x1, x2) = some q → WS X b 8 S me 9 [(0, .ref (b + o)), (1, .int x1), (2, .int x2)] []) → ∀ (k94 : (ME × Int32 × Int32 × Int32 × Int32 × Int32 → Option (Unit × ME))), (∀ (me : ME) (x1 : Int32) (x2 : Int32) (x3 : Int32) (x4 : Int32) (x5 : Int32), k94 (me, x1, x2, x3, x4, x5) = some q → WS X b 8 S me 94 [(0, .ref (b + o)), (1, .int x1), (2, .int x2), (3, .int x3), (4, .int x4), (5, .int x5)] []) → ∀ (k105 : (ME × Int32 × Int32 × Int32 × Int32 × Int32 × Int32 × Int32 → Option (Unit × ME))), (∀ (me : ME) (x1 : Int32) (x2 : Int32) (x3 : Int32) (x4 : Int32) (x5 : Int32) (x6 : Int32) (x7 : Int32), k105 (me, x1, x2, x3, x4, x5, x6, x7) = some q → WS X b 8 S me 105 [(0, .ref (b + o)), (1, .int x1), (2, .int x2), (3, .int x3), (4, .int x4), (5, .int x5), (6, .int x6), (7, .int x7)] []) → ∀ (me : ME) (x1 : Int32) (x2 : Int32) (x3 : Int32) (x4 : Int32) (x5 : Int32) (x7 : Int32), mX10_layGroups_j150 S o k9 k94 k105 me x1 x2 x3 x4 x5 x7 = some q → WS X b 8 S me 150 [(0, .ref (b + o)), (1, .int x1), (2, .int x2), (3, .int x3), (4, .int x4), (5, .int x5), (7, .int x7)] [] := by
    intro k9 hk9 k94 hk94 k105 hk105 me x1 x2 x3 x4 x5 x7 hM
    unfold mX10_layGroups_j150 at hM
    refine ws_iconst cx dX10_layGroups_150 (v := 0) (by decide) ?_
    refine ws_sub [0, 1, 2, 3, 4, 5, 6] (lv' := [(0, .ref (b + o)), (1, .int x1), (2, .int x2), (3, .int x3), (4, .int x4), (5, .int x5), (7, .int x7)]) rfl ?_
    exact J151 _ hk9 _ hk94 _ hk105 _ _ _ _ _ _ _ _ hM
  have J171 : ∀ (k9 : (ME × Int32 × Int32 → Option (Unit × ME))), (∀ (me : ME) (x1 : Int32) (x2 : Int32), k9 (me, x1, x2) = some q → WS X b 8 S me 9 [(0, .ref (b + o)), (1, .int x1), (2, .int x2)] []) → ∀ (k94 : (ME × Int32 × Int32 × Int32 × Int32 × Int32 → Option (Unit × ME))), (∀ (me : ME) (x1 : Int32) (x2 : Int32) (x3 : Int32) (x4 : Int32) (x5 : Int32), k94 (me, x1, x2, x3, x4, x5) = some q → WS X b 8 S me 94 [(0, .ref (b + o)), (1, .int x1), (2, .int x2), (3, .int x3), (4, .int x4), (5, .int x5)] []) → ∀ (me : ME) (x1 : Int32) (x2 : Int32) (x3 : Int32) (x5 : Int32) (y0 : Int32), mX10_layGroups_j171 S o k9 k94 me x1 x2 x3 x5 y0 = some q → WS X b 8 S me 171 [(0, .ref (b + o)), (1, .int x1), (2, .int x2), (3, .int x3), (5, .int x5)] [.int y0] := by
    intro k9 hk9 k94 hk94 me x1 x2 x3 x5 y0 hM
    unfold mX10_layGroups_j171 at hM
    refine ws_istore cx dX10_layGroups_171 (by decide) (lv' := [(4, .int y0), (0, .ref (b + o)), (1, .int x1), (2, .int x2), (3, .int x3), (5, .int x5)]) rfl ?_
    refine ws_iinc cx dX10_layGroups_173 (j := 5) rfl (v := x5 + (-1 : Int32)) rfl (by decide) (lv' := [(5, .int (x5 + (-1 : Int32))), (4, .int y0), (0, .ref (b + o)), (1, .int x1), (2, .int x2), (3, .int x3)]) rfl ?_
    refine ws_goto cx dX10_layGroups_176 (tgt := 94) (by decide) ?_
    refine ws_sub [2, 3, 4, 5, 1, 0] (lv' := [(0, .ref (b + o)), (1, .int x1), (2, .int x2), (3, .int x3), (4, .int y0), (5, .int (x5 + (-1 : Int32)))]) rfl ?_
    exact hk94 _ _ _ _ _ _ hM
  have J159 : ∀ (k9 : (ME × Int32 × Int32 → Option (Unit × ME))), (∀ (me : ME) (x1 : Int32) (x2 : Int32), k9 (me, x1, x2) = some q → WS X b 8 S me 9 [(0, .ref (b + o)), (1, .int x1), (2, .int x2)] []) → ∀ (k94 : (ME × Int32 × Int32 × Int32 × Int32 × Int32 → Option (Unit × ME))), (∀ (me : ME) (x1 : Int32) (x2 : Int32) (x3 : Int32) (x4 : Int32) (x5 : Int32), k94 (me, x1, x2, x3, x4, x5) = some q → WS X b 8 S me 94 [(0, .ref (b + o)), (1, .int x1), (2, .int x2), (3, .int x3), (4, .int x4), (5, .int x5)] []) → ∀ (me : ME) (x1 : Int32) (x2 : Int32) (x3 : Int32) (x4 : Int32) (x5 : Int32) (x6 : Int32), mX10_layGroups_j159 S o k9 k94 me x1 x2 x3 x4 x5 x6 = some q → WS X b 8 S me 159 [(0, .ref (b + o)), (1, .int x1), (2, .int x2), (3, .int x3), (4, .int x4), (5, .int x5), (6, .int x6)] [] := by
    intro k9 hk9 k94 hk94 me x1 x2 x3 x4 x5 x6 hM
    unfold mX10_layGroups_j159 at hM
    refine ws_iload cx dX10_layGroups_159 (j := 6) rfl ?_
    refine ws_if_eq cx dX10_layGroups_161 (tgt := 169) (by decide) (fun c1 => ?_) (fun c1 => ?_)
    · have hM := if_t hM c1
      refine ws_iload cx dX10_layGroups_169 (j := 4) rfl ?_
      refine ws_sub [0, 1, 2, 3, 5] (lv' := [(0, .ref (b + o)), (1, .int x1), (2, .int x2), (3, .int x3), (5, .int x5)]) rfl ?_
      exact J171 _ hk9 _ hk94 _ _ _ _ _ _ hM
    · have hM := if_f hM c1
      refine ws_iload cx dX10_layGroups_164 (j := 5) rfl ?_
      refine ws_goto cx dX10_layGroups_166 (tgt := 171) (by decide) ?_
      refine ws_sub [0, 1, 2, 3, 5] (lv' := [(0, .ref (b + o)), (1, .int x1), (2, .int x2), (3, .int x3), (5, .int x5)]) rfl ?_
      exact J171 _ hk9 _ hk94 _ _ _ _ _ _ hM
  have L105 : ∀ (k9 : (ME × Int32 × Int32 → Option (Unit × ME))), (∀ (me : ME) (x1 : Int32) (x2 : Int32), k9 (me, x1, x2) = some q → WS X b 8 S me 9 [(0, .ref (b + o)), (1, .int x1), (2, .int x2)] []) → ∀ (k94 : (ME × Int32 × Int32 × Int32 × Int32 × Int32 → Option (Unit × ME))), (∀ (me : ME) (x1 : Int32) (x2 : Int32) (x3 : Int32) (x4 : Int32) (x5 : Int32), k94 (me, x1, x2, x3, x4, x5) = some q → WS X b 8 S me 94 [(0, .ref (b + o)), (1, .int x1), (2, .int x2), (3, .int x3), (4, .int x4), (5, .int x5)] []) → ∀ (n : Nat) (me : ME) (x1 : Int32) (x2 : Int32) (x3 : Int32) (x4 : Int32) (x5 : Int32) (x6 : Int32) (x7 : Int32), lpn (mX10_layGroups_L105 S o k9 k94) n (me, x1, x2, x3, x4, x5, x6, x7) = some q → WS X b 8 S me 105 [(0, .ref (b + o)), (1, .int x1), (2, .int x2), (3, .int x3), (4, .int x4), (5, .int x5), (6, .int x6), (7, .int x7)] [] := by
    intro k9 hk9 k94 hk94 n
    induction n with
    | zero => intro me x1 x2 x3 x4 x5 x6 x7 hM; exact absurd hM (by intro h; cases h)
    | succ n ih =>
      intro me x1 x2 x3 x4 x5 x6 x7 hM
      have hM : mX10_layGroups_L105 S o k9 k94 (lpn (mX10_layGroups_L105 S o k9 k94) n) (me, x1, x2, x3, x4, x5, x6, x7) = some q := hM
      unfold mX10_layGroups_L105 at hM
      refine ws_iload cx dX10_layGroups_105 (j := 7) rfl ?_
      refine ws_aload_n cx dX10_layGroups_107 rfl (j := 0) rfl ?_
      obtain ⟨v2, h3, hM⟩ := bnd hM
      refine ws_getR cx ffX10_16 h3 dX10_layGroups_108 ?_
      refine ws_iconst cx dX10_layGroups_111 (v := 0) (by decide) ?_
      obtain ⟨v4, h5, hM⟩ := bnd hM
      refine ws_iald cx h5 dX10_layGroups_112 ?_
      refine ws_icmp_ge cx dX10_layGroups_113 (tgt := 159) (by decide) (fun c6 => ?_) (fun c6 => ?_)
      · have hM := if_t hM c6
        refine ws_sub [0, 1, 2, 3, 4, 5, 6] (lv' := [(0, .ref (b + o)), (1, .int x1), (2, .int x2), (3, .int x3), (4, .int x4), (5, .int x5), (6, .int x6)]) rfl ?_
        exact J159 _ hk9 _ hk94 _ _ _ _ _ _ _ hM
      · have hM := if_f hM c6
        refine ws_iload cx dX10_layGroups_116 (j := 6) rfl ?_
        refine ws_if_eq cx dX10_layGroups_118 (tgt := 150) (by decide) (fun c7 => ?_) (fun c7 => ?_)
        · have hM := if_t hM c7
          refine ws_sub [0, 1, 2, 3, 4, 5, 7] (lv' := [(0, .ref (b + o)), (1, .int x1), (2, .int x2), (3, .int x3), (4, .int x4), (5, .int x5), (7, .int x7)]) rfl ?_
          exact J150 _ hk9 _ hk94 _ ih _ _ _ _ _ _ _ hM
        · have hM := if_f hM c7
          refine ws_aload_n cx dX10_layGroups_121 rfl (j := 0) rfl ?_
          obtain ⟨v8, h9, hM⟩ := bnd hM
          refine ws_getR cx ffX10_41 h9 dX10_layGroups_122 ?_
          refine ws_iload cx dX10_layGroups_125 (j := 5) rfl ?_
          obtain ⟨v10, h11, hM⟩ := bnd hM
          refine ws_iald cx h11 dX10_layGroups_127 ?_
          refine ws_iload cx dX10_layGroups_128 (j := 7) rfl ?_
          obtain ⟨q12, h13, hM⟩ := bnd hM
          refine ws_callS cx (rest := []) (st' := [.int q12.1]) (kX10_has l D b h13) mvX10_has lkX10_125 rfl ⟨by decide, by decide⟩ (Nat.le_of_ble_eq_true rfl) ⟨rfl, rfl⟩ (Or.inl ⟨rfl, rfl⟩) rfl rfl dX10_layGroups_130 ?_
          refine ws_if_eq cx dX10_layGroups_133 (tgt := 146) (by decide) (fun c14 => ?_) (fun c14 => ?_)
          · have hM := if_t hM c14
            refine ws_sub [0, 1, 2, 3, 4, 5, 7] (lv' := [(0, .ref (b + o)), (1, .int x1), (2, .int x2), (3, .int x3), (4, .int x4), (5, .int x5), (7, .int x7)]) rfl ?_
            exact J146 _ hk9 _ hk94 _ ih _ _ _ _ _ _ _ hM
          · have hM := if_f hM c14
            refine ws_aload_n cx dX10_layGroups_136 rfl (j := 0) rfl ?_
            refine ws_iload cx dX10_layGroups_137 (j := 7) rfl ?_
            refine ws_iload_n cx dX10_layGroups_139 rfl (j := 3) rfl ?_
            obtain ⟨_, h17, hM⟩ := bnd hM
            obtain ⟨q15, h16, hM⟩ := bnd hM
            refine ws_callV cx (rest := []) (st' := [.int q15.1]) (kX10_isTogether l D b h16) mvX10_isTogether (ck_k h17) (by decide) (q := (RX10, TX10, 31)) rfl seX10_isTogether lkX10_132 rfl ⟨by decide, by decide⟩ (Nat.le_of_ble_eq_true rfl) ⟨rfl, rfl⟩ (Or.inl ⟨rfl, rfl⟩) rfl rfl dX10_layGroups_140 ?_
            refine ws_if_eq cx dX10_layGroups_143 (tgt := 150) (by decide) (fun c18 => ?_) (fun c18 => ?_)
            · have hM := if_t hM c18
              refine ws_sub [0, 1, 2, 3, 4, 5, 7] (lv' := [(0, .ref (b + o)), (1, .int x1), (2, .int x2), (3, .int x3), (4, .int x4), (5, .int x5), (7, .int x7)]) rfl ?_
              exact J150 _ hk9 _ hk94 _ ih _ _ _ _ _ _ _ hM
            · have hM := if_f hM c18
              refine ws_sub [0, 1, 2, 3, 4, 5, 7] (lv' := [(0, .ref (b + o)), (1, .int x1), (2, .int x2), (3, .int x3), (4, .int x4), (5, .int x5), (7, .int x7)]) rfl ?_
              exact J146 _ hk9 _ hk94 _ ih _ _ _ _ _ _ _ hM
  have J206 : ∀ (k9 : (ME × Int32 × Int32 → Option (Unit × ME))), (∀ (me : ME) (x1 : Int32) (x2 : Int32), k9 (me, x1, x2) = some q → WS X b 8 S me 9 [(0, .ref (b + o)), (1, .int x1), (2, .int x2)] []) → ∀ (me : ME) (x1 : Int32) (x2 : Int32) (x3 : Int32) (x4 : Int32), mX10_layGroups_j206 S o k9 me x1 x2 x3 x4 = some q → WS X b 8 S me 206 [(0, .ref (b + o)), (1, .int x1), (2, .int x2), (3, .int x3), (4, .int x4)] [] := by
    intro k9 hk9 me x1 x2 x3 x4 hM
    unfold mX10_layGroups_j206 at hM
    refine ws_aload_n cx dX10_layGroups_206 rfl (j := 0) rfl ?_
    obtain ⟨v19, h20, hM⟩ := bnd hM
    refine ws_getR cx ffX10_41 h20 dX10_layGroups_207 ?_
    refine ws_iload cx dX10_layGroups_210 (j := 4) rfl ?_
    refine ws_dup2 cx dX10_layGroups_212 rfl rfl ?_
    obtain ⟨v21, h22, hM⟩ := bnd hM
    refine ws_iald cx h22 dX10_layGroups_213 ?_
    refine ws_iconst cx dX10_layGroups_214 (v := 1) (by decide) ?_
    refine ws_iload_n cx dX10_layGroups_215 rfl (j := 3) rfl ?_
    refine ws_ishl cx dX10_layGroups_216 ?_
    refine ws_ior cx dX10_layGroups_217 ?_
    obtain ⟨m24, h23, hM⟩ := bnd hM
    refine ws_iast cx h23 dX10_layGroups_218 ?_
    refine ws_iinc cx dX10_layGroups_219 (j := 2) rfl (v := x2 + (1 : Int32)) rfl (by decide) (lv' := [(2, .int (x2 + (1 : Int32))), (0, .ref (b + o)), (1, .int x1), (3, .int x3), (4, .int x4)]) rfl ?_
    refine ws_goto cx dX10_layGroups_222 (tgt := 9) (by decide) ?_
    refine ws_sub [1, 2, 0] (lv' := [(0, .ref (b + o)), (1, .int x1), (2, .int (x2 + (1 : Int32)))]) rfl ?_
    exact hk9 _ _ _ hM
  have J179 : ∀ (k9 : (ME × Int32 × Int32 → Option (Unit × ME))), (∀ (me : ME) (x1 : Int32) (x2 : Int32), k9 (me, x1, x2) = some q → WS X b 8 S me 9 [(0, .ref (b + o)), (1, .int x1), (2, .int x2)] []) → ∀ (me : ME) (x1 : Int32) (x2 : Int32) (x3 : Int32) (x4 : Int32), mX10_layGroups_j179 S o k9 me x1 x2 x3 x4 = some q → WS X b 8 S me 179 [(0, .ref (b + o)), (1, .int x1), (2, .int x2), (3, .int x3), (4, .int x4)] [] := by
    intro k9 hk9 me x1 x2 x3 x4 hM
    unfold mX10_layGroups_j179 at hM
    refine ws_iload cx dX10_layGroups_179 (j := 4) rfl ?_
    refine ws_aload_n cx dX10_layGroups_181 rfl (j := 0) rfl ?_
    obtain ⟨v25, h26, hM⟩ := bnd hM
    refine ws_getI cx ffX10_122 h26 dX10_layGroups_182 ?_
    refine ws_icmp_ne cx dX10_layGroups_185 (tgt := 206) (by decide) (fun c27 => ?_) (fun c27 => ?_)
    · have hM := if_f hM c27
      refine ws_sub [0, 1, 2, 3, 4] (lv' := [(0, .ref (b + o)), (1, .int x1), (2, .int x2), (3, .int x3), (4, .int x4)]) rfl ?_
      exact J206 _ hk9 _ _ _ _ _ hM
    · have hM := if_t hM c27
      refine ws_aload_n cx dX10_layGroups_188 rfl (j := 0) rfl ?_
      obtain ⟨v28, h29, hM⟩ := bnd hM
      refine ws_getR cx ffX10_41 h29 dX10_layGroups_189 ?_
      refine ws_iload cx dX10_layGroups_192 (j := 4) rfl ?_
      refine ws_iconst cx dX10_layGroups_194 (v := 0) (by decide) ?_
      obtain ⟨m31, h30, hM⟩ := bnd hM
      refine ws_iast cx h30 dX10_layGroups_195 ?_
      refine ws_aload_n cx dX10_layGroups_196 rfl (j := 0) rfl ?_
      refine ws_dup cx dX10_layGroups_197 rfl ?_
      obtain ⟨v32, h33, hM⟩ := bnd hM
      refine ws_getI cx ffX10_122 h33 dX10_layGroups_198 ?_
      refine ws_iconst cx dX10_layGroups_201 (v := 1) (by decide) ?_
      refine ws_iadd cx dX10_layGroups_202 ?_
      obtain ⟨m35, h34, hM⟩ := bnd hM
      refine ws_putI cx ffX10_122 h34 dX10_layGroups_203 ?_
      refine ws_sub [0, 1, 2, 3, 4] (lv' := [(0, .ref (b + o)), (1, .int x1), (2, .int x2), (3, .int x3), (4, .int x4)]) rfl ?_
      exact J206 _ hk9 _ _ _ _ _ hM
  have L94 : ∀ (k9 : (ME × Int32 × Int32 → Option (Unit × ME))), (∀ (me : ME) (x1 : Int32) (x2 : Int32), k9 (me, x1, x2) = some q → WS X b 8 S me 9 [(0, .ref (b + o)), (1, .int x1), (2, .int x2)] []) → ∀ (n : Nat) (me : ME) (x1 : Int32) (x2 : Int32) (x3 : Int32) (x4 : Int32) (x5 : Int32), lpn (mX10_layGroups_L94 S o k9) n (me, x1, x2, x3, x4, x5) = some q → WS X b 8 S me 94 [(0, .ref (b + o)), (1, .int x1), (2, .int x2), (3, .int x3), (4, .int x4), (5, .int x5)] [] := by
    intro k9 hk9 n
    induction n with
    | zero => intro me x1 x2 x3 x4 x5 hM; exact absurd hM (by intro h; cases h)
    | succ n ih =>
      intro me x1 x2 x3 x4 x5 hM
      have hM : mX10_layGroups_L94 S o k9 (lpn (mX10_layGroups_L94 S o k9) n) (me, x1, x2, x3, x4, x5) = some q := hM
      unfold mX10_layGroups_L94 at hM
      refine ws_iload cx dX10_layGroups_94 (j := 5) rfl ?_
      refine ws_if_lt cx dX10_layGroups_96 (tgt := 179) (by decide) (fun c36 => ?_) (fun c36 => ?_)
      · have hM := if_t hM c36
        refine ws_sub [0, 1, 2, 3, 4] (lv' := [(0, .ref (b + o)), (1, .int x1), (2, .int x2), (3, .int x3), (4, .int x4)]) rfl ?_
        exact J179 _ hk9 _ _ _ _ _ hM
      · have hM := if_f hM c36
        refine ws_iconst cx dX10_layGroups_99 (v := 1) (by decide) ?_
        refine ws_istore cx dX10_layGroups_100 (by decide) (lv' := [(6, .int (1 : Int32)), (0, .ref (b + o)), (1, .int x1), (2, .int x2), (3, .int x3), (4, .int x4), (5, .int x5)]) rfl ?_
        refine ws_iconst cx dX10_layGroups_102 (v := 0) (by decide) ?_
        refine ws_istore cx dX10_layGroups_103 (by decide) (lv' := [(7, .int (0 : Int32)), (6, .int (1 : Int32)), (0, .ref (b + o)), (1, .int x1), (2, .int x2), (3, .int x3), (4, .int x4), (5, .int x5)]) rfl ?_
        refine ws_sub [2, 3, 4, 5, 6, 7, 1, 0] (lv' := [(0, .ref (b + o)), (1, .int x1), (2, .int x2), (3, .int x3), (4, .int x4), (5, .int x5), (6, .int (1 : Int32)), (7, .int (0 : Int32))]) rfl ?_
        exact L105 _ hk9 _ ih _ _ _ _ _ _ _ _ _ hM
  have J74 : ∀ (k9 : (ME × Int32 × Int32 → Option (Unit × ME))), (∀ (me : ME) (x1 : Int32) (x2 : Int32), k9 (me, x1, x2) = some q → WS X b 8 S me 9 [(0, .ref (b + o)), (1, .int x1), (2, .int x2)] []) → ∀ (me : ME) (x1 : Int32) (x2 : Int32) (x3 : Int32), mX10_layGroups_j74 S o k9 me x1 x2 x3 = some q → WS X b 8 S me 74 [(0, .ref (b + o)), (1, .int x1), (2, .int x2), (3, .int x3)] [] := by
    intro k9 hk9 me x1 x2 x3 hM
    unfold mX10_layGroups_j74 at hM
    refine ws_iload_n cx dX10_layGroups_74 rfl (j := 1) rfl ?_
    refine ws_iconst cx dX10_layGroups_75 (v := 1) (by decide) ?_
    refine ws_iload_n cx dX10_layGroups_76 rfl (j := 3) rfl ?_
    refine ws_ishl cx dX10_layGroups_77 ?_
    refine ws_ior cx dX10_layGroups_78 ?_
    refine ws_istore_n cx dX10_layGroups_79 rfl (by decide) (lv' := [(1, .int (x1 ||| ((1 : Int32) <<< (x3 &&& 31)))), (0, .ref (b + o)), (2, .int x2), (3, .int x3)]) rfl ?_
    refine ws_aload_n cx dX10_layGroups_80 rfl (j := 1) rfl ?_
    obtain ⟨v37, h38, hM⟩ := bnd hM
    refine ws_getI cx ffX10_122 h38 dX10_layGroups_81 ?_
    refine ws_istore cx dX10_layGroups_84 (by decide) (lv' := [(4, .int v37), (1, .int (x1 ||| ((1 : Int32) <<< (x3 &&& 31)))), (0, .ref (b + o)), (2, .int x2), (3, .int x3)]) rfl ?_
    refine ws_aload_n cx dX10_layGroups_86 rfl (j := 2) rfl ?_
    obtain ⟨v39, h40, hM⟩ := bnd hM
    refine ws_getI cx ffX10_122 h40 dX10_layGroups_87 ?_
    refine ws_iconst cx dX10_layGroups_90 (v := 1) (by decide) ?_
    refine ws_isub cx dX10_layGroups_91 ?_
    refine ws_istore cx dX10_layGroups_92 (by decide) (lv' := [(5, .int (v39 - (1 : Int32))), (4, .int v37), (1, .int (x1 ||| ((1 : Int32) <<< (x3 &&& 31)))), (0, .ref (b + o)), (2, .int x2), (3, .int x3)]) rfl ?_
    refine ws_sub [3, 2, 4, 5, 1, 0] (lv' := [(0, .ref (b + o)), (1, .int (x1 ||| ((1 : Int32) <<< (x3 &&& 31)))), (2, .int x2), (3, .int x3), (4, .int v37), (5, .int (v39 - (1 : Int32)))]) rfl ?_
    exact L94 _ hk9 _ _ _ _ _ _ _ hM
  have L25 : ∀ (k9 : (ME × Int32 × Int32 → Option (Unit × ME))), (∀ (me : ME) (x1 : Int32) (x2 : Int32), k9 (me, x1, x2) = some q → WS X b 8 S me 9 [(0, .ref (b + o)), (1, .int x1), (2, .int x2)] []) → ∀ (n : Nat) (me : ME) (x1 : Int32) (x2 : Int32) (x3 : Int32) (x4 : Int32), lpn (mX10_layGroups_L25 S o k9) n (me, x1, x2, x3, x4) = some q → WS X b 8 S me 25 [(0, .ref (b + o)), (1, .int x1), (2, .int x2), (3, .int x3), (4, .int x4)] [] := by
    intro k9 hk9 n
    induction n with
    | zero => intro me x1 x2 x3 x4 hM; exact absurd hM (by intro h; cases h)
    | succ n ih =>
      intro me x1 x2 x3 x4 hM
      have hM : mX10_layGroups_L25 S o k9 (lpn (mX10_layGroups_L25 S o k9) n) (me, x1, x2, x3, x4) = some q := hM
      unfold mX10_layGroups_L25 at hM
      refine ws_iload cx dX10_layGroups_25 (j := 4) rfl ?_
      refine ws_aload_n cx dX10_layGroups_27 rfl (j := 0) rfl ?_
      obtain ⟨v41, h42, hM⟩ := bnd hM
      refine ws_getR cx ffX10_16 h42 dX10_layGroups_28 ?_
      refine ws_iconst cx dX10_layGroups_31 (v := 0) (by decide) ?_
      obtain ⟨v43, h44, hM⟩ := bnd hM
      refine ws_iald cx h44 dX10_layGroups_32 ?_
      refine ws_icmp_ge cx dX10_layGroups_33 (tgt := 74) (by decide) (fun c45 => ?_) (fun c45 => ?_)
      · have hM := if_t hM c45
        refine ws_sub [0, 1, 2, 3] (lv' := [(0, .ref (b + o)), (1, .int x1), (2, .int x2), (3, .int x3)]) rfl ?_
        exact J74 _ hk9 _ _ _ _ hM
      · have hM := if_f hM c45
        refine ws_iload_n cx dX10_layGroups_36 rfl (j := 1) rfl ?_
        refine ws_iload cx dX10_layGroups_37 (j := 4) rfl ?_
        obtain ⟨q46, h47, hM⟩ := bnd hM
        refine ws_callS cx (rest := []) (st' := [.int q46.1]) (kX10_has l D b h47) mvX10_has lkX10_125 rfl ⟨by decide, by decide⟩ (Nat.le_of_ble_eq_true rfl) ⟨rfl, rfl⟩ (Or.inl ⟨rfl, rfl⟩) rfl rfl dX10_layGroups_39 ?_
        refine ws_if_ne cx dX10_layGroups_42 (tgt := 66) (by decide) (fun c48 => ?_) (fun c48 => ?_)
        · have hM := if_f hM c48
          refine ws_sub [0, 1, 2, 3, 4] (lv' := [(0, .ref (b + o)), (1, .int x1), (2, .int x2), (3, .int x3), (4, .int x4)]) rfl ?_
          exact J66 _ hk9 _ ih _ _ _ _ _ hM
        · have hM := if_t hM c48
          refine ws_iload_n cx dX10_layGroups_45 rfl (j := 3) rfl ?_
          refine ws_bipush cx dX10_layGroups_46 (v := -9) (by decide) ?_
          refine ws_icmp_eq cx dX10_layGroups_48 (tgt := 61) (by decide) (fun c49 => ?_) (fun c49 => ?_)
          · have hM := if_t hM c49
            refine ws_sub [0, 1, 2, 4] (lv' := [(0, .ref (b + o)), (1, .int x1), (2, .int x2), (4, .int x4)]) rfl ?_
            exact J61 _ hk9 _ ih _ _ _ _ hM
          · have hM := if_f hM c49
            refine ws_aload_n cx dX10_layGroups_51 rfl (j := 0) rfl ?_
            refine ws_iload cx dX10_layGroups_52 (j := 4) rfl ?_
            refine ws_iload_n cx dX10_layGroups_54 rfl (j := 3) rfl ?_
            obtain ⟨_, h52, hM⟩ := bnd hM
            obtain ⟨q50, h51, hM⟩ := bnd hM
            refine ws_callV cx (rest := []) (st' := [.int q50.1]) (kX10_isAhead l D b h51) mvX10_isAhead (ck_k h52) (by decide) (q := (RX10, TX10, 31)) rfl seX10_isAhead lkX10_129 rfl ⟨by decide, by decide⟩ (Nat.le_of_ble_eq_true rfl) ⟨rfl, rfl⟩ (Or.inl ⟨rfl, rfl⟩) rfl rfl dX10_layGroups_55 ?_
            refine ws_if_eq cx dX10_layGroups_58 (tgt := 66) (by decide) (fun c53 => ?_) (fun c53 => ?_)
            · have hM := if_t hM c53
              refine ws_sub [0, 1, 2, 3, 4] (lv' := [(0, .ref (b + o)), (1, .int x1), (2, .int x2), (3, .int x3), (4, .int x4)]) rfl ?_
              exact J66 _ hk9 _ ih _ _ _ _ _ hM
            · have hM := if_f hM c53
              refine ws_sub [0, 1, 2, 4] (lv' := [(0, .ref (b + o)), (1, .int x1), (2, .int x2), (4, .int x4)]) rfl ?_
              exact J61 _ hk9 _ ih _ _ _ _ hM
  have J225 : ∀ (me : ME), mX10_layGroups_j225 S o me = some q → WS X b 8 S me 225 [] [] := by
    intro  me hM
    unfold mX10_layGroups_j225 at hM
    exact ws_vretM cx ex hM dX10_layGroups_225
  have L9 : ∀ (n : Nat) (me : ME) (x1 : Int32) (x2 : Int32), lpn (mX10_layGroups_L9 S o) n (me, x1, x2) = some q → WS X b 8 S me 9 [(0, .ref (b + o)), (1, .int x1), (2, .int x2)] [] := by
    intro  n
    induction n with
    | zero => intro me x1 x2 hM; exact absurd hM (by intro h; cases h)
    | succ n ih =>
      intro me x1 x2 hM
      have hM : mX10_layGroups_L9 S o (lpn (mX10_layGroups_L9 S o) n) (me, x1, x2) = some q := hM
      unfold mX10_layGroups_L9 at hM
      refine ws_iload_n cx dX10_layGroups_9 rfl (j := 2) rfl ?_
      refine ws_aload_n cx dX10_layGroups_10 rfl (j := 0) rfl ?_
      obtain ⟨v54, h55, hM⟩ := bnd hM
      refine ws_getR cx ffX10_16 h55 dX10_layGroups_11 ?_
      refine ws_iconst cx dX10_layGroups_14 (v := 0) (by decide) ?_
      obtain ⟨v56, h57, hM⟩ := bnd hM
      refine ws_iald cx h57 dX10_layGroups_15 ?_
      refine ws_icmp_ge cx dX10_layGroups_16 (tgt := 225) (by decide) (fun c58 => ?_) (fun c58 => ?_)
      · have hM := if_t hM c58
        refine ws_sub [] (lv' := []) rfl ?_
        exact J225 _ hM
      · have hM := if_f hM c58
        refine ws_bipush cx dX10_layGroups_19 (v := -9) (by decide) ?_
        refine ws_istore_n cx dX10_layGroups_21 rfl (by decide) (lv' := [(3, .int (-9 : Int32)), (0, .ref (b + o)), (1, .int x1), (2, .int x2)]) rfl ?_
        refine ws_iconst cx dX10_layGroups_22 (v := 0) (by decide) ?_
        refine ws_istore cx dX10_layGroups_23 (by decide) (lv' := [(4, .int (0 : Int32)), (3, .int (-9 : Int32)), (0, .ref (b + o)), (1, .int x1), (2, .int x2)]) rfl ?_
        refine ws_sub [2, 3, 4, 1, 0] (lv' := [(0, .ref (b + o)), (1, .int x1), (2, .int x2), (3, .int (-9 : Int32)), (4, .int (0 : Int32))]) rfl ?_
        exact L25 _ ih _ _ _ _ _ _ hM
  unfold mX10_layGroups at hM
  refine ws_aload_n cx dX10_layGroups_0 rfl (j := 0) rfl ?_
  refine ws_iconst cx dX10_layGroups_1 (v := 0) (by decide) ?_
  obtain ⟨m60, h59, hM⟩ := bnd hM
  refine ws_putI cx ffX10_122 h59 dX10_layGroups_2 ?_
  refine ws_iconst cx dX10_layGroups_5 (v := 0) (by decide) ?_
  refine ws_istore_n cx dX10_layGroups_6 rfl (by decide) (lv' := [(1, .int (0 : Int32)), (0, .ref (b + o))]) rfl ?_
  refine ws_iconst cx dX10_layGroups_7 (v := 0) (by decide) ?_
  refine ws_istore_n cx dX10_layGroups_8 rfl (by decide) (lv' := [(2, .int (0 : Int32)), (1, .int (0 : Int32)), (0, .ref (b + o))]) rfl ?_
  refine ws_sub [2, 1, 0] (lv' := [(0, .ref (b + o)), (1, .int (0 : Int32)), (2, .int (0 : Int32))]) rfl ?_
  exact L9 _ _ _ _ hM

def mX10_groupOf_j25 (S : SH) (o : Nat) (a0 : Int32) (me : ME) (x2 : Int32) : Option (Int32 × ME) :=
  some (x2, me)
def mX10_groupOf_L6 (S : SH) (o : Nat) (a0 : Int32) (k6 : (ME × Int32 → Option (Int32 × ME))) : ME × Int32 → Option (Int32 × ME)
  | (me, x2) =>
    (gR S 10 21 o).bind fun v1 =>
    (aI S me 11 v1 x2).bind fun v3 =>
    (mX10_has S me v3 a0).bind fun q5 =>
    if q5.1 = 0 then
      k6 (q5.2, x2 + (1 : Int32))
    else
      mX10_groupOf_j25 S o a0 q5.2 x2
def mX10_groupOf (S : SH) (me : ME) (o : Nat) (a0 : Int32) : Option (Int32 × ME) :=
  (ck S 10 o).bind fun _ => (mX10_layGroups S me o).bind fun q8 =>
  lpn (mX10_groupOf_L6 S o a0) lpF (q8.2, (0 : Int32))
set_option maxRecDepth 100000 in
set_option maxHeartbeats 4000000 in
theorem kX10_groupOf (l : Launch) (D : va_G) (b : Nat) {S : SH} {me : ME} {o : Nat} {a0 : Int32} {q : Int32 × ME} (hM : mX10_groupOf S me o a0 = some q) : Ct l D b yX10_groupOf cX10_groupOf 3 (some .int) 3 72 0 0 [.ref (b + o), .int a0] S me S q.2 (some (.int q.1)) := by
  refine ct_of (own := RX10) (nm := "groupOf") (lv := [(0, .ref (b + o)), (1, .int a0)]) (plainFor_of_name (by decide)) rfl rfl (Nat.le_of_ble_eq_true rfl) rfl ⟨rfl, rfl⟩ (fun X cx ex hL => ?_)
  have J25 : ∀ (me : ME) (x2 : Int32), mX10_groupOf_j25 S o a0 me x2 = some q → WS X b 3 S me 25 [(2, .int x2)] [] := by
    intro  me x2 hM
    unfold mX10_groupOf_j25 at hM
    refine ws_iload_n cx dX10_groupOf_25 rfl (j := 0) rfl ?_
    exact ws_iretM cx ex hM dX10_groupOf_26
  have L6 : ∀ (n : Nat) (me : ME) (x2 : Int32), lpn (mX10_groupOf_L6 S o a0) n (me, x2) = some q → WS X b 3 S me 6 [(0, .ref (b + o)), (1, .int a0), (2, .int x2)] [] := by
    intro  n
    induction n with
    | zero => intro me x2 hM; exact absurd hM (by intro h; cases h)
    | succ n ih =>
      intro me x2 hM
      have hM : mX10_groupOf_L6 S o a0 (lpn (mX10_groupOf_L6 S o a0) n) (me, x2) = some q := hM
      unfold mX10_groupOf_L6 at hM
      refine ws_aload_n cx dX10_groupOf_6 rfl (j := 0) rfl ?_
      obtain ⟨v1, h2, hM⟩ := bnd hM
      refine ws_getR cx ffX10_41 h2 dX10_groupOf_7 ?_
      refine ws_iload_n cx dX10_groupOf_10 rfl (j := 2) rfl ?_
      obtain ⟨v3, h4, hM⟩ := bnd hM
      refine ws_iald cx h4 dX10_groupOf_11 ?_
      refine ws_iload_n cx dX10_groupOf_12 rfl (j := 1) rfl ?_
      obtain ⟨q5, h6, hM⟩ := bnd hM
      refine ws_callS cx (rest := []) (st' := [.int q5.1]) (kX10_has l D b h6) mvX10_has lkX10_125 rfl ⟨by decide, by decide⟩ (Nat.le_of_ble_eq_true rfl) ⟨rfl, rfl⟩ (Or.inl ⟨rfl, rfl⟩) rfl rfl dX10_groupOf_13 ?_
      refine ws_if_ne cx dX10_groupOf_16 (tgt := 25) (by decide) (fun c7 => ?_) (fun c7 => ?_)
      · have hM := if_f hM c7
        refine ws_sub [2] (lv' := [(2, .int x2)]) rfl ?_
        exact J25 _ _ hM
      · have hM := if_t hM c7
        refine ws_iinc cx dX10_groupOf_19 (j := 2) rfl (v := x2 + (1 : Int32)) rfl (by decide) (lv' := [(2, .int (x2 + (1 : Int32))), (0, .ref (b + o)), (1, .int a0)]) rfl ?_
        refine ws_goto cx dX10_groupOf_22 (tgt := 6) (by decide) ?_
        refine ws_sub [1, 2, 0] (lv' := [(0, .ref (b + o)), (1, .int a0), (2, .int (x2 + (1 : Int32)))]) rfl ?_
        exact ih _ _ hM
  unfold mX10_groupOf at hM
  refine ws_aload_n cx dX10_groupOf_0 rfl (j := 0) rfl ?_
  obtain ⟨_, h10, hM⟩ := bnd hM
  obtain ⟨q8, h9, hM⟩ := bnd hM
  refine ws_callV cx (rest := []) (st' := []) (kX10_layGroups l D b h9) mvX10_layGroups (ck_k h10) (by decide) (q := (RX10, TX10, 31)) rfl seX10_layGroups lkX10_135 rfl ⟨by decide, by decide⟩ (Nat.le_of_ble_eq_true rfl) ⟨rfl, rfl⟩ (Or.inl ⟨rfl, rfl⟩) rfl rfl dX10_groupOf_1 ?_
  refine ws_iconst cx dX10_groupOf_4 (v := 0) (by decide) ?_
  refine ws_istore_n cx dX10_groupOf_5 rfl (by decide) (lv' := [(2, .int (0 : Int32)), (0, .ref (b + o)), (1, .int a0)]) rfl ?_
  refine ws_sub [1, 2, 0] (lv' := [(0, .ref (b + o)), (1, .int a0), (2, .int (0 : Int32))]) rfl ?_
  exact L6 _ _ _ hM

def mX10_reading_j17 (S : SH) (o : Nat) (a0 : Int32) (a1 : Int32) (me : ME) : Option (Int32 × ME) :=
  some ((-1000000000 : Int32), me)
def mX10_reading_j71 (S : SH) (o : Nat) (a0 : Int32) (a1 : Int32) (me : ME) (y0 : Int32) : Option (Int32 × ME) :=
  some (y0, me)
def mX10_reading (S : SH) (me : ME) (o : Nat) (a0 : Int32) (a1 : Int32) : Option (Int32 × ME) :=
  (ck S 10 o).bind fun _ => (mX10_isReading S me o a0).bind fun q1 =>
  if q1.1 = 0 then
    mX10_reading_j17 S o a0 a1 q1.2
  else
    (mX10_in S q1.2 a1 (0 : Int32) (3 : Int32)).bind fun q5 =>
    if q5.1 = 0 then
      mX10_reading_j17 S o a0 a1 q5.2
    else
      if a1 = 0 then
        (gR S 10 3 o).bind fun v21 =>
        (aI S q5.2 11 v21 ((7 : Int32) + a0)).bind fun v23 =>
        mX10_reading_j71 S o a0 a1 q5.2 v23
      else
        if a1 = (1 : Int32) then
          (gR S 10 3 o).bind fun v17 =>
          (aI S q5.2 11 v17 ((16 : Int32) + a0)).bind fun v19 =>
          mX10_reading_j71 S o a0 a1 q5.2 v19
        else
          if a1 = (2 : Int32) then
            (ck S 10 o).bind fun _ => (mX10_timeOf S q5.2 o a0).bind fun q14 =>
            mX10_reading_j71 S o a0 a1 q14.2 q14.1
          else
            (ck S 10 o).bind fun _ => (mX10_groupOf S q5.2 o a0).bind fun q11 =>
            mX10_reading_j71 S o a0 a1 q11.2 q11.1
set_option maxRecDepth 100000 in
set_option maxHeartbeats 4000000 in
theorem kX10_reading (l : Launch) (D : va_G) (b : Nat) {S : SH} {me : ME} {o : Nat} {a0 : Int32} {a1 : Int32} {q : Int32 × ME} (hM : mX10_reading S me o a0 a1 = some q) : Ct l D b yX10_reading cX10_reading 3 (some .int) 4 94 0 0 [.ref (b + o), .int a0, .int a1] S me S q.2 (some (.int q.1)) := by
  refine ct_of (own := RX10) (nm := "reading") (lv := [(0, .ref (b + o)), (1, .int a0), (2, .int a1)]) (plainFor_of_name (by decide)) rfl rfl (Nat.le_of_ble_eq_true rfl) rfl ⟨rfl, rfl⟩ (fun X cx ex hL => ?_)
  have J17 : ∀ (me : ME), mX10_reading_j17 S o a0 a1 me = some q → WS X b 3 S me 17 [] [] := by
    intro  me hM
    unfold mX10_reading_j17 at hM
    refine ws_ldc cx cwX10_144 dX10_reading_17 ?_
    exact ws_iretM cx ex hM dX10_reading_19
  have J71 : ∀ (me : ME) (y0 : Int32), mX10_reading_j71 S o a0 a1 me y0 = some q → WS X b 3 S me 71 [] [.int y0] := by
    intro  me y0 hM
    unfold mX10_reading_j71 at hM
    exact ws_iretM cx ex hM dX10_reading_71
  unfold mX10_reading at hM
  refine ws_aload_n cx dX10_reading_0 rfl (j := 0) rfl ?_
  refine ws_iload_n cx dX10_reading_1 rfl (j := 1) rfl ?_
  obtain ⟨_, h3, hM⟩ := bnd hM
  obtain ⟨q1, h2, hM⟩ := bnd hM
  refine ws_callV cx (rest := []) (st' := [.int q1.1]) (kX10_isReading l D b h2) mvX10_isReading (ck_k h3) (by decide) (q := (RX10, TX10, 31)) rfl seX10_isReading lkX10_141 rfl ⟨by decide, by decide⟩ (Nat.le_of_ble_eq_true rfl) ⟨rfl, rfl⟩ (Or.inl ⟨rfl, rfl⟩) rfl rfl dX10_reading_2 ?_
  refine ws_if_eq cx dX10_reading_5 (tgt := 17) (by decide) (fun c4 => ?_) (fun c4 => ?_)
  · have hM := if_t hM c4
    refine ws_sub [] (lv' := []) rfl ?_
    exact J17 _ hM
  · have hM := if_f hM c4
    refine ws_iload_n cx dX10_reading_8 rfl (j := 2) rfl ?_
    refine ws_iconst cx dX10_reading_9 (v := 0) (by decide) ?_
    refine ws_iconst cx dX10_reading_10 (v := 3) (by decide) ?_
    obtain ⟨q5, h6, hM⟩ := bnd hM
    refine ws_callS cx (rest := []) (st' := [.int q5.1]) (kX10_in l D b h6) mvX10_in lkX10_48 rfl ⟨by decide, by decide⟩ (Nat.le_of_ble_eq_true rfl) ⟨rfl, rfl⟩ (Or.inl ⟨rfl, rfl⟩) rfl rfl dX10_reading_11 ?_
    refine ws_if_ne cx dX10_reading_14 (tgt := 20) (by decide) (fun c7 => ?_) (fun c7 => ?_)
    · have hM := if_f hM c7
      refine ws_iload_n cx dX10_reading_20 rfl (j := 2) rfl ?_
      refine ws_if_ne cx dX10_reading_21 (tgt := 36) (by decide) (fun c8 => ?_) (fun c8 => ?_)
      · have hM := if_f hM c8
        refine ws_iload_n cx dX10_reading_36 rfl (j := 2) rfl ?_
        refine ws_iconst cx dX10_reading_37 (v := 1) (by decide) ?_
        refine ws_icmp_ne cx dX10_reading_38 (tgt := 53) (by decide) (fun c9 => ?_) (fun c9 => ?_)
        · have hM := if_f hM c9
          refine ws_iload_n cx dX10_reading_53 rfl (j := 2) rfl ?_
          refine ws_iconst cx dX10_reading_54 (v := 2) (by decide) ?_
          refine ws_icmp_ne cx dX10_reading_55 (tgt := 66) (by decide) (fun c10 => ?_) (fun c10 => ?_)
          · have hM := if_f hM c10
            refine ws_aload_n cx dX10_reading_66 rfl (j := 0) rfl ?_
            refine ws_iload_n cx dX10_reading_67 rfl (j := 1) rfl ?_
            obtain ⟨_, h13, hM⟩ := bnd hM
            obtain ⟨q11, h12, hM⟩ := bnd hM
            refine ws_callV cx (rest := []) (st' := [.int q11.1]) (kX10_groupOf l D b h12) mvX10_groupOf (ck_k h13) (by decide) (q := (RX10, TX10, 31)) rfl seX10_groupOf lkX10_145 rfl ⟨by decide, by decide⟩ (Nat.le_of_ble_eq_true rfl) ⟨rfl, rfl⟩ (Or.inl ⟨rfl, rfl⟩) rfl rfl dX10_reading_68 ?_
            refine ws_sub [] (lv' := []) rfl ?_
            exact J71 _ _ hM
          · have hM := if_t hM c10
            refine ws_aload_n cx dX10_reading_58 rfl (j := 0) rfl ?_
            refine ws_iload_n cx dX10_reading_59 rfl (j := 1) rfl ?_
            obtain ⟨_, h16, hM⟩ := bnd hM
            obtain ⟨q14, h15, hM⟩ := bnd hM
            refine ws_callV cx (rest := []) (st' := [.int q14.1]) (kX10_timeOf l D b h15) mvX10_timeOf (ck_k h16) (by decide) (q := (RX10, TX10, 31)) rfl seX10_timeOf lkX10_110 rfl ⟨by decide, by decide⟩ (Nat.le_of_ble_eq_true rfl) ⟨rfl, rfl⟩ (Or.inl ⟨rfl, rfl⟩) rfl rfl dX10_reading_60 ?_
            refine ws_goto cx dX10_reading_63 (tgt := 71) (by decide) ?_
            refine ws_sub [] (lv' := []) rfl ?_
            exact J71 _ _ hM
        · have hM := if_t hM c9
          refine ws_aload_n cx dX10_reading_41 rfl (j := 0) rfl ?_
          obtain ⟨v17, h18, hM⟩ := bnd hM
          refine ws_getR cx ffX10_16 h18 dX10_reading_42 ?_
          refine ws_bipush cx dX10_reading_45 (v := 16) (by decide) ?_
          refine ws_iload_n cx dX10_reading_47 rfl (j := 1) rfl ?_
          refine ws_iadd cx dX10_reading_48 ?_
          obtain ⟨v19, h20, hM⟩ := bnd hM
          refine ws_iald cx h20 dX10_reading_49 ?_
          refine ws_goto cx dX10_reading_50 (tgt := 71) (by decide) ?_
          refine ws_sub [] (lv' := []) rfl ?_
          exact J71 _ _ hM
      · have hM := if_t hM c8
        refine ws_aload_n cx dX10_reading_24 rfl (j := 0) rfl ?_
        obtain ⟨v21, h22, hM⟩ := bnd hM
        refine ws_getR cx ffX10_16 h22 dX10_reading_25 ?_
        refine ws_bipush cx dX10_reading_28 (v := 7) (by decide) ?_
        refine ws_iload_n cx dX10_reading_30 rfl (j := 1) rfl ?_
        refine ws_iadd cx dX10_reading_31 ?_
        obtain ⟨v23, h24, hM⟩ := bnd hM
        refine ws_iald cx h24 dX10_reading_32 ?_
        refine ws_goto cx dX10_reading_33 (tgt := 71) (by decide) ?_
        refine ws_sub [] (lv' := []) rfl ?_
        exact J71 _ _ hM
    · have hM := if_t hM c7
      refine ws_sub [] (lv' := []) rfl ?_
      exact J17 _ hM

def mX10_remember_j66 (S : SH) (o : Nat) (me : ME) (y0 : Nat) (y1 : Int32) (y2 : Int32) : Option (Unit × ME) :=
  (sI S me 10 4 y0 (y1 + y2)).bind fun m2 =>
  some ((), m2)
def mX10_remember_j34 (S : SH) (o : Nat) (me : ME) : Option (Unit × ME) :=
  (gI S me 10 5 o).bind fun v3 =>
  (sI S me 10 5 o ((v3 + (1 : Int32)) - (v3 + (1 : Int32)) / (10 : Int32) * (10 : Int32))).bind fun m6 =>
  (gI S m6 10 4 o).bind fun v7 =>
  (gI S m6 10 4 o).bind fun v9 =>
  if (10 : Int32) ≤ v9 then
    mX10_remember_j66 S o m6 o v7 (0 : Int32)
  else
    mX10_remember_j66 S o m6 o v7 (1 : Int32)
def mX10_remember_L2 (S : SH) (o : Nat) (k2 : (ME × Int32 → Option (Unit × ME))) : ME × Int32 → Option (Unit × ME)
  | (me, x1) =>
    if (25 : Int32) ≤ x1 then
      mX10_remember_j34 S o me
    else
      (gR S 10 6 o).bind fun v13 =>
      (gI S me 10 5 o).bind fun v15 =>
      (gR S 10 3 o).bind fun v17 =>
      (aI S me 11 v17 x1).bind fun v19 =>
      (uI S me v13 (((25 : Int32) * v15) + x1) v19).bind fun m22 =>
      k2 (m22, x1 + (1 : Int32))
def mX10_remember (S : SH) (me : ME) (o : Nat) : Option (Unit × ME) :=
  lpn (mX10_remember_L2 S o) lpF (me, (0 : Int32))
set_option maxRecDepth 100000 in
set_option maxHeartbeats 4000000 in
theorem kX10_remember (l : Launch) (D : va_G) (b : Nat) {S : SH} {me : ME} {o : Nat} {q : Unit × ME} (hM : mX10_remember S me o = some q) : Ct l D b yX10_remember cX10_remember 2 none 0 0 0 0 [.ref (b + o)] S me S q.2 none := by
  refine ct_of (own := RX10) (nm := "remember") (lv := [(0, .ref (b + o))]) (plainFor_of_name (by decide)) rfl rfl (Nat.le_of_ble_eq_true rfl) rfl ⟨rfl, rfl⟩ (fun X cx ex hL => ?_)
  have J66 : ∀ (me : ME) (y0 : Nat) (y1 : Int32) (y2 : Int32), mX10_remember_j66 S o me y0 y1 y2 = some q → WS X b 2 S me 66 [] [.int y2, .int y1, .ref (b + y0)] := by
    intro  me y0 y1 y2 hM
    unfold mX10_remember_j66 at hM
    refine ws_iadd cx dX10_remember_66 ?_
    obtain ⟨m2, h1, hM⟩ := bnd hM
    refine ws_putI cx ffX10_107 h1 dX10_remember_67 ?_
    exact ws_vretM cx ex hM dX10_remember_70
  have J34 : ∀ (me : ME), mX10_remember_j34 S o me = some q → WS X b 2 S me 34 [(0, .ref (b + o))] [] := by
    intro  me hM
    unfold mX10_remember_j34 at hM
    refine ws_aload_n cx dX10_remember_34 rfl (j := 0) rfl ?_
    refine ws_aload_n cx dX10_remember_35 rfl (j := 0) rfl ?_
    obtain ⟨v3, h4, hM⟩ := bnd hM
    refine ws_getI cx ffX10_148 h4 dX10_remember_36 ?_
    refine ws_iconst cx dX10_remember_39 (v := 1) (by decide) ?_
    refine ws_iadd cx dX10_remember_40 ?_
    refine ws_bipush cx dX10_remember_41 (v := 10) (by decide) ?_
    refine ws_irem cx (by decide) dX10_remember_43 ?_
    obtain ⟨m6, h5, hM⟩ := bnd hM
    refine ws_putI cx ffX10_148 h5 dX10_remember_44 ?_
    refine ws_aload_n cx dX10_remember_47 rfl (j := 0) rfl ?_
    refine ws_dup cx dX10_remember_48 rfl ?_
    obtain ⟨v7, h8, hM⟩ := bnd hM
    refine ws_getI cx ffX10_107 h8 dX10_remember_49 ?_
    refine ws_aload_n cx dX10_remember_52 rfl (j := 0) rfl ?_
    obtain ⟨v9, h10, hM⟩ := bnd hM
    refine ws_getI cx ffX10_107 h10 dX10_remember_53 ?_
    refine ws_bipush cx dX10_remember_56 (v := 10) (by decide) ?_
    refine ws_icmp_ge cx dX10_remember_58 (tgt := 65) (by decide) (fun c11 => ?_) (fun c11 => ?_)
    · have hM := if_t hM c11
      refine ws_iconst cx dX10_remember_65 (v := 0) (by decide) ?_
      refine ws_sub [] (lv' := []) rfl ?_
      exact J66 _ _ _ _ hM
    · have hM := if_f hM c11
      refine ws_iconst cx dX10_remember_61 (v := 1) (by decide) ?_
      refine ws_goto cx dX10_remember_62 (tgt := 66) (by decide) ?_
      refine ws_sub [] (lv' := []) rfl ?_
      exact J66 _ _ _ _ hM
  have L2 : ∀ (n : Nat) (me : ME) (x1 : Int32), lpn (mX10_remember_L2 S o) n (me, x1) = some q → WS X b 2 S me 2 [(0, .ref (b + o)), (1, .int x1)] [] := by
    intro  n
    induction n with
    | zero => intro me x1 hM; exact absurd hM (by intro h; cases h)
    | succ n ih =>
      intro me x1 hM
      have hM : mX10_remember_L2 S o (lpn (mX10_remember_L2 S o) n) (me, x1) = some q := hM
      unfold mX10_remember_L2 at hM
      refine ws_iload_n cx dX10_remember_2 rfl (j := 1) rfl ?_
      refine ws_bipush cx dX10_remember_3 (v := 25) (by decide) ?_
      refine ws_icmp_ge cx dX10_remember_5 (tgt := 34) (by decide) (fun c12 => ?_) (fun c12 => ?_)
      · have hM := if_t hM c12
        refine ws_sub [0] (lv' := [(0, .ref (b + o))]) rfl ?_
        exact J34 _ hM
      · have hM := if_f hM c12
        refine ws_aload_n cx dX10_remember_8 rfl (j := 0) rfl ?_
        obtain ⟨v13, h14, hM⟩ := bnd hM
        refine ws_getR cx ffX10_19 h14 dX10_remember_9 ?_
        refine ws_bipush cx dX10_remember_12 (v := 25) (by decide) ?_
        refine ws_aload_n cx dX10_remember_14 rfl (j := 0) rfl ?_
        obtain ⟨v15, h16, hM⟩ := bnd hM
        refine ws_getI cx ffX10_148 h16 dX10_remember_15 ?_
        refine ws_imul cx dX10_remember_18 ?_
        refine ws_iload_n cx dX10_remember_19 rfl (j := 1) rfl ?_
        refine ws_iadd cx dX10_remember_20 ?_
        refine ws_aload_n cx dX10_remember_21 rfl (j := 0) rfl ?_
        obtain ⟨v17, h18, hM⟩ := bnd hM
        refine ws_getR cx ffX10_16 h18 dX10_remember_22 ?_
        refine ws_iload_n cx dX10_remember_25 rfl (j := 1) rfl ?_
        obtain ⟨v19, h20, hM⟩ := bnd hM
        refine ws_iald cx h20 dX10_remember_26 ?_
        obtain ⟨m22, h21, hM⟩ := bnd hM
        refine ws_iast cx h21 dX10_remember_27 ?_
        refine ws_iinc cx dX10_remember_28 (j := 1) rfl (v := x1 + (1 : Int32)) rfl (by decide) (lv' := [(1, .int (x1 + (1 : Int32))), (0, .ref (b + o))]) rfl ?_
        refine ws_goto cx dX10_remember_31 (tgt := 2) (by decide) ?_
        refine ws_sub [1, 0] (lv' := [(0, .ref (b + o)), (1, .int (x1 + (1 : Int32)))]) rfl ?_
        exact ih _ _ hM
  unfold mX10_remember at hM
  refine ws_iconst cx dX10_remember_0 (v := 0) (by decide) ?_
  refine ws_istore_n cx dX10_remember_1 rfl (by decide) (lv' := [(1, .int (0 : Int32)), (0, .ref (b + o))]) rfl ?_
  refine ws_sub [1, 0] (lv' := [(0, .ref (b + o)), (1, .int (0 : Int32))]) rfl ?_
  exact L2 _ _ _ hM

def mX10_hears_j18 (S : SH) (o : Nat) (a0 : Int32) (a1 : Int32) (me : ME) : Option (Int32 × ME) :=
  some ((-1 : Int32), me)
def mX10_hears (S : SH) (me : ME) (o : Nat) (a0 : Int32) (a1 : Int32) : Option (Int32 × ME) :=
  (ck S 10 o).bind fun _ => (mX10_isStation S me o a0).bind fun q1 =>
  if q1.1 = 0 then
    mX10_hears_j18 S o a0 a1 q1.2
  else
    (mX10_in S q1.2 a1 (0 : Int32) (60 : Int32)).bind fun q5 =>
    if q5.1 = 0 then
      mX10_hears_j18 S o a0 a1 q5.2
    else
      (gR S 10 3 o).bind fun v8 =>
      (aI S q5.2 11 v8 (0 : Int32)).bind fun v10 =>
      if v10 = (9 : Int32) then
        some ((-3 : Int32), q5.2)
      else
        (ck S 10 o).bind fun _ => (mX10_remember S q5.2 o).bind fun q13 =>
        (gR S 10 3 o).bind fun v16 =>
        (uI S q13.2 v16 ((7 : Int32) + v10) a0).bind fun m19 =>
        (gR S 10 3 o).bind fun v20 =>
        (uI S m19 v20 ((16 : Int32) + v10) a1).bind fun m23 =>
        (gR S 10 3 o).bind fun v24 =>
        (aI S m23 11 v24 (0 : Int32)).bind fun v26 =>
        (uI S m23 v24 (0 : Int32) (v26 + (1 : Int32))).bind fun m29 =>
        some (v10, m29)
set_option maxRecDepth 100000 in
set_option maxHeartbeats 4000000 in
theorem kX10_hears (l : Launch) (D : va_G) (b : Nat) {S : SH} {me : ME} {o : Nat} {a0 : Int32} {a1 : Int32} {q : Int32 × ME} (hM : mX10_hears S me o a0 a1 = some q) : Ct l D b yX10_hears cX10_hears 4 (some .int) 2 43 0 0 [.ref (b + o), .int a0, .int a1] S me S q.2 (some (.int q.1)) := by
  refine ct_of (own := RX10) (nm := "hears") (lv := [(0, .ref (b + o)), (1, .int a0), (2, .int a1)]) (plainFor_of_name (by decide)) rfl rfl (Nat.le_of_ble_eq_true rfl) rfl ⟨rfl, rfl⟩ (fun X cx ex hL => ?_)
  have J18 : ∀ (me : ME), mX10_hears_j18 S o a0 a1 me = some q → WS X b 4 S me 18 [] [] := by
    intro  me hM
    unfold mX10_hears_j18 at hM
    refine ws_iconst cx dX10_hears_18 (v := -1) (by decide) ?_
    exact ws_iretM cx ex hM dX10_hears_19
  unfold mX10_hears at hM
  refine ws_aload_n cx dX10_hears_0 rfl (j := 0) rfl ?_
  refine ws_iload_n cx dX10_hears_1 rfl (j := 1) rfl ?_
  obtain ⟨_, h3, hM⟩ := bnd hM
  obtain ⟨q1, h2, hM⟩ := bnd hM
  refine ws_callV cx (rest := []) (st' := [.int q1.1]) (kX10_isStation l D b h2) mvX10_isStation (ck_k h3) (by decide) (q := (RX10, TX10, 31)) rfl seX10_isStation lkX10_138 rfl ⟨by decide, by decide⟩ (Nat.le_of_ble_eq_true rfl) ⟨rfl, rfl⟩ (Or.inl ⟨rfl, rfl⟩) rfl rfl dX10_hears_2 ?_
  refine ws_if_eq cx dX10_hears_5 (tgt := 18) (by decide) (fun c4 => ?_) (fun c4 => ?_)
  · have hM := if_t hM c4
    refine ws_sub [] (lv' := []) rfl ?_
    exact J18 _ hM
  · have hM := if_f hM c4
    refine ws_iload_n cx dX10_hears_8 rfl (j := 2) rfl ?_
    refine ws_iconst cx dX10_hears_9 (v := 0) (by decide) ?_
    refine ws_bipush cx dX10_hears_10 (v := 60) (by decide) ?_
    obtain ⟨q5, h6, hM⟩ := bnd hM
    refine ws_callS cx (rest := []) (st' := [.int q5.1]) (kX10_in l D b h6) mvX10_in lkX10_48 rfl ⟨by decide, by decide⟩ (Nat.le_of_ble_eq_true rfl) ⟨rfl, rfl⟩ (Or.inl ⟨rfl, rfl⟩) rfl rfl dX10_hears_12 ?_
    refine ws_if_ne cx dX10_hears_15 (tgt := 20) (by decide) (fun c7 => ?_) (fun c7 => ?_)
    · have hM := if_f hM c7
      refine ws_aload_n cx dX10_hears_20 rfl (j := 0) rfl ?_
      obtain ⟨v8, h9, hM⟩ := bnd hM
      refine ws_getR cx ffX10_16 h9 dX10_hears_21 ?_
      refine ws_iconst cx dX10_hears_24 (v := 0) (by decide) ?_
      obtain ⟨v10, h11, hM⟩ := bnd hM
      refine ws_iald cx h11 dX10_hears_25 ?_
      refine ws_istore_n cx dX10_hears_26 rfl (by decide) (lv' := [(3, .int v10), (0, .ref (b + o)), (1, .int a0), (2, .int a1)]) rfl ?_
      refine ws_iload_n cx dX10_hears_27 rfl (j := 0) rfl ?_
      refine ws_bipush cx dX10_hears_28 (v := 9) (by decide) ?_
      refine ws_icmp_ne cx dX10_hears_30 (tgt := 36) (by decide) (fun c12 => ?_) (fun c12 => ?_)
      · have hM := if_f hM c12
        refine ws_aload_n cx dX10_hears_36 rfl (j := 1) rfl ?_
        obtain ⟨_, h15, hM⟩ := bnd hM
        obtain ⟨q13, h14, hM⟩ := bnd hM
        refine ws_callV cx (rest := []) (st' := []) (kX10_remember l D b h14) mvX10_remember (ck_k h15) (by decide) (q := (RX10, TX10, 31)) rfl seX10_remember lkX10_151 rfl ⟨by decide, by decide⟩ (Nat.le_of_ble_eq_true rfl) ⟨rfl, rfl⟩ (Or.inl ⟨rfl, rfl⟩) rfl rfl dX10_hears_37 ?_
        refine ws_aload_n cx dX10_hears_40 rfl (j := 1) rfl ?_
        obtain ⟨v16, h17, hM⟩ := bnd hM
        refine ws_getR cx ffX10_16 h17 dX10_hears_41 ?_
        refine ws_bipush cx dX10_hears_44 (v := 7) (by decide) ?_
        refine ws_iload_n cx dX10_hears_46 rfl (j := 0) rfl ?_
        refine ws_iadd cx dX10_hears_47 ?_
        refine ws_iload_n cx dX10_hears_48 rfl (j := 2) rfl ?_
        obtain ⟨m19, h18, hM⟩ := bnd hM
        refine ws_iast cx h18 dX10_hears_49 ?_
        refine ws_aload_n cx dX10_hears_50 rfl (j := 1) rfl ?_
        obtain ⟨v20, h21, hM⟩ := bnd hM
        refine ws_getR cx ffX10_16 h21 dX10_hears_51 ?_
        refine ws_bipush cx dX10_hears_54 (v := 16) (by decide) ?_
        refine ws_iload_n cx dX10_hears_56 rfl (j := 0) rfl ?_
        refine ws_iadd cx dX10_hears_57 ?_
        refine ws_iload_n cx dX10_hears_58 rfl (j := 3) rfl ?_
        obtain ⟨m23, h22, hM⟩ := bnd hM
        refine ws_iast cx h22 dX10_hears_59 ?_
        refine ws_aload_n cx dX10_hears_60 rfl (j := 1) rfl ?_
        obtain ⟨v24, h25, hM⟩ := bnd hM
        refine ws_getR cx ffX10_16 h25 dX10_hears_61 ?_
        refine ws_iconst cx dX10_hears_64 (v := 0) (by decide) ?_
        refine ws_dup2 cx dX10_hears_65 rfl rfl ?_
        obtain ⟨v26, h27, hM⟩ := bnd hM
        refine ws_iald cx h27 dX10_hears_66 ?_
        refine ws_iconst cx dX10_hears_67 (v := 1) (by decide) ?_
        refine ws_iadd cx dX10_hears_68 ?_
        obtain ⟨m29, h28, hM⟩ := bnd hM
        refine ws_iast cx h28 dX10_hears_69 ?_
        refine ws_iload_n cx dX10_hears_70 rfl (j := 0) rfl ?_
        exact ws_iretM cx ex hM dX10_hears_71
      · have hM := if_t hM c12
        refine ws_bipush cx dX10_hears_33 (v := -3) (by decide) ?_
        exact ws_iretM cx ex hM dX10_hears_35
    · have hM := if_t hM c7
      refine ws_sub [] (lv' := []) rfl ?_
      exact J18 _ hM

def mX10_strikes_j82 (S : SH) (o : Nat) (a0 : Int32) (me : ME) : Option (Int32 × ME) :=
  (gR S 10 3 o).bind fun v1 =>
  (aI S me 11 v1 (0 : Int32)).bind fun v3 =>
  some (v3, me)
def mX10_strikes_L26 (S : SH) (o : Nat) (a0 : Int32) (k26 : (ME × Int32 → Option (Int32 × ME))) : ME × Int32 → Option (Int32 × ME)
  | (me, x2) =>
    (gR S 10 3 o).bind fun v5 =>
    (aI S me 11 v5 (0 : Int32)).bind fun v7 =>
    if v7 ≤ x2 then
      mX10_strikes_j82 S o a0 me
    else
      (gR S 10 3 o).bind fun v10 =>
      (gR S 10 3 o).bind fun v12 =>
      (aI S me 11 v12 (((7 : Int32) + x2) + (1 : Int32))).bind fun v14 =>
      (uI S me v10 ((7 : Int32) + x2) v14).bind fun m17 =>
      (gR S 10 3 o).bind fun v18 =>
      (gR S 10 3 o).bind fun v20 =>
      (aI S m17 11 v20 (((16 : Int32) + x2) + (1 : Int32))).bind fun v22 =>
      (uI S m17 v18 ((16 : Int32) + x2) v22).bind fun m25 =>
      k26 (m25, x2 + (1 : Int32))
def mX10_strikes (S : SH) (me : ME) (o : Nat) (a0 : Int32) : Option (Int32 × ME) :=
  (ck S 10 o).bind fun _ => (mX10_isReading S me o a0).bind fun q26 =>
  if q26.1 = 0 then
    some ((-1 : Int32), q26.2)
  else
    (ck S 10 o).bind fun _ => (mX10_remember S q26.2 o).bind fun q30 =>
    (gR S 10 3 o).bind fun v33 =>
    (aI S q30.2 11 v33 (0 : Int32)).bind fun v35 =>
    (uI S q30.2 v33 (0 : Int32) (v35 - (1 : Int32))).bind fun m38 =>
    lpn (mX10_strikes_L26 S o a0) lpF (m38, a0)
set_option maxRecDepth 100000 in
set_option maxHeartbeats 4000000 in
theorem kX10_strikes (l : Launch) (D : va_G) (b : Nat) {S : SH} {me : ME} {o : Nat} {a0 : Int32} {q : Int32 × ME} (hM : mX10_strikes S me o a0 = some q) : Ct l D b yX10_strikes cX10_strikes 3 (some .int) 2 43 0 0 [.ref (b + o), .int a0] S me S q.2 (some (.int q.1)) := by
  refine ct_of (own := RX10) (nm := "strikes") (lv := [(0, .ref (b + o)), (1, .int a0)]) (plainFor_of_name (by decide)) rfl rfl (Nat.le_of_ble_eq_true rfl) rfl ⟨rfl, rfl⟩ (fun X cx ex hL => ?_)
  have J82 : ∀ (me : ME), mX10_strikes_j82 S o a0 me = some q → WS X b 3 S me 82 [(0, .ref (b + o))] [] := by
    intro  me hM
    unfold mX10_strikes_j82 at hM
    refine ws_aload_n cx dX10_strikes_82 rfl (j := 0) rfl ?_
    obtain ⟨v1, h2, hM⟩ := bnd hM
    refine ws_getR cx ffX10_16 h2 dX10_strikes_83 ?_
    refine ws_iconst cx dX10_strikes_86 (v := 0) (by decide) ?_
    obtain ⟨v3, h4, hM⟩ := bnd hM
    refine ws_iald cx h4 dX10_strikes_87 ?_
    exact ws_iretM cx ex hM dX10_strikes_88
  have L26 : ∀ (n : Nat) (me : ME) (x2 : Int32), lpn (mX10_strikes_L26 S o a0) n (me, x2) = some q → WS X b 3 S me 26 [(0, .ref (b + o)), (2, .int x2)] [] := by
    intro  n
    induction n with
    | zero => intro me x2 hM; exact absurd hM (by intro h; cases h)
    | succ n ih =>
      intro me x2 hM
      have hM : mX10_strikes_L26 S o a0 (lpn (mX10_strikes_L26 S o a0) n) (me, x2) = some q := hM
      unfold mX10_strikes_L26 at hM
      refine ws_iload_n cx dX10_strikes_26 rfl (j := 1) rfl ?_
      refine ws_aload_n cx dX10_strikes_27 rfl (j := 0) rfl ?_
      obtain ⟨v5, h6, hM⟩ := bnd hM
      refine ws_getR cx ffX10_16 h6 dX10_strikes_28 ?_
      refine ws_iconst cx dX10_strikes_31 (v := 0) (by decide) ?_
      obtain ⟨v7, h8, hM⟩ := bnd hM
      refine ws_iald cx h8 dX10_strikes_32 ?_
      refine ws_icmp_ge cx dX10_strikes_33 (tgt := 82) (by decide) (fun c9 => ?_) (fun c9 => ?_)
      · have hM := if_t hM c9
        refine ws_sub [0] (lv' := [(0, .ref (b + o))]) rfl ?_
        exact J82 _ hM
      · have hM := if_f hM c9
        refine ws_aload_n cx dX10_strikes_36 rfl (j := 0) rfl ?_
        obtain ⟨v10, h11, hM⟩ := bnd hM
        refine ws_getR cx ffX10_16 h11 dX10_strikes_37 ?_
        refine ws_bipush cx dX10_strikes_40 (v := 7) (by decide) ?_
        refine ws_iload_n cx dX10_strikes_42 rfl (j := 1) rfl ?_
        refine ws_iadd cx dX10_strikes_43 ?_
        refine ws_aload_n cx dX10_strikes_44 rfl (j := 0) rfl ?_
        obtain ⟨v12, h13, hM⟩ := bnd hM
        refine ws_getR cx ffX10_16 h13 dX10_strikes_45 ?_
        refine ws_bipush cx dX10_strikes_48 (v := 7) (by decide) ?_
        refine ws_iload_n cx dX10_strikes_50 rfl (j := 1) rfl ?_
        refine ws_iadd cx dX10_strikes_51 ?_
        refine ws_iconst cx dX10_strikes_52 (v := 1) (by decide) ?_
        refine ws_iadd cx dX10_strikes_53 ?_
        obtain ⟨v14, h15, hM⟩ := bnd hM
        refine ws_iald cx h15 dX10_strikes_54 ?_
        obtain ⟨m17, h16, hM⟩ := bnd hM
        refine ws_iast cx h16 dX10_strikes_55 ?_
        refine ws_aload_n cx dX10_strikes_56 rfl (j := 0) rfl ?_
        obtain ⟨v18, h19, hM⟩ := bnd hM
        refine ws_getR cx ffX10_16 h19 dX10_strikes_57 ?_
        refine ws_bipush cx dX10_strikes_60 (v := 16) (by decide) ?_
        refine ws_iload_n cx dX10_strikes_62 rfl (j := 1) rfl ?_
        refine ws_iadd cx dX10_strikes_63 ?_
        refine ws_aload_n cx dX10_strikes_64 rfl (j := 0) rfl ?_
        obtain ⟨v20, h21, hM⟩ := bnd hM
        refine ws_getR cx ffX10_16 h21 dX10_strikes_65 ?_
        refine ws_bipush cx dX10_strikes_68 (v := 16) (by decide) ?_
        refine ws_iload_n cx dX10_strikes_70 rfl (j := 1) rfl ?_
        refine ws_iadd cx dX10_strikes_71 ?_
        refine ws_iconst cx dX10_strikes_72 (v := 1) (by decide) ?_
        refine ws_iadd cx dX10_strikes_73 ?_
        obtain ⟨v22, h23, hM⟩ := bnd hM
        refine ws_iald cx h23 dX10_strikes_74 ?_
        obtain ⟨m25, h24, hM⟩ := bnd hM
        refine ws_iast cx h24 dX10_strikes_75 ?_
        refine ws_iinc cx dX10_strikes_76 (j := 1) rfl (v := x2 + (1 : Int32)) rfl (by decide) (lv' := [(2, .int (x2 + (1 : Int32))), (0, .ref (b + o))]) rfl ?_
        refine ws_goto cx dX10_strikes_79 (tgt := 26) (by decide) ?_
        refine ws_sub [1, 0] (lv' := [(0, .ref (b + o)), (2, .int (x2 + (1 : Int32)))]) rfl ?_
        exact ih _ _ hM
  unfold mX10_strikes at hM
  refine ws_aload_n cx dX10_strikes_0 rfl (j := 0) rfl ?_
  refine ws_iload_n cx dX10_strikes_1 rfl (j := 1) rfl ?_
  obtain ⟨_, h28, hM⟩ := bnd hM
  obtain ⟨q26, h27, hM⟩ := bnd hM
  refine ws_callV cx (rest := []) (st' := [.int q26.1]) (kX10_isReading l D b h27) mvX10_isReading (ck_k h28) (by decide) (q := (RX10, TX10, 31)) rfl seX10_isReading lkX10_141 rfl ⟨by decide, by decide⟩ (Nat.le_of_ble_eq_true rfl) ⟨rfl, rfl⟩ (Or.inl ⟨rfl, rfl⟩) rfl rfl dX10_strikes_2 ?_
  refine ws_if_ne cx dX10_strikes_5 (tgt := 10) (by decide) (fun c29 => ?_) (fun c29 => ?_)
  · have hM := if_f hM c29
    refine ws_aload_n cx dX10_strikes_10 rfl (j := 0) rfl ?_
    obtain ⟨_, h32, hM⟩ := bnd hM
    obtain ⟨q30, h31, hM⟩ := bnd hM
    refine ws_callV cx (rest := []) (st' := []) (kX10_remember l D b h31) mvX10_remember (ck_k h32) (by decide) (q := (RX10, TX10, 31)) rfl seX10_remember lkX10_151 rfl ⟨by decide, by decide⟩ (Nat.le_of_ble_eq_true rfl) ⟨rfl, rfl⟩ (Or.inl ⟨rfl, rfl⟩) rfl rfl dX10_strikes_11 ?_
    refine ws_aload_n cx dX10_strikes_14 rfl (j := 0) rfl ?_
    obtain ⟨v33, h34, hM⟩ := bnd hM
    refine ws_getR cx ffX10_16 h34 dX10_strikes_15 ?_
    refine ws_iconst cx dX10_strikes_18 (v := 0) (by decide) ?_
    refine ws_dup2 cx dX10_strikes_19 rfl rfl ?_
    obtain ⟨v35, h36, hM⟩ := bnd hM
    refine ws_iald cx h36 dX10_strikes_20 ?_
    refine ws_iconst cx dX10_strikes_21 (v := 1) (by decide) ?_
    refine ws_isub cx dX10_strikes_22 ?_
    obtain ⟨m38, h37, hM⟩ := bnd hM
    refine ws_iast cx h37 dX10_strikes_23 ?_
    refine ws_iload_n cx dX10_strikes_24 rfl (j := 1) rfl ?_
    refine ws_istore_n cx dX10_strikes_25 rfl (by decide) (lv' := [(2, .int a0), (0, .ref (b + o)), (1, .int a0)]) rfl ?_
    refine ws_sub [1, 0] (lv' := [(0, .ref (b + o)), (2, .int a0)]) rfl ?_
    exact L26 _ _ _ hM
  · have hM := if_t hM c29
    refine ws_iconst cx dX10_strikes_8 (v := -1) (by decide) ?_
    exact ws_iretM cx ex hM dX10_strikes_9

def mX10_sets_j17 (S : SH) (o : Nat) (a0 : Int32) (a1 : Int32) (me : ME) : Option (Int32 × ME) :=
  some ((-1 : Int32), me)
def mX10_sets (S : SH) (me : ME) (o : Nat) (a0 : Int32) (a1 : Int32) : Option (Int32 × ME) :=
  (ck S 10 o).bind fun _ => (mX10_isStation S me o a0).bind fun q1 =>
  if q1.1 = 0 then
    mX10_sets_j17 S o a0 a1 q1.2
  else
    (mX10_in S q1.2 a1 (0 : Int32) (4 : Int32)).bind fun q5 =>
    if q5.1 = 0 then
      mX10_sets_j17 S o a0 a1 q5.2
    else
      (gR S 10 3 o).bind fun v8 =>
      (aI S q5.2 11 v8 ((1 : Int32) + a0)).bind fun v10 =>
      if v10 = a1 then
        some ((-2 : Int32), q5.2)
      else
        (ck S 10 o).bind fun _ => (mX10_remember S q5.2 o).bind fun q13 =>
        (gR S 10 3 o).bind fun v16 =>
        (uI S q13.2 v16 ((1 : Int32) + a0) a1).bind fun m19 =>
        some (v10, m19)
set_option maxRecDepth 100000 in
set_option maxHeartbeats 4000000 in
theorem kX10_sets (l : Launch) (D : va_G) (b : Nat) {S : SH} {me : ME} {o : Nat} {a0 : Int32} {a1 : Int32} {q : Int32 × ME} (hM : mX10_sets S me o a0 a1 = some q) : Ct l D b yX10_sets cX10_sets 4 (some .int) 2 43 0 0 [.ref (b + o), .int a0, .int a1] S me S q.2 (some (.int q.1)) := by
  refine ct_of (own := RX10) (nm := "sets") (lv := [(0, .ref (b + o)), (1, .int a0), (2, .int a1)]) (plainFor_of_name (by decide)) rfl rfl (Nat.le_of_ble_eq_true rfl) rfl ⟨rfl, rfl⟩ (fun X cx ex hL => ?_)
  have J17 : ∀ (me : ME), mX10_sets_j17 S o a0 a1 me = some q → WS X b 4 S me 17 [] [] := by
    intro  me hM
    unfold mX10_sets_j17 at hM
    refine ws_iconst cx dX10_sets_17 (v := -1) (by decide) ?_
    exact ws_iretM cx ex hM dX10_sets_18
  unfold mX10_sets at hM
  refine ws_aload_n cx dX10_sets_0 rfl (j := 0) rfl ?_
  refine ws_iload_n cx dX10_sets_1 rfl (j := 1) rfl ?_
  obtain ⟨_, h3, hM⟩ := bnd hM
  obtain ⟨q1, h2, hM⟩ := bnd hM
  refine ws_callV cx (rest := []) (st' := [.int q1.1]) (kX10_isStation l D b h2) mvX10_isStation (ck_k h3) (by decide) (q := (RX10, TX10, 31)) rfl seX10_isStation lkX10_138 rfl ⟨by decide, by decide⟩ (Nat.le_of_ble_eq_true rfl) ⟨rfl, rfl⟩ (Or.inl ⟨rfl, rfl⟩) rfl rfl dX10_sets_2 ?_
  refine ws_if_eq cx dX10_sets_5 (tgt := 17) (by decide) (fun c4 => ?_) (fun c4 => ?_)
  · have hM := if_t hM c4
    refine ws_sub [] (lv' := []) rfl ?_
    exact J17 _ hM
  · have hM := if_f hM c4
    refine ws_iload_n cx dX10_sets_8 rfl (j := 2) rfl ?_
    refine ws_iconst cx dX10_sets_9 (v := 0) (by decide) ?_
    refine ws_iconst cx dX10_sets_10 (v := 4) (by decide) ?_
    obtain ⟨q5, h6, hM⟩ := bnd hM
    refine ws_callS cx (rest := []) (st' := [.int q5.1]) (kX10_in l D b h6) mvX10_in lkX10_48 rfl ⟨by decide, by decide⟩ (Nat.le_of_ble_eq_true rfl) ⟨rfl, rfl⟩ (Or.inl ⟨rfl, rfl⟩) rfl rfl dX10_sets_11 ?_
    refine ws_if_ne cx dX10_sets_14 (tgt := 19) (by decide) (fun c7 => ?_) (fun c7 => ?_)
    · have hM := if_f hM c7
      refine ws_aload_n cx dX10_sets_19 rfl (j := 0) rfl ?_
      obtain ⟨v8, h9, hM⟩ := bnd hM
      refine ws_getR cx ffX10_16 h9 dX10_sets_20 ?_
      refine ws_iconst cx dX10_sets_23 (v := 1) (by decide) ?_
      refine ws_iload_n cx dX10_sets_24 rfl (j := 1) rfl ?_
      refine ws_iadd cx dX10_sets_25 ?_
      obtain ⟨v10, h11, hM⟩ := bnd hM
      refine ws_iald cx h11 dX10_sets_26 ?_
      refine ws_istore_n cx dX10_sets_27 rfl (by decide) (lv' := [(3, .int v10), (0, .ref (b + o)), (1, .int a0), (2, .int a1)]) rfl ?_
      refine ws_iload_n cx dX10_sets_28 rfl (j := 0) rfl ?_
      refine ws_iload_n cx dX10_sets_29 rfl (j := 3) rfl ?_
      refine ws_icmp_ne cx dX10_sets_30 (tgt := 36) (by decide) (fun c12 => ?_) (fun c12 => ?_)
      · have hM := if_f hM c12
        refine ws_aload_n cx dX10_sets_36 rfl (j := 1) rfl ?_
        obtain ⟨_, h15, hM⟩ := bnd hM
        obtain ⟨q13, h14, hM⟩ := bnd hM
        refine ws_callV cx (rest := []) (st' := []) (kX10_remember l D b h14) mvX10_remember (ck_k h15) (by decide) (q := (RX10, TX10, 31)) rfl seX10_remember lkX10_151 rfl ⟨by decide, by decide⟩ (Nat.le_of_ble_eq_true rfl) ⟨rfl, rfl⟩ (Or.inl ⟨rfl, rfl⟩) rfl rfl dX10_sets_37 ?_
        refine ws_aload_n cx dX10_sets_40 rfl (j := 1) rfl ?_
        obtain ⟨v16, h17, hM⟩ := bnd hM
        refine ws_getR cx ffX10_16 h17 dX10_sets_41 ?_
        refine ws_iconst cx dX10_sets_44 (v := 1) (by decide) ?_
        refine ws_iload_n cx dX10_sets_45 rfl (j := 2) rfl ?_
        refine ws_iadd cx dX10_sets_46 ?_
        refine ws_iload_n cx dX10_sets_47 rfl (j := 3) rfl ?_
        obtain ⟨m19, h18, hM⟩ := bnd hM
        refine ws_iast cx h18 dX10_sets_48 ?_
        refine ws_iload_n cx dX10_sets_49 rfl (j := 0) rfl ?_
        exact ws_iretM cx ex hM dX10_sets_50
      · have hM := if_t hM c12
        refine ws_bipush cx dX10_sets_33 (v := -2) (by decide) ?_
        exact ws_iretM cx ex hM dX10_sets_35
    · have hM := if_t hM c7
      refine ws_sub [] (lv' := []) rfl ?_
      exact J17 _ hM
