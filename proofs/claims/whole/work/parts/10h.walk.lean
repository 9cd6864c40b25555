def mX10_number_j31 (S : SH) (o : Nat) (a0 : Int32) (me : ME) (y0 : Int32) : Option (Int32 × ME) :=
  if y0 = 0 ∨ y0 = 1 then some (y0, me) else none
def mX10_number_j26 (S : SH) (o : Nat) (a0 : Int32) (me : ME) : Option (Int32 × ME) :=
  mX10_number_j31 S o a0 me (1 : Int32)
def mX10_number_j19 (S : SH) (o : Nat) (a0 : Int32) (me : ME) : Option (Int32 × ME) :=
  (ck S 10 o).bind fun _ => (mX10_fails S me o).bind fun q2 =>
  if q2.1 = 0 then
    mX10_number_j31 S o a0 q2.2 (0 : Int32)
  else
    mX10_number_j26 S o a0 q2.2
def mX10_number (S : SH) (me : ME) (o : Nat) (a0 : Int32) : Option (Int32 × ME) :=
  (ck S 10 o).bind fun _ => (mX10_next S me o).bind fun q6 =>
  (gI S q6.2 10 13 o).bind fun v9 =>
  if v9 = 0 then
    (gI S q6.2 10 14 o).bind fun v12 =>
    if v12 ≤ a0 then
      mX10_number_j26 S o a0 q6.2
    else
      mX10_number_j19 S o a0 q6.2
  else
    mX10_number_j19 S o a0 q6.2
set_option maxRecDepth 100000 in
set_option maxHeartbeats 4000000 in
theorem kX10_number (l : Launch) (D : va_G) (b : Nat) {S : SH} {me : ME} {o : Nat} {a0 : Int32} {q : Int32 × ME} (hM : mX10_number S me o a0 = some q) : Ct l D b yX10_number cX10_number 2 (some .boolean) 3 62 0 0 [.ref (b + o), .int a0] S me S q.2 (some (.int q.1)) := by
  refine ct_of (own := RX10) (nm := "number") (lv := [(0, .ref (b + o)), (1, .int a0)]) (plainFor_of_name (by decide)) rfl rfl (Nat.le_of_ble_eq_true rfl) rfl ⟨rfl, rfl⟩ (fun X cx ex hL => ?_)
  have J31 : ∀ (me : ME) (y0 : Int32), mX10_number_j31 S o a0 me y0 = some q → WS X b 2 S me 31 [] [.int y0] := by
    intro  me y0 hM
    unfold mX10_number_j31 at hM
    obtain ⟨h1, hM⟩ := ite_o hM
    exact ws_zretM cx ex h1 hM dX10_number_31
  have J26 : ∀ (me : ME), mX10_number_j26 S o a0 me = some q → WS X b 2 S me 26 [] [] := by
    intro  me hM
    unfold mX10_number_j26 at hM
    refine ws_iconst cx dX10_number_26 (v := 1) (by decide) ?_
    refine ws_goto cx dX10_number_27 (tgt := 31) (by decide) ?_
    refine ws_sub [] (lv' := []) rfl ?_
    exact J31 _ _ hM
  have J19 : ∀ (me : ME), mX10_number_j19 S o a0 me = some q → WS X b 2 S me 19 [(0, .ref (b + o))] [] := by
    intro  me hM
    unfold mX10_number_j19 at hM
    refine ws_aload_n cx dX10_number_19 rfl (j := 0) rfl ?_
    obtain ⟨_, h4, hM⟩ := bnd hM
    obtain ⟨q2, h3, hM⟩ := bnd hM
    refine ws_callV cx (rest := []) (st' := [.int q2.1]) (kX10_fails l D b h3) mvX10_fails (ck_k h4) (by decide) (q := (RX10, TX10, 31)) rfl seX10_fails lkX10_81 rfl ⟨by decide, by decide⟩ (Nat.le_of_ble_eq_true rfl) ⟨rfl, rfl⟩ (Or.inl ⟨rfl, rfl⟩) rfl rfl dX10_number_20 ?_
    refine ws_if_eq cx dX10_number_23 (tgt := 30) (by decide) (fun c5 => ?_) (fun c5 => ?_)
    · have hM := if_t hM c5
      refine ws_iconst cx dX10_number_30 (v := 0) (by decide) ?_
      refine ws_sub [] (lv' := []) rfl ?_
      exact J31 _ _ hM
    · have hM := if_f hM c5
      refine ws_sub [] (lv' := []) rfl ?_
      exact J26 _ hM
  unfold mX10_number at hM
  refine ws_aload_n cx dX10_number_0 rfl (j := 0) rfl ?_
  obtain ⟨_, h8, hM⟩ := bnd hM
  obtain ⟨q6, h7, hM⟩ := bnd hM
  refine ws_callV cx (rest := []) (st' := []) (kX10_next l D b h7) mvX10_next (ck_k h8) (by decide) (q := (RX10, TX10, 31)) rfl seX10_next lkX10_78 rfl ⟨by decide, by decide⟩ (Nat.le_of_ble_eq_true rfl) ⟨rfl, rfl⟩ (Or.inl ⟨rfl, rfl⟩) rfl rfl dX10_number_1 ?_
  refine ws_aload_n cx dX10_number_4 rfl (j := 0) rfl ?_
  obtain ⟨v9, h10, hM⟩ := bnd hM
  refine ws_getI cx ffX10_65 h10 dX10_number_5 ?_
  refine ws_if_ne cx dX10_number_8 (tgt := 19) (by decide) (fun c11 => ?_) (fun c11 => ?_)
  · have hM := if_f hM c11
    refine ws_sub [0] (lv' := [(0, .ref (b + o))]) rfl ?_
    exact J19 _ hM
  · have hM := if_t hM c11
    refine ws_aload_n cx dX10_number_11 rfl (j := 0) rfl ?_
    obtain ⟨v12, h13, hM⟩ := bnd hM
    refine ws_getI cx ffX10_72 h13 dX10_number_12 ?_
    refine ws_iload_n cx dX10_number_15 rfl (j := 1) rfl ?_
    refine ws_icmp_le cx dX10_number_16 (tgt := 26) (by decide) (fun c14 => ?_) (fun c14 => ?_)
    · have hM := if_t hM c14
      refine ws_sub [] (lv' := []) rfl ?_
      exact J26 _ hM
    · have hM := if_f hM c14
      refine ws_sub [0] (lv' := [(0, .ref (b + o))]) rfl ?_
      exact J19 _ hM

def mX10_clockOf_j52 (S : SH) (a0 : Int32) (me : ME) (y0 : Int32) : Option (Int32 × ME) :=
  some (y0, me)
def mX10_clockOf (S : SH) (me : ME) (a0 : Int32) : Option (Int32 × ME) :=
  if a0 = (112 : Int32) then
    mX10_clockOf_j52 S a0 me (0 : Int32)
  else
    if a0 = (108 : Int32) then
      mX10_clockOf_j52 S a0 me (1 : Int32)
    else
      if a0 = (101 : Int32) then
        mX10_clockOf_j52 S a0 me (2 : Int32)
      else
        if a0 = (100 : Int32) then
          mX10_clockOf_j52 S a0 me (3 : Int32)
        else
          if a0 = (98 : Int32) then
            mX10_clockOf_j52 S a0 me (4 : Int32)
          else
            mX10_clockOf_j52 S a0 me (-9 : Int32)
set_option maxRecDepth 100000 in
set_option maxHeartbeats 4000000 in
theorem kX10_clockOf (l : Launch) (D : va_G) (b : Nat) {S : SH} {me : ME} {a0 : Int32} {q : Int32 × ME} (hM : mX10_clockOf S me a0 = some q) : Ct l D b yX10_clockOf cX10_clockOf 1 (some .int) 0 0 0 0 [.int a0] S me S q.2 (some (.int q.1)) := by
  refine ct_of (own := RX10) (nm := "clockOf") (lv := [(0, .int a0)]) (plainFor_of_name (by decide)) rfl rfl (Nat.le_of_ble_eq_true rfl) rfl ⟨rfl, rfl⟩ (fun X cx ex hL => ?_)
  have J52 : ∀ (me : ME) (y0 : Int32), mX10_clockOf_j52 S a0 me y0 = some q → WS X b 1 S me 52 [] [.int y0] := by
    intro  me y0 hM
    unfold mX10_clockOf_j52 at hM
    exact ws_iretM cx ex hM dX10_clockOf_52
  unfold mX10_clockOf at hM
  refine ws_iload_n cx dX10_clockOf_0 rfl (j := 0) rfl ?_
  refine ws_bipush cx dX10_clockOf_1 (v := 112) (by decide) ?_
  refine ws_icmp_ne cx dX10_clockOf_3 (tgt := 10) (by decide) (fun c1 => ?_) (fun c1 => ?_)
  · have hM := if_f hM c1
    refine ws_iload_n cx dX10_clockOf_10 rfl (j := 0) rfl ?_
    refine ws_bipush cx dX10_clockOf_11 (v := 108) (by decide) ?_
    refine ws_icmp_ne cx dX10_clockOf_13 (tgt := 20) (by decide) (fun c2 => ?_) (fun c2 => ?_)
    · have hM := if_f hM c2
      refine ws_iload_n cx dX10_clockOf_20 rfl (j := 0) rfl ?_
      refine ws_bipush cx dX10_clockOf_21 (v := 101) (by decide) ?_
      refine ws_icmp_ne cx dX10_clockOf_23 (tgt := 30) (by decide) (fun c3 => ?_) (fun c3 => ?_)
      · have hM := if_f hM c3
        refine ws_iload_n cx dX10_clockOf_30 rfl (j := 0) rfl ?_
        refine ws_bipush cx dX10_clockOf_31 (v := 100) (by decide) ?_
        refine ws_icmp_ne cx dX10_clockOf_33 (tgt := 40) (by decide) (fun c4 => ?_) (fun c4 => ?_)
        · have hM := if_f hM c4
          refine ws_iload_n cx dX10_clockOf_40 rfl (j := 0) rfl ?_
          refine ws_bipush cx dX10_clockOf_41 (v := 98) (by decide) ?_
          refine ws_icmp_ne cx dX10_clockOf_43 (tgt := 50) (by decide) (fun c5 => ?_) (fun c5 => ?_)
          · have hM := if_f hM c5
            refine ws_bipush cx dX10_clockOf_50 (v := -9) (by decide) ?_
            refine ws_sub [] (lv' := []) rfl ?_
            exact J52 _ _ hM
          · have hM := if_t hM c5
            refine ws_iconst cx dX10_clockOf_46 (v := 4) (by decide) ?_
            refine ws_goto cx dX10_clockOf_47 (tgt := 52) (by decide) ?_
            refine ws_sub [] (lv' := []) rfl ?_
            exact J52 _ _ hM
        · have hM := if_t hM c4
          refine ws_iconst cx dX10_clockOf_36 (v := 3) (by decide) ?_
          refine ws_goto cx dX10_clockOf_37 (tgt := 52) (by decide) ?_
          refine ws_sub [] (lv' := []) rfl ?_
          exact J52 _ _ hM
      · have hM := if_t hM c3
        refine ws_iconst cx dX10_clockOf_26 (v := 2) (by decide) ?_
        refine ws_goto cx dX10_clockOf_27 (tgt := 52) (by decide) ?_
        refine ws_sub [] (lv' := []) rfl ?_
        exact J52 _ _ hM
    · have hM := if_t hM c2
      refine ws_iconst cx dX10_clockOf_16 (v := 1) (by decide) ?_
      refine ws_goto cx dX10_clockOf_17 (tgt := 52) (by decide) ?_
      refine ws_sub [] (lv' := []) rfl ?_
      exact J52 _ _ hM
  · have hM := if_t hM c1
    refine ws_iconst cx dX10_clockOf_6 (v := 0) (by decide) ?_
    refine ws_goto cx dX10_clockOf_7 (tgt := 52) (by decide) ?_
    refine ws_sub [] (lv' := []) rfl ?_
    exact J52 _ _ hM

def mX10_ends_j25 (S : SH) (o : Nat) (me : ME) (y0 : Int32) : Option (Int32 × ME) :=
  if y0 = 0 ∨ y0 = 1 then some (y0, me) else none
def mX10_ends_j20 (S : SH) (o : Nat) (me : ME) : Option (Int32 × ME) :=
  mX10_ends_j25 S o me (1 : Int32)
def mX10_ends (S : SH) (me : ME) (o : Nat) : Option (Int32 × ME) :=
  (ck S 10 o).bind fun _ => (mX10_next S me o).bind fun q2 =>
  (gI S q2.2 10 13 o).bind fun v5 =>
  if v5 = (59 : Int32) then
    mX10_ends_j20 S o q2.2
  else
    (ck S 10 o).bind fun _ => (mX10_fails S q2.2 o).bind fun q8 =>
    if q8.1 = 0 then
      mX10_ends_j25 S o q8.2 (0 : Int32)
    else
      mX10_ends_j20 S o q8.2
set_option maxRecDepth 100000 in
set_option maxHeartbeats 4000000 in
theorem kX10_ends (l : Launch) (D : va_G) (b : Nat) {S : SH} {me : ME} {o : Nat} {q : Int32 × ME} (hM : mX10_ends S me o = some q) : Ct l D b yX10_ends cX10_ends 1 (some .boolean) 3 62 0 0 [.ref (b + o)] S me S q.2 (some (.int q.1)) := by
  refine ct_of (own := RX10) (nm := "ends") (lv := [(0, .ref (b + o))]) (plainFor_of_name (by decide)) rfl rfl (Nat.le_of_ble_eq_true rfl) rfl ⟨rfl, rfl⟩ (fun X cx ex hL => ?_)
  have J25 : ∀ (me : ME) (y0 : Int32), mX10_ends_j25 S o me y0 = some q → WS X b 1 S me 25 [] [.int y0] := by
    intro  me y0 hM
    unfold mX10_ends_j25 at hM
    obtain ⟨h1, hM⟩ := ite_o hM
    exact ws_zretM cx ex h1 hM dX10_ends_25
  have J20 : ∀ (me : ME), mX10_ends_j20 S o me = some q → WS X b 1 S me 20 [] [] := by
    intro  me hM
    unfold mX10_ends_j20 at hM
    refine ws_iconst cx dX10_ends_20 (v := 1) (by decide) ?_
    refine ws_goto cx dX10_ends_21 (tgt := 25) (by decide) ?_
    refine ws_sub [] (lv' := []) rfl ?_
    exact J25 _ _ hM
  unfold mX10_ends at hM
  refine ws_aload_n cx dX10_ends_0 rfl (j := 0) rfl ?_
  obtain ⟨_, h4, hM⟩ := bnd hM
  obtain ⟨q2, h3, hM⟩ := bnd hM
  refine ws_callV cx (rest := []) (st' := []) (kX10_next l D b h3) mvX10_next (ck_k h4) (by decide) (q := (RX10, TX10, 31)) rfl seX10_next lkX10_78 rfl ⟨by decide, by decide⟩ (Nat.le_of_ble_eq_true rfl) ⟨rfl, rfl⟩ (Or.inl ⟨rfl, rfl⟩) rfl rfl dX10_ends_1 ?_
  refine ws_aload_n cx dX10_ends_4 rfl (j := 0) rfl ?_
  obtain ⟨v5, h6, hM⟩ := bnd hM
  refine ws_getI cx ffX10_65 h6 dX10_ends_5 ?_
  refine ws_bipush cx dX10_ends_8 (v := 59) (by decide) ?_
  refine ws_icmp_eq cx dX10_ends_10 (tgt := 20) (by decide) (fun c7 => ?_) (fun c7 => ?_)
  · have hM := if_t hM c7
    refine ws_sub [] (lv' := []) rfl ?_
    exact J20 _ hM
  · have hM := if_f hM c7
    refine ws_aload_n cx dX10_ends_13 rfl (j := 0) rfl ?_
    obtain ⟨_, h10, hM⟩ := bnd hM
    obtain ⟨q8, h9, hM⟩ := bnd hM
    refine ws_callV cx (rest := []) (st' := [.int q8.1]) (kX10_fails l D b h9) mvX10_fails (ck_k h10) (by decide) (q := (RX10, TX10, 31)) rfl seX10_fails lkX10_81 rfl ⟨by decide, by decide⟩ (Nat.le_of_ble_eq_true rfl) ⟨rfl, rfl⟩ (Or.inl ⟨rfl, rfl⟩) rfl rfl dX10_ends_14 ?_
    refine ws_if_eq cx dX10_ends_17 (tgt := 24) (by decide) (fun c11 => ?_) (fun c11 => ?_)
    · have hM := if_t hM c11
      refine ws_iconst cx dX10_ends_24 (v := 0) (by decide) ?_
      refine ws_sub [] (lv' := []) rfl ?_
      exact J25 _ _ hM
    · have hM := if_f hM c11
      refine ws_sub [] (lv' := []) rfl ?_
      exact J20 _ hM

def mX10_readsStation (S : SH) (me : ME) (o : Nat) : Option (Int32 × ME) :=
  (gI S me 10 16 o).bind fun v1 =>
  if v1 = (6 : Int32) then
    (ck S 10 o).bind fun _ => (mX10_fails S me o).bind fun q58 =>
    if q58.1 = 0 ∨ q58.1 = 1 then some (q58.1, q58.2) else none
  else
    (ck S 10 o).bind fun _ => (mX10_number S me o (29 : Int32)).bind fun q4 =>
    if q4.1 = 0 then
      some ((0 : Int32), q4.2)
    else
      (gR S 10 17 o).bind fun v8 =>
      (gI S q4.2 10 16 o).bind fun v10 =>
      (gI S q4.2 10 14 o).bind fun v12 =>
      (uI S q4.2 v8 v10 v12).bind fun m15 =>
      (ck S 10 o).bind fun _ => (mX10_number S m15 o (29 : Int32)).bind fun q16 =>
      if q16.1 = 0 then
        some ((0 : Int32), q16.2)
      else
        (gR S 10 18 o).bind fun v20 =>
        (gI S q16.2 10 16 o).bind fun v22 =>
        (gI S q16.2 10 14 o).bind fun v24 =>
        (uI S q16.2 v20 v22 v24).bind fun m27 =>
        (ck S 10 o).bind fun _ => (mX10_next S m27 o).bind fun q28 =>
        (gI S q28.2 10 13 o).bind fun v31 =>
        (mX10_clockOf S q28.2 v31).bind fun q33 =>
        if q33.1 = (-9 : Int32) then
          (ck S 10 o).bind fun _ => (mX10_fails S q33.2 o).bind fun q54 =>
          if q54.1 = 0 ∨ q54.1 = 1 then some (q54.1, q54.2) else none
        else
          (gR S 10 19 o).bind fun v36 =>
          (gI S q33.2 10 16 o).bind fun v38 =>
          (gI S q33.2 10 13 o).bind fun v40 =>
          (mX10_clockOf S q33.2 v40).bind fun q42 =>
          (uI S q42.2 v36 ((1 : Int32) + v38) q42.1).bind fun m45 =>
          (gI S m45 10 16 o).bind fun v46 =>
          (sI S m45 10 16 o (v46 + (1 : Int32))).bind fun m49 =>
          (ck S 10 o).bind fun _ => (mX10_ends S m49 o).bind fun q50 =>
          if q50.1 = 0 ∨ q50.1 = 1 then some (q50.1, q50.2) else none
set_option maxRecDepth 100000 in
set_option maxHeartbeats 4000000 in
theorem kX10_readsStation (l : Launch) (D : va_G) (b : Nat) {S : SH} {me : ME} {o : Nat} {q : Int32 × ME} (hM : mX10_readsStation S me o = some q) : Ct l D b yX10_readsStation cX10_readsStation 1 (some .boolean) 4 83 0 0 [.ref (b + o)] S me S q.2 (some (.int q.1)) := by
  refine ct_of (own := RX10) (nm := "readsStation") (lv := [(0, .ref (b + o))]) (plainFor_of_name (by decide)) rfl rfl (Nat.le_of_ble_eq_true rfl) rfl ⟨rfl, rfl⟩ (fun X cx ex hL => ?_)
  unfold mX10_readsStation at hM
  refine ws_aload_n cx dX10_readsStation_0 rfl (j := 0) rfl ?_
  obtain ⟨v1, h2, hM⟩ := bnd hM
  refine ws_getI cx ffX10_84 h2 dX10_readsStation_1 ?_
  refine ws_bipush cx dX10_readsStation_4 (v := 6) (by decide) ?_
  refine ws_icmp_ne cx dX10_readsStation_6 (tgt := 14) (by decide) (fun c3 => ?_) (fun c3 => ?_)
  · have hM := if_f hM c3
    refine ws_aload_n cx dX10_readsStation_14 rfl (j := 0) rfl ?_
    refine ws_bipush cx dX10_readsStation_15 (v := 29) (by decide) ?_
    obtain ⟨_, h6, hM⟩ := bnd hM
    obtain ⟨q4, h5, hM⟩ := bnd hM
    refine ws_callV cx (rest := []) (st' := [.int q4.1]) (kX10_number l D b h5) mvX10_number (ck_k h6) (by decide) (q := (RX10, TX10, 31)) rfl seX10_number lkX10_87 rfl ⟨by decide, by decide⟩ (Nat.le_of_ble_eq_true rfl) ⟨rfl, rfl⟩ (Or.inl ⟨rfl, rfl⟩) rfl rfl dX10_readsStation_17 ?_
    refine ws_if_ne cx dX10_readsStation_20 (tgt := 25) (by decide) (fun c7 => ?_) (fun c7 => ?_)
    · have hM := if_f hM c7
      refine ws_aload_n cx dX10_readsStation_25 rfl (j := 0) rfl ?_
      obtain ⟨v8, h9, hM⟩ := bnd hM
      refine ws_getR cx ffX10_32 h9 dX10_readsStation_26 ?_
      refine ws_aload_n cx dX10_readsStation_29 rfl (j := 0) rfl ?_
      obtain ⟨v10, h11, hM⟩ := bnd hM
      refine ws_getI cx ffX10_84 h11 dX10_readsStation_30 ?_
      refine ws_aload_n cx dX10_readsStation_33 rfl (j := 0) rfl ?_
      obtain ⟨v12, h13, hM⟩ := bnd hM
      refine ws_getI cx ffX10_72 h13 dX10_readsStation_34 ?_
      obtain ⟨m15, h14, hM⟩ := bnd hM
      refine ws_iast cx h14 dX10_readsStation_37 ?_
      refine ws_aload_n cx dX10_readsStation_38 rfl (j := 0) rfl ?_
      refine ws_bipush cx dX10_readsStation_39 (v := 29) (by decide) ?_
      obtain ⟨_, h18, hM⟩ := bnd hM
      obtain ⟨q16, h17, hM⟩ := bnd hM
      refine ws_callV cx (rest := []) (st' := [.int q16.1]) (kX10_number l D b h17) mvX10_number (ck_k h18) (by decide) (q := (RX10, TX10, 31)) rfl seX10_number lkX10_87 rfl ⟨by decide, by decide⟩ (Nat.le_of_ble_eq_true rfl) ⟨rfl, rfl⟩ (Or.inl ⟨rfl, rfl⟩) rfl rfl dX10_readsStation_41 ?_
      refine ws_if_ne cx dX10_readsStation_44 (tgt := 49) (by decide) (fun c19 => ?_) (fun c19 => ?_)
      · have hM := if_f hM c19
        refine ws_aload_n cx dX10_readsStation_49 rfl (j := 0) rfl ?_
        obtain ⟨v20, h21, hM⟩ := bnd hM
        refine ws_getR cx ffX10_35 h21 dX10_readsStation_50 ?_
        refine ws_aload_n cx dX10_readsStation_53 rfl (j := 0) rfl ?_
        obtain ⟨v22, h23, hM⟩ := bnd hM
        refine ws_getI cx ffX10_84 h23 dX10_readsStation_54 ?_
        refine ws_aload_n cx dX10_readsStation_57 rfl (j := 0) rfl ?_
        obtain ⟨v24, h25, hM⟩ := bnd hM
        refine ws_getI cx ffX10_72 h25 dX10_readsStation_58 ?_
        obtain ⟨m27, h26, hM⟩ := bnd hM
        refine ws_iast cx h26 dX10_readsStation_61 ?_
        refine ws_aload_n cx dX10_readsStation_62 rfl (j := 0) rfl ?_
        obtain ⟨_, h30, hM⟩ := bnd hM
        obtain ⟨q28, h29, hM⟩ := bnd hM
        refine ws_callV cx (rest := []) (st' := []) (kX10_next l D b h29) mvX10_next (ck_k h30) (by decide) (q := (RX10, TX10, 31)) rfl seX10_next lkX10_78 rfl ⟨by decide, by decide⟩ (Nat.le_of_ble_eq_true rfl) ⟨rfl, rfl⟩ (Or.inl ⟨rfl, rfl⟩) rfl rfl dX10_readsStation_63 ?_
        refine ws_aload_n cx dX10_readsStation_66 rfl (j := 0) rfl ?_
        obtain ⟨v31, h32, hM⟩ := bnd hM
        refine ws_getI cx ffX10_65 h32 dX10_readsStation_67 ?_
        obtain ⟨q33, h34, hM⟩ := bnd hM
        refine ws_callS cx (rest := []) (st' := [.int q33.1]) (kX10_clockOf l D b h34) mvX10_clockOf lkX10_91 rfl ⟨by decide, by decide⟩ (Nat.le_of_ble_eq_true rfl) ⟨rfl, rfl⟩ (Or.inl ⟨rfl, rfl⟩) rfl rfl dX10_readsStation_70 ?_
        refine ws_bipush cx dX10_readsStation_73 (v := -9) (by decide) ?_
        refine ws_icmp_ne cx dX10_readsStation_75 (tgt := 83) (by decide) (fun c35 => ?_) (fun c35 => ?_)
        · have hM := if_f hM c35
          refine ws_aload_n cx dX10_readsStation_83 rfl (j := 0) rfl ?_
          obtain ⟨v36, h37, hM⟩ := bnd hM
          refine ws_getR cx ffX10_38 h37 dX10_readsStation_84 ?_
          refine ws_iconst cx dX10_readsStation_87 (v := 1) (by decide) ?_
          refine ws_aload_n cx dX10_readsStation_88 rfl (j := 0) rfl ?_
          obtain ⟨v38, h39, hM⟩ := bnd hM
          refine ws_getI cx ffX10_84 h39 dX10_readsStation_89 ?_
          refine ws_iadd cx dX10_readsStation_92 ?_
          refine ws_aload_n cx dX10_readsStation_93 rfl (j := 0) rfl ?_
          obtain ⟨v40, h41, hM⟩ := bnd hM
          refine ws_getI cx ffX10_65 h41 dX10_readsStation_94 ?_
          obtain ⟨q42, h43, hM⟩ := bnd hM
          refine ws_callS cx (rest := [.int ((1 : Int32) + v38), .ref (b + v36)]) (st' := [.int q42.1, .int ((1 : Int32) + v38), .ref (b + v36)]) (kX10_clockOf l D b h43) mvX10_clockOf lkX10_91 rfl ⟨by decide, by decide⟩ (Nat.le_of_ble_eq_true rfl) ⟨rfl, rfl⟩ (Or.inl ⟨rfl, rfl⟩) rfl rfl dX10_readsStation_97 ?_
          obtain ⟨m45, h44, hM⟩ := bnd hM
          refine ws_iast cx h44 dX10_readsStation_100 ?_
          refine ws_aload_n cx dX10_readsStation_101 rfl (j := 0) rfl ?_
          refine ws_dup cx dX10_readsStation_102 rfl ?_
          obtain ⟨v46, h47, hM⟩ := bnd hM
          refine ws_getI cx ffX10_84 h47 dX10_readsStation_103 ?_
          refine ws_iconst cx dX10_readsStation_106 (v := 1) (by decide) ?_
          refine ws_iadd cx dX10_readsStation_107 ?_
          obtain ⟨m49, h48, hM⟩ := bnd hM
          refine ws_putI cx ffX10_84 h48 dX10_readsStation_108 ?_
          refine ws_aload_n cx dX10_readsStation_111 rfl (j := 0) rfl ?_
          obtain ⟨_, h52, hM⟩ := bnd hM
          obtain ⟨q50, h51, hM⟩ := bnd hM
          refine ws_callV cx (rest := []) (st' := [.int q50.1]) (kX10_ends l D b h51) mvX10_ends (ck_k h52) (by decide) (q := (RX10, TX10, 31)) rfl seX10_ends lkX10_95 rfl ⟨by decide, by decide⟩ (Nat.le_of_ble_eq_true rfl) ⟨rfl, rfl⟩ (Or.inl ⟨rfl, rfl⟩) rfl rfl dX10_readsStation_112 ?_
          obtain ⟨h53, hM⟩ := ite_o hM
          exact ws_zretM cx ex h53 hM dX10_readsStation_115
        · have hM := if_t hM c35
          refine ws_aload_n cx dX10_readsStation_78 rfl (j := 0) rfl ?_
          obtain ⟨_, h56, hM⟩ := bnd hM
          obtain ⟨q54, h55, hM⟩ := bnd hM
          refine ws_callV cx (rest := []) (st' := [.int q54.1]) (kX10_fails l D b h55) mvX10_fails (ck_k h56) (by decide) (q := (RX10, TX10, 31)) rfl seX10_fails lkX10_81 rfl ⟨by decide, by decide⟩ (Nat.le_of_ble_eq_true rfl) ⟨rfl, rfl⟩ (Or.inl ⟨rfl, rfl⟩) rfl rfl dX10_readsStation_79 ?_
          obtain ⟨h57, hM⟩ := ite_o hM
          exact ws_zretM cx ex h57 hM dX10_readsStation_82
      · have hM := if_t hM c19
        refine ws_iconst cx dX10_readsStation_47 (v := 0) (by decide) ?_
        exact ws_zretM cx ex (by decide) hM dX10_readsStation_48
    · have hM := if_t hM c7
      refine ws_iconst cx dX10_readsStation_23 (v := 0) (by decide) ?_
      exact ws_zretM cx ex (by decide) hM dX10_readsStation_24
  · have hM := if_t hM c3
    refine ws_aload_n cx dX10_readsStation_9 rfl (j := 0) rfl ?_
    obtain ⟨_, h60, hM⟩ := bnd hM
    obtain ⟨q58, h59, hM⟩ := bnd hM
    refine ws_callV cx (rest := []) (st' := [.int q58.1]) (kX10_fails l D b h59) mvX10_fails (ck_k h60) (by decide) (q := (RX10, TX10, 31)) rfl seX10_fails lkX10_81 rfl ⟨by decide, by decide⟩ (Nat.le_of_ble_eq_true rfl) ⟨rfl, rfl⟩ (Or.inl ⟨rfl, rfl⟩) rfl rfl dX10_readsStation_10 ?_
    obtain ⟨h61, hM⟩ := ite_o hM
    exact ws_zretM cx ex h61 hM dX10_readsStation_13

def mX10_readsReading (S : SH) (me : ME) (o : Nat) : Option (Int32 × ME) :=
  (gR S 10 19 o).bind fun v1 =>
  (aI S me 11 v1 (0 : Int32)).bind fun v3 =>
  if v3 = (9 : Int32) then
    (ck S 10 o).bind fun _ => (mX10_fails S me o).bind fun q46 =>
    if q46.1 = 0 ∨ q46.1 = 1 then some (q46.1, q46.2) else none
  else
    (gI S me 10 16 o).bind fun v6 =>
    (ck S 10 o).bind fun _ => (mX10_number S me o (v6 - (1 : Int32))).bind fun q8 =>
    if q8.1 = 0 then
      some ((0 : Int32), q8.2)
    else
      (gR S 10 19 o).bind fun v12 =>
      (gR S 10 19 o).bind fun v14 =>
      (aI S q8.2 11 v14 (0 : Int32)).bind fun v16 =>
      (gI S q8.2 10 14 o).bind fun v18 =>
      (uI S q8.2 v12 ((7 : Int32) + v16) v18).bind fun m21 =>
      (ck S 10 o).bind fun _ => (mX10_number S m21 o (60 : Int32)).bind fun q22 =>
      if q22.1 = 0 then
        some ((0 : Int32), q22.2)
      else
        (gR S 10 19 o).bind fun v26 =>
        (gR S 10 19 o).bind fun v28 =>
        (aI S q22.2 11 v28 (0 : Int32)).bind fun v30 =>
        (gI S q22.2 10 14 o).bind fun v32 =>
        (uI S q22.2 v26 ((16 : Int32) + v30) v32).bind fun m35 =>
        (gR S 10 19 o).bind fun v36 =>
        (aI S m35 11 v36 (0 : Int32)).bind fun v38 =>
        (uI S m35 v36 (0 : Int32) (v38 + (1 : Int32))).bind fun m41 =>
        (ck S 10 o).bind fun _ => (mX10_ends S m41 o).bind fun q42 =>
        if q42.1 = 0 ∨ q42.1 = 1 then some (q42.1, q42.2) else none
set_option maxRecDepth 100000 in
set_option maxHeartbeats 4000000 in
theorem kX10_readsReading (l : Launch) (D : va_G) (b : Nat) {S : SH} {me : ME} {o : Nat} {q : Int32 × ME} (hM : mX10_readsReading S me o = some q) : Ct l D b yX10_readsReading cX10_readsReading 1 (some .boolean) 4 83 0 0 [.ref (b + o)] S me S q.2 (some (.int q.1)) := by
  refine ct_of (own := RX10) (nm := "readsReading") (lv := [(0, .ref (b + o))]) (plainFor_of_name (by decide)) rfl rfl (Nat.le_of_ble_eq_true rfl) rfl ⟨rfl, rfl⟩ (fun X cx ex hL => ?_)
  unfold mX10_readsReading at hM
  refine ws_aload_n cx dX10_readsReading_0 rfl (j := 0) rfl ?_
  obtain ⟨v1, h2, hM⟩ := bnd hM
  refine ws_getR cx ffX10_38 h2 dX10_readsReading_1 ?_
  refine ws_iconst cx dX10_readsReading_4 (v := 0) (by decide) ?_
  obtain ⟨v3, h4, hM⟩ := bnd hM
  refine ws_iald cx h4 dX10_readsReading_5 ?_
  refine ws_bipush cx dX10_readsReading_6 (v := 9) (by decide) ?_
  refine ws_icmp_ne cx dX10_readsReading_8 (tgt := 16) (by decide) (fun c5 => ?_) (fun c5 => ?_)
  · have hM := if_f hM c5
    refine ws_aload_n cx dX10_readsReading_16 rfl (j := 0) rfl ?_
    refine ws_aload_n cx dX10_readsReading_17 rfl (j := 0) rfl ?_
    obtain ⟨v6, h7, hM⟩ := bnd hM
    refine ws_getI cx ffX10_84 h7 dX10_readsReading_18 ?_
    refine ws_iconst cx dX10_readsReading_21 (v := 1) (by decide) ?_
    refine ws_isub cx dX10_readsReading_22 ?_
    obtain ⟨_, h10, hM⟩ := bnd hM
    obtain ⟨q8, h9, hM⟩ := bnd hM
    refine ws_callV cx (rest := []) (st' := [.int q8.1]) (kX10_number l D b h9) mvX10_number (ck_k h10) (by decide) (q := (RX10, TX10, 31)) rfl seX10_number lkX10_87 rfl ⟨by decide, by decide⟩ (Nat.le_of_ble_eq_true rfl) ⟨rfl, rfl⟩ (Or.inl ⟨rfl, rfl⟩) rfl rfl dX10_readsReading_23 ?_
    refine ws_if_ne cx dX10_readsReading_26 (tgt := 31) (by decide) (fun c11 => ?_) (fun c11 => ?_)
    · have hM := if_f hM c11
      refine ws_aload_n cx dX10_readsReading_31 rfl (j := 0) rfl ?_
      obtain ⟨v12, h13, hM⟩ := bnd hM
      refine ws_getR cx ffX10_38 h13 dX10_readsReading_32 ?_
      refine ws_bipush cx dX10_readsReading_35 (v := 7) (by decide) ?_
      refine ws_aload_n cx dX10_readsReading_37 rfl (j := 0) rfl ?_
      obtain ⟨v14, h15, hM⟩ := bnd hM
      refine ws_getR cx ffX10_38 h15 dX10_readsReading_38 ?_
      refine ws_iconst cx dX10_readsReading_41 (v := 0) (by decide) ?_
      obtain ⟨v16, h17, hM⟩ := bnd hM
      refine ws_iald cx h17 dX10_readsReading_42 ?_
      refine ws_iadd cx dX10_readsReading_43 ?_
      refine ws_aload_n cx dX10_readsReading_44 rfl (j := 0) rfl ?_
      obtain ⟨v18, h19, hM⟩ := bnd hM
      refine ws_getI cx ffX10_72 h19 dX10_readsReading_45 ?_
      obtain ⟨m21, h20, hM⟩ := bnd hM
      refine ws_iast cx h20 dX10_readsReading_48 ?_
      refine ws_aload_n cx dX10_readsReading_49 rfl (j := 0) rfl ?_
      refine ws_bipush cx dX10_readsReading_50 (v := 60) (by decide) ?_
      obtain ⟨_, h24, hM⟩ := bnd hM
      obtain ⟨q22, h23, hM⟩ := bnd hM
      refine ws_callV cx (rest := []) (st' := [.int q22.1]) (kX10_number l D b h23) mvX10_number (ck_k h24) (by decide) (q := (RX10, TX10, 31)) rfl seX10_number lkX10_87 rfl ⟨by decide, by decide⟩ (Nat.le_of_ble_eq_true rfl) ⟨rfl, rfl⟩ (Or.inl ⟨rfl, rfl⟩) rfl rfl dX10_readsReading_52 ?_
      refine ws_if_ne cx dX10_readsReading_55 (tgt := 60) (by decide) (fun c25 => ?_) (fun c25 => ?_)
      · have hM := if_f hM c25
        refine ws_aload_n cx dX10_readsReading_60 rfl (j := 0) rfl ?_
        obtain ⟨v26, h27, hM⟩ := bnd hM
        refine ws_getR cx ffX10_38 h27 dX10_readsReading_61 ?_
        refine ws_bipush cx dX10_readsReading_64 (v := 16) (by decide) ?_
        refine ws_aload_n cx dX10_readsReading_66 rfl (j := 0) rfl ?_
        obtain ⟨v28, h29, hM⟩ := bnd hM
        refine ws_getR cx ffX10_38 h29 dX10_readsReading_67 ?_
        refine ws_iconst cx dX10_readsReading_70 (v := 0) (by decide) ?_
        obtain ⟨v30, h31, hM⟩ := bnd hM
        refine ws_iald cx h31 dX10_readsReading_71 ?_
        refine ws_iadd cx dX10_readsReading_72 ?_
        refine ws_aload_n cx dX10_readsReading_73 rfl (j := 0) rfl ?_
        obtain ⟨v32, h33, hM⟩ := bnd hM
        refine ws_getI cx ffX10_72 h33 dX10_readsReading_74 ?_
        obtain ⟨m35, h34, hM⟩ := bnd hM
        refine ws_iast cx h34 dX10_readsReading_77 ?_
        refine ws_aload_n cx dX10_readsReading_78 rfl (j := 0) rfl ?_
        obtain ⟨v36, h37, hM⟩ := bnd hM
        refine ws_getR cx ffX10_38 h37 dX10_readsReading_79 ?_
        refine ws_iconst cx dX10_readsReading_82 (v := 0) (by decide) ?_
        refine ws_dup2 cx dX10_readsReading_83 rfl rfl ?_
        obtain ⟨v38, h39, hM⟩ := bnd hM
        refine ws_iald cx h39 dX10_readsReading_84 ?_
        refine ws_iconst cx dX10_readsReading_85 (v := 1) (by decide) ?_
        refine ws_iadd cx dX10_readsReading_86 ?_
        obtain ⟨m41, h40, hM⟩ := bnd hM
        refine ws_iast cx h40 dX10_readsReading_87 ?_
        refine ws_aload_n cx dX10_readsReading_88 rfl (j := 0) rfl ?_
        obtain ⟨_, h44, hM⟩ := bnd hM
        obtain ⟨q42, h43, hM⟩ := bnd hM
        refine ws_callV cx (rest := []) (st' := [.int q42.1]) (kX10_ends l D b h43) mvX10_ends (ck_k h44) (by decide) (q := (RX10, TX10, 31)) rfl seX10_ends lkX10_95 rfl ⟨by decide, by decide⟩ (Nat.le_of_ble_eq_true rfl) ⟨rfl, rfl⟩ (Or.inl ⟨rfl, rfl⟩) rfl rfl dX10_readsReading_89 ?_
        obtain ⟨h45, hM⟩ := ite_o hM
        exact ws_zretM cx ex h45 hM dX10_readsReading_92
      · have hM := if_t hM c25
        refine ws_iconst cx dX10_readsReading_58 (v := 0) (by decide) ?_
        exact ws_zretM cx ex (by decide) hM dX10_readsReading_59
    · have hM := if_t hM c11
      refine ws_iconst cx dX10_readsReading_29 (v := 0) (by decide) ?_
      exact ws_zretM cx ex (by decide) hM dX10_readsReading_30
  · have hM := if_t hM c5
    refine ws_aload_n cx dX10_readsReading_11 rfl (j := 0) rfl ?_
    obtain ⟨_, h48, hM⟩ := bnd hM
    obtain ⟨q46, h47, hM⟩ := bnd hM
    refine ws_callV cx (rest := []) (st' := [.int q46.1]) (kX10_fails l D b h47) mvX10_fails (ck_k h48) (by decide) (q := (RX10, TX10, 31)) rfl seX10_fails lkX10_81 rfl ⟨by decide, by decide⟩ (Nat.le_of_ble_eq_true rfl) ⟨rfl, rfl⟩ (Or.inl ⟨rfl, rfl⟩) rfl rfl dX10_readsReading_12 ?_
    obtain ⟨h49, hM⟩ := ite_o hM
    exact ws_zretM cx ex h49 hM dX10_readsReading_15

def mX10_field_j93 (S : SH) (o : Nat) (me : ME) : Option (Int32 × ME) :=
  (gI S me 10 15 o).bind fun v1 =>
  some ((-10 : Int32) - v1, me)
def mX10_field_j88 (S : SH) (o : Nat) (k37 : (ME × Int32 → Option (Int32 × ME))) (me : ME) (x1 : Int32) (y0 : Int32) : Option (Int32 × ME) :=
  if y0 = 0 then
    mX10_field_j93 S o me
  else
    (ck S 10 o).bind fun _ => (mX10_blanks S me o).bind fun q4 =>
    k37 (q4.2, x1 + (1 : Int32))
def mX10_field_j188 (S : SH) (o : Nat) (me : ME) (x1 : Int32) : Option (Int32 × ME) :=
  (sI S me 10 4 o (0 : Int32)).bind fun m8 =>
  (gR S 10 7 o).bind fun v9 =>
  (uZ S m8 v9 (0 : Int32) (0 : Int32)).bind fun m12 =>
  (gR S 10 7 o).bind fun v13 =>
  (uZ S m12 v13 (1 : Int32) (0 : Int32)).bind fun m16 =>
  some (x1, m16)
def mX10_field_L164 (S : SH) (o : Nat) (k164 : (ME × Int32 × Int32 → Option (Int32 × ME))) : ME × Int32 × Int32 → Option (Int32 × ME)
  | (me, x1, x2) =>
    if (25 : Int32) ≤ x2 then
      mX10_field_j188 S o me x1
    else
      (gR S 10 3 o).bind fun v18 =>
      (gR S 10 19 o).bind fun v20 =>
      (aI S me 11 v20 x2).bind fun v22 =>
      (uI S me v18 x2 v22).bind fun m25 =>
      k164 (m25, x1, x2 + (1 : Int32))
def mX10_field_j162 (S : SH) (o : Nat) (me : ME) (x1 : Int32) : Option (Int32 × ME) :=
  lpn (mX10_field_L164 S o) lpF (me, x1, (0 : Int32))
def mX10_field_L126 (S : SH) (o : Nat) (k126 : (ME × Int32 × Int32 → Option (Int32 × ME))) : ME × Int32 × Int32 → Option (Int32 × ME)
  | (me, x1, x2) =>
    if (6 : Int32) ≤ x2 then
      mX10_field_j162 S o me x1
    else
      (gR S 10 1 o).bind fun v27 =>
      (gR S 10 17 o).bind fun v29 =>
      (aI S me 11 v29 x2).bind fun v31 =>
      (uI S me v27 x2 v31).bind fun m34 =>
      (gR S 10 2 o).bind fun v35 =>
      (gR S 10 18 o).bind fun v37 =>
      (aI S m34 11 v37 x2).bind fun v39 =>
      (uI S m34 v35 x2 v39).bind fun m42 =>
      k126 (m42, x1, x2 + (1 : Int32))
def mX10_field_j111 (S : SH) (o : Nat) (me : ME) (x1 : Int32) : Option (Int32 × ME) :=
  (sI S me 10 9 o (0 : Int32)).bind fun m44 =>
  (gI S m44 10 16 o).bind fun v45 =>
  (sI S m44 10 0 o v45).bind fun m48 =>
  lpn (mX10_field_L126 S o) lpF (m48, x1, (0 : Int32))
def mX10_field_L37 (S : SH) (o : Nat) (k37 : (ME × Int32 → Option (Int32 × ME))) : ME × Int32 → Option (Int32 × ME)
  | (me, x1) =>
    (gI S me 10 11 o).bind fun v49 =>
    (gI S me 10 9 o).bind fun v51 =>
    if v51 ≤ v49 then
      mX10_field_j111 S o me x1
    else
      (ck S 10 o).bind fun _ => (mX10_next S me o).bind fun q54 =>
      (gI S q54.2 10 13 o).bind fun v57 =>
      if v57 = (115 : Int32) then
        (ck S 10 o).bind fun _ => (mX10_readsStation S q54.2 o).bind fun q69 =>
        mX10_field_j88 S o k37 q69.2 x1 q69.1
      else
        (gI S q54.2 10 13 o).bind fun v60 =>
        if v60 = (104 : Int32) then
          (ck S 10 o).bind fun _ => (mX10_readsReading S q54.2 o).bind fun q66 =>
          mX10_field_j88 S o k37 q66.2 x1 q66.1
        else
          (ck S 10 o).bind fun _ => (mX10_fails S q54.2 o).bind fun q63 =>
          mX10_field_j88 S o k37 q63.2 x1 q63.1
def mX10_field_j31 (S : SH) (o : Nat) (me : ME) : Option (Int32 × ME) :=
  (ck S 10 o).bind fun _ => (mX10_blanks S me o).bind fun q72 =>
  lpn (mX10_field_L37 S o) lpF (q72.2, (0 : Int32))
def mX10_field_L12 (S : SH) (o : Nat) (k12 : (ME × Int32 → Option (Int32 × ME))) : ME × Int32 → Option (Int32 × ME)
  | (me, x1) =>
    if (25 : Int32) ≤ x1 then
      mX10_field_j31 S o me
    else
      (gR S 10 19 o).bind fun v76 =>
      (uI S me v76 x1 (0 : Int32)).bind fun m79 =>
      k12 (m79, x1 + (1 : Int32))
def mX10_field (S : SH) (me : ME) (o : Nat) : Option (Int32 × ME) :=
  (sI S me 10 11 o (0 : Int32)).bind fun m81 =>
  (sI S m81 10 16 o (0 : Int32)).bind fun m83 =>
  lpn (mX10_field_L12 S o) lpF (m83, (0 : Int32))
set_option maxRecDepth 100000 in
set_option maxHeartbeats 4000000 in
theorem kX10_field (l : Launch) (D : va_G) (b : Nat) {S : SH} {me : ME} {o : Nat} {q : Int32 × ME} (hM : mX10_field S me o = some q) : Ct l D b yX10_field cX10_field 3 (some .int) 5 103 0 0 [.ref (b + o)] S me S q.2 (some (.int q.1)) := by
  refine ct_of (own := RX10) (nm := "field") (lv := [(0, .ref (b + o))]) (plainFor_of_name (by decide)) rfl rfl (Nat.le_of_ble_eq_true rfl) rfl ⟨rfl, rfl⟩ (fun X cx ex hL => ?_)
  have J93 : ∀ (me : ME), mX10_field_j93 S o me = some q → WS X b 3 S me 93 [(0, .ref (b + o))] [] := by
    intro  me hM
    unfold mX10_field_j93 at hM
    refine ws_bipush cx dX10_field_93 (v := -10) (by decide) ?_
    refine ws_aload_n cx dX10_field_95 rfl (j := 0) rfl ?_
    obtain ⟨v1, h2, hM⟩ := bnd hM
    refine ws_getI cx ffX10_75 h2 dX10_field_96 ?_
    refine ws_isub cx dX10_field_99 ?_
    exact ws_iretM cx ex hM dX10_field_100
  have J88 : ∀ (k37 : (ME × Int32 → Option (Int32 × ME))), (∀ (me : ME) (x1 : Int32), k37 (me, x1) = some q → WS X b 3 S me 37 [(0, .ref (b + o)), (1, .int x1)] []) → ∀ (me : ME) (x1 : Int32) (y0 : Int32), mX10_field_j88 S o k37 me x1 y0 = some q → WS X b 3 S me 88 [(0, .ref (b + o)), (1, .int x1)] [.int y0] := by
    intro k37 hk37 me x1 y0 hM
    unfold mX10_field_j88 at hM
    refine ws_istore_n cx dX10_field_88 rfl (by decide) (lv' := [(2, .int y0), (0, .ref (b + o)), (1, .int x1)]) rfl ?_
    refine ws_iload_n cx dX10_field_89 rfl (j := 0) rfl ?_
    refine ws_if_ne cx dX10_field_90 (tgt := 101) (by decide) (fun c3 => ?_) (fun c3 => ?_)
    · have hM := if_f hM c3
      refine ws_iinc cx dX10_field_101 (j := 2) rfl (v := x1 + (1 : Int32)) rfl (by decide) (lv' := [(1, .int (x1 + (1 : Int32))), (2, .int y0), (0, .ref (b + o))]) rfl ?_
      refine ws_aload_n cx dX10_field_104 rfl (j := 2) rfl ?_
      obtain ⟨_, h6, hM⟩ := bnd hM
      obtain ⟨q4, h5, hM⟩ := bnd hM
      refine ws_callV cx (rest := []) (st' := []) (kX10_blanks l D b h5) mvX10_blanks (ck_k h6) (by decide) (q := (RX10, TX10, 31)) rfl seX10_blanks lkX10_59 rfl ⟨by decide, by decide⟩ (Nat.le_of_ble_eq_true rfl) ⟨rfl, rfl⟩ (Or.inl ⟨rfl, rfl⟩) rfl rfl dX10_field_105 ?_
      refine ws_goto cx dX10_field_108 (tgt := 37) (by decide) ?_
      refine ws_sub [2, 0] (lv' := [(0, .ref (b + o)), (1, .int (x1 + (1 : Int32)))]) rfl ?_
      exact hk37 _ _ hM
    · have hM := if_t hM c3
      refine ws_sub [1] (lv' := [(0, .ref (b + o))]) rfl ?_
      exact J93 _ hM
  have J188 : ∀ (me : ME) (x1 : Int32), mX10_field_j188 S o me x1 = some q → WS X b 3 S me 188 [(0, .ref (b + o)), (1, .int x1)] [] := by
    intro  me x1 hM
    unfold mX10_field_j188 at hM
    refine ws_aload_n cx dX10_field_188 rfl (j := 0) rfl ?_
    refine ws_iconst cx dX10_field_189 (v := 0) (by decide) ?_
    obtain ⟨m8, h7, hM⟩ := bnd hM
    refine ws_putI cx ffX10_107 h7 dX10_field_190 ?_
    refine ws_aload_n cx dX10_field_193 rfl (j := 0) rfl ?_
    obtain ⟨v9, h10, hM⟩ := bnd hM
    refine ws_getR cx ffX10_22 h10 dX10_field_194 ?_
    refine ws_iconst cx dX10_field_197 (v := 0) (by decide) ?_
    refine ws_iconst cx dX10_field_198 (v := 0) (by decide) ?_
    obtain ⟨m12, h11, hM⟩ := bnd hM
    refine ws_zast cx h11 dX10_field_199 ?_
    refine ws_aload_n cx dX10_field_200 rfl (j := 0) rfl ?_
    obtain ⟨v13, h14, hM⟩ := bnd hM
    refine ws_getR cx ffX10_22 h14 dX10_field_201 ?_
    refine ws_iconst cx dX10_field_204 (v := 1) (by decide) ?_
    refine ws_iconst cx dX10_field_205 (v := 0) (by decide) ?_
    obtain ⟨m16, h15, hM⟩ := bnd hM
    refine ws_zast cx h15 dX10_field_206 ?_
    refine ws_iload_n cx dX10_field_207 rfl (j := 1) rfl ?_
    exact ws_iretM cx ex hM dX10_field_208
  have L164 : ∀ (n : Nat) (me : ME) (x1 : Int32) (x2 : Int32), lpn (mX10_field_L164 S o) n (me, x1, x2) = some q → WS X b 3 S me 164 [(0, .ref (b + o)), (1, .int x1), (2, .int x2)] [] := by
    intro  n
    induction n with
    | zero => intro me x1 x2 hM; exact absurd hM (by intro h; cases h)
    | succ n ih =>
      intro me x1 x2 hM
      have hM : mX10_field_L164 S o (lpn (mX10_field_L164 S o) n) (me, x1, x2) = some q := hM
      unfold mX10_field_L164 at hM
      refine ws_iload_n cx dX10_field_164 rfl (j := 2) rfl ?_
      refine ws_bipush cx dX10_field_165 (v := 25) (by decide) ?_
      refine ws_icmp_ge cx dX10_field_167 (tgt := 188) (by decide) (fun c17 => ?_) (fun c17 => ?_)
      · have hM := if_t hM c17
        refine ws_sub [0, 1] (lv' := [(0, .ref (b + o)), (1, .int x1)]) rfl ?_
        exact J188 _ _ hM
      · have hM := if_f hM c17
        refine ws_aload_n cx dX10_field_170 rfl (j := 0) rfl ?_
        obtain ⟨v18, h19, hM⟩ := bnd hM
        refine ws_getR cx ffX10_16 h19 dX10_field_171 ?_
        refine ws_iload_n cx dX10_field_174 rfl (j := 2) rfl ?_
        refine ws_aload_n cx dX10_field_175 rfl (j := 0) rfl ?_
        obtain ⟨v20, h21, hM⟩ := bnd hM
        refine ws_getR cx ffX10_38 h21 dX10_field_176 ?_
        refine ws_iload_n cx dX10_field_179 rfl (j := 2) rfl ?_
        obtain ⟨v22, h23, hM⟩ := bnd hM
        refine ws_iald cx h23 dX10_field_180 ?_
        obtain ⟨m25, h24, hM⟩ := bnd hM
        refine ws_iast cx h24 dX10_field_181 ?_
        refine ws_iinc cx dX10_field_182 (j := 2) rfl (v := x2 + (1 : Int32)) rfl (by decide) (lv' := [(2, .int (x2 + (1 : Int32))), (0, .ref (b + o)), (1, .int x1)]) rfl ?_
        refine ws_goto cx dX10_field_185 (tgt := 164) (by decide) ?_
        refine ws_sub [1, 2, 0] (lv' := [(0, .ref (b + o)), (1, .int x1), (2, .int (x2 + (1 : Int32)))]) rfl ?_
        exact ih _ _ _ hM
  have J162 : ∀ (me : ME) (x1 : Int32), mX10_field_j162 S o me x1 = some q → WS X b 3 S me 162 [(0, .ref (b + o)), (1, .int x1)] [] := by
    intro  me x1 hM
    unfold mX10_field_j162 at hM
    refine ws_iconst cx dX10_field_162 (v := 0) (by decide) ?_
    refine ws_istore_n cx dX10_field_163 rfl (by decide) (lv' := [(2, .int (0 : Int32)), (0, .ref (b + o)), (1, .int x1)]) rfl ?_
    refine ws_sub [1, 2, 0] (lv' := [(0, .ref (b + o)), (1, .int x1), (2, .int (0 : Int32))]) rfl ?_
    exact L164 _ _ _ _ hM
  have L126 : ∀ (n : Nat) (me : ME) (x1 : Int32) (x2 : Int32), lpn (mX10_field_L126 S o) n (me, x1, x2) = some q → WS X b 3 S me 126 [(0, .ref (b + o)), (1, .int x1), (2, .int x2)] [] := by
    intro  n
    induction n with
    | zero => intro me x1 x2 hM; exact absurd hM (by intro h; cases h)
    | succ n ih =>
      intro me x1 x2 hM
      have hM : mX10_field_L126 S o (lpn (mX10_field_L126 S o) n) (me, x1, x2) = some q := hM
      unfold mX10_field_L126 at hM
      refine ws_iload_n cx dX10_field_126 rfl (j := 2) rfl ?_
      refine ws_bipush cx dX10_field_127 (v := 6) (by decide) ?_
      refine ws_icmp_ge cx dX10_field_129 (tgt := 162) (by decide) (fun c26 => ?_) (fun c26 => ?_)
      · have hM := if_t hM c26
        refine ws_sub [0, 1] (lv' := [(0, .ref (b + o)), (1, .int x1)]) rfl ?_
        exact J162 _ _ hM
      · have hM := if_f hM c26
        refine ws_aload_n cx dX10_field_132 rfl (j := 0) rfl ?_
        obtain ⟨v27, h28, hM⟩ := bnd hM
        refine ws_getR cx ffX10_7 h28 dX10_field_133 ?_
        refine ws_iload_n cx dX10_field_136 rfl (j := 2) rfl ?_
        refine ws_aload_n cx dX10_field_137 rfl (j := 0) rfl ?_
        obtain ⟨v29, h30, hM⟩ := bnd hM
        refine ws_getR cx ffX10_32 h30 dX10_field_138 ?_
        refine ws_iload_n cx dX10_field_141 rfl (j := 2) rfl ?_
        obtain ⟨v31, h32, hM⟩ := bnd hM
        refine ws_iald cx h32 dX10_field_142 ?_
        obtain ⟨m34, h33, hM⟩ := bnd hM
        refine ws_iast cx h33 dX10_field_143 ?_
        refine ws_aload_n cx dX10_field_144 rfl (j := 0) rfl ?_
        obtain ⟨v35, h36, hM⟩ := bnd hM
        refine ws_getR cx ffX10_13 h36 dX10_field_145 ?_
        refine ws_iload_n cx dX10_field_148 rfl (j := 2) rfl ?_
        refine ws_aload_n cx dX10_field_149 rfl (j := 0) rfl ?_
        obtain ⟨v37, h38, hM⟩ := bnd hM
        refine ws_getR cx ffX10_35 h38 dX10_field_150 ?_
        refine ws_iload_n cx dX10_field_153 rfl (j := 2) rfl ?_
        obtain ⟨v39, h40, hM⟩ := bnd hM
        refine ws_iald cx h40 dX10_field_154 ?_
        obtain ⟨m42, h41, hM⟩ := bnd hM
        refine ws_iast cx h41 dX10_field_155 ?_
        refine ws_iinc cx dX10_field_156 (j := 2) rfl (v := x2 + (1 : Int32)) rfl (by decide) (lv' := [(2, .int (x2 + (1 : Int32))), (0, .ref (b + o)), (1, .int x1)]) rfl ?_
        refine ws_goto cx dX10_field_159 (tgt := 126) (by decide) ?_
        refine ws_sub [1, 2, 0] (lv' := [(0, .ref (b + o)), (1, .int x1), (2, .int (x2 + (1 : Int32)))]) rfl ?_
        exact ih _ _ _ hM
  have J111 : ∀ (me : ME) (x1 : Int32), mX10_field_j111 S o me x1 = some q → WS X b 3 S me 111 [(0, .ref (b + o)), (1, .int x1)] [] := by
    intro  me x1 hM
    unfold mX10_field_j111 at hM
    refine ws_aload_n cx dX10_field_111 rfl (j := 0) rfl ?_
    refine ws_iconst cx dX10_field_112 (v := 0) (by decide) ?_
    obtain ⟨m44, h43, hM⟩ := bnd hM
    refine ws_putI cx ffX10_52 h43 dX10_field_113 ?_
    refine ws_aload_n cx dX10_field_116 rfl (j := 0) rfl ?_
    refine ws_aload_n cx dX10_field_117 rfl (j := 0) rfl ?_
    obtain ⟨v45, h46, hM⟩ := bnd hM
    refine ws_getI cx ffX10_84 h46 dX10_field_118 ?_
    obtain ⟨m48, h47, hM⟩ := bnd hM
    refine ws_putI cx ffX10_104 h47 dX10_field_121 ?_
    refine ws_iconst cx dX10_field_124 (v := 0) (by decide) ?_
    refine ws_istore_n cx dX10_field_125 rfl (by decide) (lv' := [(2, .int (0 : Int32)), (0, .ref (b + o)), (1, .int x1)]) rfl ?_
    refine ws_sub [1, 2, 0] (lv' := [(0, .ref (b + o)), (1, .int x1), (2, .int (0 : Int32))]) rfl ?_
    exact L126 _ _ _ _ hM
  have L37 : ∀ (n : Nat) (me : ME) (x1 : Int32), lpn (mX10_field_L37 S o) n (me, x1) = some q → WS X b 3 S me 37 [(0, .ref (b + o)), (1, .int x1)] [] := by
    intro  n
    induction n with
    | zero => intro me x1 hM; exact absurd hM (by intro h; cases h)
    | succ n ih =>
      intro me x1 hM
      have hM : mX10_field_L37 S o (lpn (mX10_field_L37 S o) n) (me, x1) = some q := hM
      unfold mX10_field_L37 at hM
      refine ws_aload_n cx dX10_field_37 rfl (j := 0) rfl ?_
      obtain ⟨v49, h50, hM⟩ := bnd hM
      refine ws_getI cx ffX10_56 h50 dX10_field_38 ?_
      refine ws_aload_n cx dX10_field_41 rfl (j := 0) rfl ?_
      obtain ⟨v51, h52, hM⟩ := bnd hM
      refine ws_getI cx ffX10_52 h52 dX10_field_42 ?_
      refine ws_icmp_ge cx dX10_field_45 (tgt := 111) (by decide) (fun c53 => ?_) (fun c53 => ?_)
      · have hM := if_t hM c53
        refine ws_sub [0, 1] (lv' := [(0, .ref (b + o)), (1, .int x1)]) rfl ?_
        exact J111 _ _ hM
      · have hM := if_f hM c53
        refine ws_aload_n cx dX10_field_48 rfl (j := 0) rfl ?_
        obtain ⟨_, h56, hM⟩ := bnd hM
        obtain ⟨q54, h55, hM⟩ := bnd hM
        refine ws_callV cx (rest := []) (st' := []) (kX10_next l D b h55) mvX10_next (ck_k h56) (by decide) (q := (RX10, TX10, 31)) rfl seX10_next lkX10_78 rfl ⟨by decide, by decide⟩ (Nat.le_of_ble_eq_true rfl) ⟨rfl, rfl⟩ (Or.inl ⟨rfl, rfl⟩) rfl rfl dX10_field_49 ?_
        refine ws_aload_n cx dX10_field_52 rfl (j := 0) rfl ?_
        obtain ⟨v57, h58, hM⟩ := bnd hM
        refine ws_getI cx ffX10_65 h58 dX10_field_53 ?_
        refine ws_bipush cx dX10_field_56 (v := 115) (by decide) ?_
        refine ws_icmp_ne cx dX10_field_58 (tgt := 68) (by decide) (fun c59 => ?_) (fun c59 => ?_)
        · have hM := if_f hM c59
          refine ws_aload_n cx dX10_field_68 rfl (j := 0) rfl ?_
          obtain ⟨v60, h61, hM⟩ := bnd hM
          refine ws_getI cx ffX10_65 h61 dX10_field_69 ?_
          refine ws_bipush cx dX10_field_72 (v := 104) (by decide) ?_
          refine ws_icmp_ne cx dX10_field_74 (tgt := 84) (by decide) (fun c62 => ?_) (fun c62 => ?_)
          · have hM := if_f hM c62
            refine ws_aload_n cx dX10_field_84 rfl (j := 0) rfl ?_
            obtain ⟨_, h65, hM⟩ := bnd hM
            obtain ⟨q63, h64, hM⟩ := bnd hM
            refine ws_callV cx (rest := []) (st' := [.int q63.1]) (kX10_fails l D b h64) mvX10_fails (ck_k h65) (by decide) (q := (RX10, TX10, 31)) rfl seX10_fails lkX10_81 rfl ⟨by decide, by decide⟩ (Nat.le_of_ble_eq_true rfl) ⟨rfl, rfl⟩ (Or.inl ⟨rfl, rfl⟩) rfl rfl dX10_field_85 ?_
            refine ws_sub [0, 1] (lv' := [(0, .ref (b + o)), (1, .int x1)]) rfl ?_
            exact J88 _ ih _ _ _ hM
          · have hM := if_t hM c62
            refine ws_aload_n cx dX10_field_77 rfl (j := 0) rfl ?_
            obtain ⟨_, h68, hM⟩ := bnd hM
            obtain ⟨q66, h67, hM⟩ := bnd hM
            refine ws_callV cx (rest := []) (st' := [.int q66.1]) (kX10_readsReading l D b h67) mvX10_readsReading (ck_k h68) (by decide) (q := (RX10, TX10, 31)) rfl seX10_readsReading lkX10_101 rfl ⟨by decide, by decide⟩ (Nat.le_of_ble_eq_true rfl) ⟨rfl, rfl⟩ (Or.inl ⟨rfl, rfl⟩) rfl rfl dX10_field_78 ?_
            refine ws_goto cx dX10_field_81 (tgt := 88) (by decide) ?_
            refine ws_sub [0, 1] (lv' := [(0, .ref (b + o)), (1, .int x1)]) rfl ?_
            exact J88 _ ih _ _ _ hM
        · have hM := if_t hM c59
          refine ws_aload_n cx dX10_field_61 rfl (j := 0) rfl ?_
          obtain ⟨_, h71, hM⟩ := bnd hM
          obtain ⟨q69, h70, hM⟩ := bnd hM
          refine ws_callV cx (rest := []) (st' := [.int q69.1]) (kX10_readsStation l D b h70) mvX10_readsStation (ck_k h71) (by decide) (q := (RX10, TX10, 31)) rfl seX10_readsStation lkX10_98 rfl ⟨by decide, by decide⟩ (Nat.le_of_ble_eq_true rfl) ⟨rfl, rfl⟩ (Or.inl ⟨rfl, rfl⟩) rfl rfl dX10_field_62 ?_
          refine ws_goto cx dX10_field_65 (tgt := 88) (by decide) ?_
          refine ws_sub [0, 1] (lv' := [(0, .ref (b + o)), (1, .int x1)]) rfl ?_
          exact J88 _ ih _ _ _ hM
  have J31 : ∀ (me : ME), mX10_field_j31 S o me = some q → WS X b 3 S me 31 [(0, .ref (b + o))] [] := by
    intro  me hM
    unfold mX10_field_j31 at hM
    refine ws_iconst cx dX10_field_31 (v := 0) (by decide) ?_
    refine ws_istore_n cx dX10_field_32 rfl (by decide) (lv' := [(1, .int (0 : Int32)), (0, .ref (b + o))]) rfl ?_
    refine ws_aload_n cx dX10_field_33 rfl (j := 1) rfl ?_
    obtain ⟨_, h74, hM⟩ := bnd hM
    obtain ⟨q72, h73, hM⟩ := bnd hM
    refine ws_callV cx (rest := []) (st' := []) (kX10_blanks l D b h73) mvX10_blanks (ck_k h74) (by decide) (q := (RX10, TX10, 31)) rfl seX10_blanks lkX10_59 rfl ⟨by decide, by decide⟩ (Nat.le_of_ble_eq_true rfl) ⟨rfl, rfl⟩ (Or.inl ⟨rfl, rfl⟩) rfl rfl dX10_field_34 ?_
    refine ws_sub [1, 0] (lv' := [(0, .ref (b + o)), (1, .int (0 : Int32))]) rfl ?_
    exact L37 _ _ _ hM
  have L12 : ∀ (n : Nat) (me : ME) (x1 : Int32), lpn (mX10_field_L12 S o) n (me, x1) = some q → WS X b 3 S me 12 [(0, .ref (b + o)), (1, .int x1)] [] := by
    intro  n
    induction n with
    | zero => intro me x1 hM; exact absurd hM (by intro h; cases h)
    | succ n ih =>
      intro me x1 hM
      have hM : mX10_field_L12 S o (lpn (mX10_field_L12 S o) n) (me, x1) = some q := hM
      unfold mX10_field_L12 at hM
      refine ws_iload_n cx dX10_field_12 rfl (j := 1) rfl ?_
      refine ws_bipush cx dX10_field_13 (v := 25) (by decide) ?_
      refine ws_icmp_ge cx dX10_field_15 (tgt := 31) (by decide) (fun c75 => ?_) (fun c75 => ?_)
      · have hM := if_t hM c75
        refine ws_sub [0] (lv' := [(0, .ref (b + o))]) rfl ?_
        exact J31 _ hM
      · have hM := if_f hM c75
        refine ws_aload_n cx dX10_field_18 rfl (j := 0) rfl ?_
        obtain ⟨v76, h77, hM⟩ := bnd hM
        refine ws_getR cx ffX10_38 h77 dX10_field_19 ?_
        refine ws_iload_n cx dX10_field_22 rfl (j := 1) rfl ?_
        refine ws_iconst cx dX10_field_23 (v := 0) (by decide) ?_
        obtain ⟨m79, h78, hM⟩ := bnd hM
        refine ws_iast cx h78 dX10_field_24 ?_
        refine ws_iinc cx dX10_field_25 (j := 1) rfl (v := x1 + (1 : Int32)) rfl (by decide) (lv' := [(1, .int (x1 + (1 : Int32))), (0, .ref (b + o))]) rfl ?_
        refine ws_goto cx dX10_field_28 (tgt := 12) (by decide) ?_
        refine ws_sub [1, 0] (lv' := [(0, .ref (b + o)), (1, .int (x1 + (1 : Int32)))]) rfl ?_
        exact ih _ _ hM
  unfold mX10_field at hM
  refine ws_aload_n cx dX10_field_0 rfl (j := 0) rfl ?_
  refine ws_iconst cx dX10_field_1 (v := 0) (by decide) ?_
  obtain ⟨m81, h80, hM⟩ := bnd hM
  refine ws_putI cx ffX10_56 h80 dX10_field_2 ?_
  refine ws_aload_n cx dX10_field_5 rfl (j := 0) rfl ?_
  refine ws_iconst cx dX10_field_6 (v := 0) (by decide) ?_
  obtain ⟨m83, h82, hM⟩ := bnd hM
  refine ws_putI cx ffX10_84 h82 dX10_field_7 ?_
  refine ws_iconst cx dX10_field_10 (v := 0) (by decide) ?_
  refine ws_istore_n cx dX10_field_11 rfl (by decide) (lv' := [(1, .int (0 : Int32)), (0, .ref (b + o))]) rfl ?_
  refine ws_sub [1, 0] (lv' := [(0, .ref (b + o)), (1, .int (0 : Int32))]) rfl ?_
  exact L12 _ _ _ hM

def mX10_isStation (S : SH) (me : ME) (o : Nat) (a0 : Int32) : Option (Int32 × ME) :=
  (gI S me 10 0 o).bind fun v1 =>
  (mX10_in S me a0 (0 : Int32) (v1 - (1 : Int32))).bind fun q3 =>
  if q3.1 = 0 ∨ q3.1 = 1 then some (q3.1, q3.2) else none
set_option maxRecDepth 100000 in
set_option maxHeartbeats 4000000 in
theorem kX10_isStation (l : Launch) (D : va_G) (b : Nat) {S : SH} {me : ME} {o : Nat} {a0 : Int32} {q : Int32 × ME} (hM : mX10_isStation S me o a0 = some q) : Ct l D b yX10_isStation cX10_isStation 2 (some .boolean) 1 22 0 0 [.ref (b + o), .int a0] S me S q.2 (some (.int q.1)) := by
  refine ct_of (own := RX10) (nm := "isStation") (lv := [(0, .ref (b + o)), (1, .int a0)]) (plainFor_of_name (by decide)) rfl rfl (Nat.le_of_ble_eq_true rfl) rfl ⟨rfl, rfl⟩ (fun X cx ex hL => ?_)
  unfold mX10_isStation at hM
  refine ws_iload_n cx dX10_isStation_0 rfl (j := 1) rfl ?_
  refine ws_iconst cx dX10_isStation_1 (v := 0) (by decide) ?_
  refine ws_aload_n cx dX10_isStation_2 rfl (j := 0) rfl ?_
  obtain ⟨v1, h2, hM⟩ := bnd hM
  refine ws_getI cx ffX10_104 h2 dX10_isStation_3 ?_
  refine ws_iconst cx dX10_isStation_6 (v := 1) (by decide) ?_
  refine ws_isub cx dX10_isStation_7 ?_
  obtain ⟨q3, h4, hM⟩ := bnd hM
  refine ws_callS cx (rest := []) (st' := [.int q3.1]) (kX10_in l D b h4) mvX10_in lkX10_48 rfl ⟨by decide, by decide⟩ (Nat.le_of_ble_eq_true rfl) ⟨rfl, rfl⟩ (Or.inl ⟨rfl, rfl⟩) rfl rfl dX10_isStation_8 ?_
  obtain ⟨h5, hM⟩ := ite_o hM
  exact ws_zretM cx ex h5 hM dX10_isStation_11

def mX10_station_j17 (S : SH) (o : Nat) (a0 : Int32) (a1 : Int32) (me : ME) : Option (Int32 × ME) :=
  some ((-1 : Int32), me)
def mX10_station_j54 (S : SH) (o : Nat) (a0 : Int32) (a1 : Int32) (me : ME) (y0 : Int32) : Option (Int32 × ME) :=
  some (y0, me)
def mX10_station (S : SH) (me : ME) (o : Nat) (a0 : Int32) (a1 : Int32) : Option (Int32 × ME) :=
  (ck S 10 o).bind fun _ => (mX10_isStation S me o a0).bind fun q1 =>
  if q1.1 = 0 then
    mX10_station_j17 S o a0 a1 q1.2
  else
    (mX10_in S q1.2 a1 (0 : Int32) (2 : Int32)).bind fun q5 =>
    if q5.1 = 0 then
      mX10_station_j17 S o a0 a1 q5.2
    else
      if a1 = 0 then
        (gR S 10 1 o).bind fun v18 =>
        (aI S q5.2 11 v18 a0).bind fun v20 =>
        mX10_station_j54 S o a0 a1 q5.2 v20
      else
        if a1 = (1 : Int32) then
          (gR S 10 2 o).bind fun v14 =>
          (aI S q5.2 11 v14 a0).bind fun v16 =>
          mX10_station_j54 S o a0 a1 q5.2 v16
        else
          (gR S 10 3 o).bind fun v10 =>
          (aI S q5.2 11 v10 ((1 : Int32) + a0)).bind fun v12 =>
          mX10_station_j54 S o a0 a1 q5.2 v12
set_option maxRecDepth 100000 in
set_option maxHeartbeats 4000000 in
theorem kX10_station (l : Launch) (D : va_G) (b : Nat) {S : SH} {me : ME} {o : Nat} {a0 : Int32} {a1 : Int32} {q : Int32 × ME} (hM : mX10_station S me o a0 a1 = some q) : Ct l D b yX10_station cX10_station 3 (some .int) 2 43 0 0 [.ref (b + o), .int a0, .int a1] S me S q.2 (some (.int q.1)) := by
  refine ct_of (own := RX10) (nm := "station") (lv := [(0, .ref (b + o)), (1, .int a0), (2, .int a1)]) (plainFor_of_name (by decide)) rfl rfl (Nat.le_of_ble_eq_true rfl) rfl ⟨rfl, rfl⟩ (fun X cx ex hL => ?_)
  have J17 : ∀ (me : ME), mX10_station_j17 S o a0 a1 me = some q → WS X b 3 S me 17 [] [] := by
    intro  me hM
    unfold mX10_station_j17 at hM
    refine ws_iconst cx dX10_station_17 (v := -1) (by decide) ?_
    exact ws_iretM cx ex hM dX10_station_18
  have J54 : ∀ (me : ME) (y0 : Int32), mX10_station_j54 S o a0 a1 me y0 = some q → WS X b 3 S me 54 [] [.int y0] := by
    intro  me y0 hM
    unfold mX10_station_j54 at hM
    exact ws_iretM cx ex hM dX10_station_54
  unfold mX10_station at hM
  refine ws_aload_n cx dX10_station_0 rfl (j := 0) rfl ?_
  refine ws_iload_n cx dX10_station_1 rfl (j := 1) rfl ?_
  obtain ⟨_, h3, hM⟩ := bnd hM
  obtain ⟨q1, h2, hM⟩ := bnd hM
  refine ws_callV cx (rest := []) (st' := [.int q1.1]) (kX10_isStation l D b h2) mvX10_isStation (ck_k h3) (by decide) (q := (RX10, TX10, 31)) rfl seX10_isStation lkX10_138 rfl ⟨by decide, by decide⟩ (Nat.le_of_ble_eq_true rfl) ⟨rfl, rfl⟩ (Or.inl ⟨rfl, rfl⟩) rfl rfl dX10_station_2 ?_
  refine ws_if_eq cx dX10_station_5 (tgt := 17) (by decide) (fun c4 => ?_) (fun c4 => ?_)
  · have hM := if_t hM c4
    refine ws_sub [] (lv' := []) rfl ?_
    exact J17 _ hM
  · have hM := if_f hM c4
    refine ws_iload_n cx dX10_station_8 rfl (j := 2) rfl ?_
    refine ws_iconst cx dX10_station_9 (v := 0) (by decide) ?_
    refine ws_iconst cx dX10_station_10 (v := 2) (by decide) ?_
    obtain ⟨q5, h6, hM⟩ := bnd hM
    refine ws_callS cx (rest := []) (st' := [.int q5.1]) (kX10_in l D b h6) mvX10_in lkX10_48 rfl ⟨by decide, by decide⟩ (Nat.le_of_ble_eq_true rfl) ⟨rfl, rfl⟩ (Or.inl ⟨rfl, rfl⟩) rfl rfl dX10_station_11 ?_
    refine ws_if_ne cx dX10_station_14 (tgt := 19) (by decide) (fun c7 => ?_) (fun c7 => ?_)
    · have hM := if_f hM c7
      refine ws_iload_n cx dX10_station_19 rfl (j := 2) rfl ?_
      refine ws_if_ne cx dX10_station_20 (tgt := 32) (by decide) (fun c8 => ?_) (fun c8 => ?_)
      · have hM := if_f hM c8
        refine ws_iload_n cx dX10_station_32 rfl (j := 2) rfl ?_
        refine ws_iconst cx dX10_station_33 (v := 1) (by decide) ?_
        refine ws_icmp_ne cx dX10_station_34 (tgt := 46) (by decide) (fun c9 => ?_) (fun c9 => ?_)
        · have hM := if_f hM c9
          refine ws_aload_n cx dX10_station_46 rfl (j := 0) rfl ?_
          obtain ⟨v10, h11, hM⟩ := bnd hM
          refine ws_getR cx ffX10_16 h11 dX10_station_47 ?_
          refine ws_iconst cx dX10_station_50 (v := 1) (by decide) ?_
          refine ws_iload_n cx dX10_station_51 rfl (j := 1) rfl ?_
          refine ws_iadd cx dX10_station_52 ?_
          obtain ⟨v12, h13, hM⟩ := bnd hM
          refine ws_iald cx h13 dX10_station_53 ?_
          refine ws_sub [] (lv' := []) rfl ?_
          exact J54 _ _ hM
        · have hM := if_t hM c9
          refine ws_aload_n cx dX10_station_37 rfl (j := 0) rfl ?_
          obtain ⟨v14, h15, hM⟩ := bnd hM
          refine ws_getR cx ffX10_13 h15 dX10_station_38 ?_
          refine ws_iload_n cx dX10_station_41 rfl (j := 1) rfl ?_
          obtain ⟨v16, h17, hM⟩ := bnd hM
          refine ws_iald cx h17 dX10_station_42 ?_
          refine ws_goto cx dX10_station_43 (tgt := 54) (by decide) ?_
          refine ws_sub [] (lv' := []) rfl ?_
          exact J54 _ _ hM
      · have hM := if_t hM c8
        refine ws_aload_n cx dX10_station_23 rfl (j := 0) rfl ?_
        obtain ⟨v18, h19, hM⟩ := bnd hM
        refine ws_getR cx ffX10_7 h19 dX10_station_24 ?_
        refine ws_iload_n cx dX10_station_27 rfl (j := 1) rfl ?_
        obtain ⟨v20, h21, hM⟩ := bnd hM
        refine ws_iald cx h21 dX10_station_28 ?_
        refine ws_goto cx dX10_station_29 (tgt := 54) (by decide) ?_
        refine ws_sub [] (lv' := []) rfl ?_
        exact J54 _ _ hM
    · have hM := if_t hM c7
      refine ws_sub [] (lv' := []) rfl ?_
      exact J17 _ hM

def mX10_isReading (S : SH) (me : ME) (o : Nat) (a0 : Int32) : Option (Int32 × ME) :=
  (gR S 10 3 o).bind fun v1 =>
  (aI S me 11 v1 (0 : Int32)).bind fun v3 =>
  (mX10_in S me a0 (0 : Int32) (v3 - (1 : Int32))).bind fun q5 =>
  if q5.1 = 0 ∨ q5.1 = 1 then some (q5.1, q5.2) else none
set_option maxRecDepth 100000 in
set_option maxHeartbeats 4000000 in
theorem kX10_isReading (l : Launch) (D : va_G) (b : Nat) {S : SH} {me : ME} {o : Nat} {a0 : Int32} {q : Int32 × ME} (hM : mX10_isReading S me o a0 = some q) : Ct l D b yX10_isReading cX10_isReading 2 (some .boolean) 1 22 0 0 [.ref (b + o), .int a0] S me S q.2 (some (.int q.1)) := by
  refine ct_of (own := RX10) (nm := "isReading") (lv := [(0, .ref (b + o)), (1, .int a0)]) (plainFor_of_name (by decide)) rfl rfl (Nat.le_of_ble_eq_true rfl) rfl ⟨rfl, rfl⟩ (fun X cx ex hL => ?_)
  unfold mX10_isReading at hM
  refine ws_iload_n cx dX10_isReading_0 rfl (j := 1) rfl ?_
  refine ws_iconst cx dX10_isReading_1 (v := 0) (by decide) ?_
  refine ws_aload_n cx dX10_isReading_2 rfl (j := 0) rfl ?_
  obtain ⟨v1, h2, hM⟩ := bnd hM
  refine ws_getR cx ffX10_16 h2 dX10_isReading_3 ?_
  refine ws_iconst cx dX10_isReading_6 (v := 0) (by decide) ?_
  obtain ⟨v3, h4, hM⟩ := bnd hM
  refine ws_iald cx h4 dX10_isReading_7 ?_
  refine ws_iconst cx dX10_isReading_8 (v := 1) (by decide) ?_
  refine ws_isub cx dX10_isReading_9 ?_
  obtain ⟨q5, h6, hM⟩ := bnd hM
  refine ws_callS cx (rest := []) (st' := [.int q5.1]) (kX10_in l D b h6) mvX10_in lkX10_48 rfl ⟨by decide, by decide⟩ (Nat.le_of_ble_eq_true rfl) ⟨rfl, rfl⟩ (Or.inl ⟨rfl, rfl⟩) rfl rfl dX10_isReading_10 ?_
  obtain ⟨h7, hM⟩ := ite_o hM
  exact ws_zretM cx ex h7 hM dX10_isReading_13

def mX10_timeOf (S : SH) (me : ME) (o : Nat) (a0 : Int32) : Option (Int32 × ME) :=
  (gR S 10 3 o).bind fun v1 =>
  (aI S me 11 v1 ((16 : Int32) + a0)).bind fun v3 =>
  (gR S 10 3 o).bind fun v5 =>
  (gR S 10 3 o).bind fun v7 =>
  (aI S me 11 v7 ((7 : Int32) + a0)).bind fun v9 =>
  (aI S me 11 v5 ((1 : Int32) + v9)).bind fun v11 =>
  if v11 = (1 : Int32) then
    some (v3 - (3 : Int32), me)
  else
  if v11 = (2 : Int32) then
    some (v3 + (3 : Int32), me)
  else
  if v11 = (3 : Int32) then
    some (v3 / (2 : Int32), me)
  else
  if v11 = (4 : Int32) then
    some ((60 : Int32) - v3, me)
  else
  some (v3, me)
set_option maxRecDepth 100000 in
set_option maxHeartbeats 4000000 in
theorem kX10_timeOf (l : Launch) (D : va_G) (b : Nat) {S : SH} {me : ME} {o : Nat} {a0 : Int32} {q : Int32 × ME} (hM : mX10_timeOf S me o a0 = some q) : Ct l D b yX10_timeOf cX10_timeOf 3 (some .int) 0 0 0 0 [.ref (b + o), .int a0] S me S q.2 (some (.int q.1)) := by
  refine ct_of (own := RX10) (nm := "timeOf") (lv := [(0, .ref (b + o)), (1, .int a0)]) (plainFor_of_name (by decide)) rfl rfl (Nat.le_of_ble_eq_true rfl) rfl ⟨rfl, rfl⟩ (fun X cx ex hL => ?_)
  unfold mX10_timeOf at hM
  refine ws_aload_n cx dX10_timeOf_0 rfl (j := 0) rfl ?_
  obtain ⟨v1, h2, hM⟩ := bnd hM
  refine ws_getR cx ffX10_16 h2 dX10_timeOf_1 ?_
  refine ws_bipush cx dX10_timeOf_4 (v := 16) (by decide) ?_
  refine ws_iload_n cx dX10_timeOf_6 rfl (j := 1) rfl ?_
  refine ws_iadd cx dX10_timeOf_7 ?_
  obtain ⟨v3, h4, hM⟩ := bnd hM
  refine ws_iald cx h4 dX10_timeOf_8 ?_
  refine ws_istore_n cx dX10_timeOf_9 rfl (by decide) (lv' := [(2, .int v3), (0, .ref (b + o)), (1, .int a0)]) rfl ?_
  refine ws_aload_n cx dX10_timeOf_10 rfl (j := 1) rfl ?_
  obtain ⟨v5, h6, hM⟩ := bnd hM
  refine ws_getR cx ffX10_16 h6 dX10_timeOf_11 ?_
  refine ws_iconst cx dX10_timeOf_14 (v := 1) (by decide) ?_
  refine ws_aload_n cx dX10_timeOf_15 rfl (j := 1) rfl ?_
  obtain ⟨v7, h8, hM⟩ := bnd hM
  refine ws_getR cx ffX10_16 h8 dX10_timeOf_16 ?_
  refine ws_bipush cx dX10_timeOf_19 (v := 7) (by decide) ?_
  refine ws_iload_n cx dX10_timeOf_21 rfl (j := 2) rfl ?_
  refine ws_iadd cx dX10_timeOf_22 ?_
  obtain ⟨v9, h10, hM⟩ := bnd hM
  refine ws_iald cx h10 dX10_timeOf_23 ?_
  refine ws_iadd cx dX10_timeOf_24 ?_
  obtain ⟨v11, h12, hM⟩ := bnd hM
  refine ws_iald cx h12 dX10_timeOf_25 ?_
  by_cases c13 : v11 = (1 : Int32)
  · have hM := if_t hM c13
    refine ws_tabIn cx dX10_timeOf_26 (tgt := 56) (by rw [c13]; decide) (by rw [c13]; decide) (by rw [c13]; rfl) (by decide) ?_
    refine ws_iload_n cx dX10_timeOf_56 rfl (j := 0) rfl ?_
    refine ws_iconst cx dX10_timeOf_57 (v := 3) (by decide) ?_
    refine ws_isub cx dX10_timeOf_58 ?_
    exact ws_iretM cx ex hM dX10_timeOf_59
  · have hM := if_f hM c13
    by_cases c14 : v11 = (2 : Int32)
    · have hM := if_t hM c14
      refine ws_tabIn cx dX10_timeOf_26 (tgt := 60) (by rw [c14]; decide) (by rw [c14]; decide) (by rw [c14]; rfl) (by decide) ?_
      refine ws_iload_n cx dX10_timeOf_60 rfl (j := 0) rfl ?_
      refine ws_iconst cx dX10_timeOf_61 (v := 3) (by decide) ?_
      refine ws_iadd cx dX10_timeOf_62 ?_
      exact ws_iretM cx ex hM dX10_timeOf_63
    · have hM := if_f hM c14
      by_cases c15 : v11 = (3 : Int32)
      · have hM := if_t hM c15
        refine ws_tabIn cx dX10_timeOf_26 (tgt := 64) (by rw [c15]; decide) (by rw [c15]; decide) (by rw [c15]; rfl) (by decide) ?_
        refine ws_iload_n cx dX10_timeOf_64 rfl (j := 0) rfl ?_
        refine ws_iconst cx dX10_timeOf_65 (v := 2) (by decide) ?_
        refine ws_idiv cx (by decide) dX10_timeOf_66 ?_
        exact ws_iretM cx ex hM dX10_timeOf_67
      · have hM := if_f hM c15
        by_cases c16 : v11 = (4 : Int32)
        · have hM := if_t hM c16
          refine ws_tabIn cx dX10_timeOf_26 (tgt := 68) (by rw [c16]; decide) (by rw [c16]; decide) (by rw [c16]; rfl) (by decide) ?_
          refine ws_bipush cx dX10_timeOf_68 (v := 60) (by decide) ?_
          refine ws_iload_n cx dX10_timeOf_70 rfl (j := 0) rfl ?_
          refine ws_isub cx dX10_timeOf_71 ?_
          exact ws_iretM cx ex hM dX10_timeOf_72
        · have hM := if_f hM c16
          refine ws_tabOut cx dX10_timeOf_26 (tgt := 73) (by have := lv_neT c13 (show ((1 : Int32)).toInt = 1 from rfl); have := lv_neT c14 (show ((2 : Int32)).toInt = 2 from rfl); have := lv_neT c15 (show ((3 : Int32)).toInt = 3 from rfl); have := lv_neT c16 (show ((4 : Int32)).toInt = 4 from rfl); omega) (by decide) ?_
          refine ws_iload_n cx dX10_timeOf_73 rfl (j := 0) rfl ?_
          exact ws_iretM cx ex hM dX10_timeOf_74

def mX10_has_j14 (S : SH) (a0 : Int32) (a1 : Int32) (me : ME) (y0 : Int32) : Option (Int32 × ME) :=
  if y0 = 0 ∨ y0 = 1 then some (y0, me) else none
def mX10_has (S : SH) (me : ME) (a0 : Int32) (a1 : Int32) : Option (Int32 × ME) :=
  if ((a0 >>> (a1 &&& 31)) &&& (1 : Int32)) = (1 : Int32) then
    mX10_has_j14 S a0 a1 me (1 : Int32)
  else
    mX10_has_j14 S a0 a1 me (0 : Int32)
set_option maxRecDepth 100000 in
set_option maxHeartbeats 4000000 in
theorem kX10_has (l : Launch) (D : va_G) (b : Nat) {S : SH} {me : ME} {a0 : Int32} {a1 : Int32} {q : Int32 × ME} (hM : mX10_has S me a0 a1 = some q) : Ct l D b yX10_has cX10_has 2 (some .boolean) 0 0 0 0 [.int a0, .int a1] S me S q.2 (some (.int q.1)) := by
  refine ct_of (own := RX10) (nm := "has") (lv := [(0, .int a0), (1, .int a1)]) (plainFor_of_name (by decide)) rfl rfl (Nat.le_of_ble_eq_true rfl) rfl ⟨rfl, rfl⟩ (fun X cx ex hL => ?_)
  have J14 : ∀ (me : ME) (y0 : Int32), mX10_has_j14 S a0 a1 me y0 = some q → WS X b 2 S me 14 [] [.int y0] := by
    intro  me y0 hM
    unfold mX10_has_j14 at hM
    obtain ⟨h1, hM⟩ := ite_o hM
    exact ws_zretM cx ex h1 hM dX10_has_14
  unfold mX10_has at hM
  refine ws_iload_n cx dX10_has_0 rfl (j := 0) rfl ?_
  refine ws_iload_n cx dX10_has_1 rfl (j := 1) rfl ?_
  refine ws_ishr cx dX10_has_2 ?_
  refine ws_iconst cx dX10_has_3 (v := 1) (by decide) ?_
  refine ws_iand cx dX10_has_4 ?_
  refine ws_iconst cx dX10_has_5 (v := 1) (by decide) ?_
  refine ws_icmp_ne cx dX10_has_6 (tgt := 13) (by decide) (fun c2 => ?_) (fun c2 => ?_)
  · have hM := if_f hM c2
    refine ws_iconst cx dX10_has_13 (v := 0) (by decide) ?_
    refine ws_sub [] (lv' := []) rfl ?_
    exact J14 _ _ hM
  · have hM := if_t hM c2
    refine ws_iconst cx dX10_has_9 (v := 1) (by decide) ?_
    refine ws_goto cx dX10_has_10 (tgt := 14) (by decide) ?_
    refine ws_sub [] (lv' := []) rfl ?_
    exact J14 _ _ hM

def mX10_isAhead_j58 (S : SH) (o : Nat) (a0 : Int32) (a1 : Int32) (me : ME) (y0 : Int32) : Option (Int32 × ME) :=
  if y0 = 0 ∨ y0 = 1 then some (y0, me) else none
def mX10_isAhead_j53 (S : SH) (o : Nat) (a0 : Int32) (a1 : Int32) (me : ME) : Option (Int32 × ME) :=
  mX10_isAhead_j58 S o a0 a1 me (1 : Int32)
def mX10_isAhead_j57 (S : SH) (o : Nat) (a0 : Int32) (a1 : Int32) (me : ME) : Option (Int32 × ME) :=
  mX10_isAhead_j58 S o a0 a1 me (0 : Int32)
def mX10_isAhead_j39 (S : SH) (o : Nat) (a0 : Int32) (a1 : Int32) (me : ME) (y0 : Int32) : Option (Int32 × ME) :=
  if y0 < 0 then
    mX10_isAhead_j53 S o a0 a1 me
  else
    if y0 = 0 then
      if a1 ≤ a0 then
        mX10_isAhead_j57 S o a0 a1 me
      else
        mX10_isAhead_j53 S o a0 a1 me
    else
      mX10_isAhead_j57 S o a0 a1 me
def mX10_isAhead (S : SH) (me : ME) (o : Nat) (a0 : Int32) (a1 : Int32) : Option (Int32 × ME) :=
  (ck S 10 o).bind fun _ => (mX10_timeOf S me o a0).bind fun q5 =>
  (ck S 10 o).bind fun _ => (mX10_timeOf S q5.2 o a1).bind fun q8 =>
  if (q5.1 - q8.1) = 0 then
    (gR S 10 3 o).bind fun v12 =>
    (aI S q8.2 11 v12 ((7 : Int32) + a0)).bind fun v14 =>
    (gR S 10 3 o).bind fun v16 =>
    (aI S q8.2 11 v16 ((7 : Int32) + a1)).bind fun v18 =>
    mX10_isAhead_j39 S o a0 a1 q8.2 (v14 - v18)
  else
    mX10_isAhead_j39 S o a0 a1 q8.2 (q5.1 - q8.1)
set_option maxRecDepth 100000 in
set_option maxHeartbeats 4000000 in
theorem kX10_isAhead (l : Launch) (D : va_G) (b : Nat) {S : SH} {me : ME} {o : Nat} {a0 : Int32} {a1 : Int32} {q : Int32 × ME} (hM : mX10_isAhead S me o a0 a1 = some q) : Ct l D b yX10_isAhead cX10_isAhead 4 (some .boolean) 1 22 0 0 [.ref (b + o), .int a0, .int a1] S me S q.2 (some (.int q.1)) := by
  refine ct_of (own := RX10) (nm := "isAhead") (lv := [(0, .ref (b + o)), (1, .int a0), (2, .int a1)]) (plainFor_of_name (by decide)) rfl rfl (Nat.le_of_ble_eq_true rfl) rfl ⟨rfl, rfl⟩ (fun X cx ex hL => ?_)
  have J58 : ∀ (me : ME) (y0 : Int32), mX10_isAhead_j58 S o a0 a1 me y0 = some q → WS X b 4 S me 58 [] [.int y0] := by
    intro  me y0 hM
    unfold mX10_isAhead_j58 at hM
    obtain ⟨h1, hM⟩ := ite_o hM
    exact ws_zretM cx ex h1 hM dX10_isAhead_58
  have J53 : ∀ (me : ME), mX10_isAhead_j53 S o a0 a1 me = some q → WS X b 4 S me 53 [] [] := by
    intro  me hM
    unfold mX10_isAhead_j53 at hM
    refine ws_iconst cx dX10_isAhead_53 (v := 1) (by decide) ?_
    refine ws_goto cx dX10_isAhead_54 (tgt := 58) (by decide) ?_
    refine ws_sub [] (lv' := []) rfl ?_
    exact J58 _ _ hM
  have J57 : ∀ (me : ME), mX10_isAhead_j57 S o a0 a1 me = some q → WS X b 4 S me 57 [] [] := by
    intro  me hM
    unfold mX10_isAhead_j57 at hM
    refine ws_iconst cx dX10_isAhead_57 (v := 0) (by decide) ?_
    refine ws_sub [] (lv' := []) rfl ?_
    exact J58 _ _ hM
  have J39 : ∀ (me : ME) (y0 : Int32), mX10_isAhead_j39 S o a0 a1 me y0 = some q → WS X b 4 S me 39 [(1, .int a0), (2, .int a1)] [.int y0] := by
    intro  me y0 hM
    unfold mX10_isAhead_j39 at hM
    refine ws_istore_n cx dX10_isAhead_39 rfl (by decide) (lv' := [(3, .int y0), (1, .int a0), (2, .int a1)]) rfl ?_
    refine ws_iload_n cx dX10_isAhead_40 rfl (j := 0) rfl ?_
    refine ws_if_lt cx dX10_isAhead_41 (tgt := 53) (by decide) (fun c2 => ?_) (fun c2 => ?_)
    · have hM := if_t hM c2
      refine ws_sub [] (lv' := []) rfl ?_
      exact J53 _ hM
    · have hM := if_f hM c2
      refine ws_iload_n cx dX10_isAhead_44 rfl (j := 0) rfl ?_
      refine ws_if_ne cx dX10_isAhead_45 (tgt := 57) (by decide) (fun c3 => ?_) (fun c3 => ?_)
      · have hM := if_f hM c3
        refine ws_sub [] (lv' := []) rfl ?_
        exact J57 _ hM
      · have hM := if_t hM c3
        refine ws_iload_n cx dX10_isAhead_48 rfl (j := 1) rfl ?_
        refine ws_iload_n cx dX10_isAhead_49 rfl (j := 2) rfl ?_
        refine ws_icmp_ge cx dX10_isAhead_50 (tgt := 57) (by decide) (fun c4 => ?_) (fun c4 => ?_)
        · have hM := if_t hM c4
          refine ws_sub [] (lv' := []) rfl ?_
          exact J57 _ hM
        · have hM := if_f hM c4
          refine ws_sub [] (lv' := []) rfl ?_
          exact J53 _ hM
  unfold mX10_isAhead at hM
  refine ws_aload_n cx dX10_isAhead_0 rfl (j := 0) rfl ?_
  refine ws_iload_n cx dX10_isAhead_1 rfl (j := 1) rfl ?_
  obtain ⟨_, h7, hM⟩ := bnd hM
  obtain ⟨q5, h6, hM⟩ := bnd hM
  refine ws_callV cx (rest := []) (st' := [.int q5.1]) (kX10_timeOf l D b h6) mvX10_timeOf (ck_k h7) (by decide) (q := (RX10, TX10, 31)) rfl seX10_timeOf lkX10_110 rfl ⟨by decide, by decide⟩ (Nat.le_of_ble_eq_true rfl) ⟨rfl, rfl⟩ (Or.inl ⟨rfl, rfl⟩) rfl rfl dX10_isAhead_2 ?_
  refine ws_aload_n cx dX10_isAhead_5 rfl (j := 0) rfl ?_
  refine ws_iload_n cx dX10_isAhead_6 rfl (j := 2) rfl ?_
  obtain ⟨_, h10, hM⟩ := bnd hM
  obtain ⟨q8, h9, hM⟩ := bnd hM
  refine ws_callV cx (rest := [.int q5.1]) (st' := [.int q8.1, .int q5.1]) (kX10_timeOf l D b h9) mvX10_timeOf (ck_k h10) (by decide) (q := (RX10, TX10, 31)) rfl seX10_timeOf lkX10_110 rfl ⟨by decide, by decide⟩ (Nat.le_of_ble_eq_true rfl) ⟨rfl, rfl⟩ (Or.inl ⟨rfl, rfl⟩) rfl rfl dX10_isAhead_7 ?_
  refine ws_isub cx dX10_isAhead_10 ?_
  refine ws_istore_n cx dX10_isAhead_11 rfl (by decide) (lv' := [(3, .int (q5.1 - q8.1)), (0, .ref (b + o)), (1, .int a0), (2, .int a1)]) rfl ?_
  refine ws_iload_n cx dX10_isAhead_12 rfl (j := 0) rfl ?_
  refine ws_if_ne cx dX10_isAhead_13 (tgt := 38) (by decide) (fun c11 => ?_) (fun c11 => ?_)
  · have hM := if_f hM c11
    refine ws_iload_n cx dX10_isAhead_38 rfl (j := 0) rfl ?_
    refine ws_sub [2, 3] (lv' := [(1, .int a0), (2, .int a1)]) rfl ?_
    exact J39 _ _ hM
  · have hM := if_t hM c11
    refine ws_aload_n cx dX10_isAhead_16 rfl (j := 1) rfl ?_
    obtain ⟨v12, h13, hM⟩ := bnd hM
    refine ws_getR cx ffX10_16 h13 dX10_isAhead_17 ?_
    refine ws_bipush cx dX10_isAhead_20 (v := 7) (by decide) ?_
    refine ws_iload_n cx dX10_isAhead_22 rfl (j := 2) rfl ?_
    refine ws_iadd cx dX10_isAhead_23 ?_
    obtain ⟨v14, h15, hM⟩ := bnd hM
    refine ws_iald cx h15 dX10_isAhead_24 ?_
    refine ws_aload_n cx dX10_isAhead_25 rfl (j := 1) rfl ?_
    obtain ⟨v16, h17, hM⟩ := bnd hM
    refine ws_getR cx ffX10_16 h17 dX10_isAhead_26 ?_
    refine ws_bipush cx dX10_isAhead_29 (v := 7) (by decide) ?_
    refine ws_iload_n cx dX10_isAhead_31 rfl (j := 3) rfl ?_
    refine ws_iadd cx dX10_isAhead_32 ?_
    obtain ⟨v18, h19, hM⟩ := bnd hM
    refine ws_iald cx h19 dX10_isAhead_33 ?_
    refine ws_isub cx dX10_isAhead_34 ?_
    refine ws_goto cx dX10_isAhead_35 (tgt := 39) (by decide) ?_
    refine ws_sub [2, 3] (lv' := [(1, .int a0), (2, .int a1)]) rfl ?_
    exact J39 _ _ hM

def mX10_square (S : SH) (me : ME) (a0 : Int32) : Option (Int32 × ME) :=
  some (a0 * a0, me)
set_option maxRecDepth 100000 in
set_option maxHeartbeats 4000000 in
theorem kX10_square (l : Launch) (D : va_G) (b : Nat) {S : SH} {me : ME} {a0 : Int32} {q : Int32 × ME} (hM : mX10_square S me a0 = some q) : Ct l D b yX10_square cX10_square 1 (some .int) 0 0 0 0 [.int a0] S me S q.2 (some (.int q.1)) := by
  refine ct_of (own := RX10) (nm := "square") (lv := [(0, .int a0)]) (plainFor_of_name (by decide)) rfl rfl (Nat.le_of_ble_eq_true rfl) rfl ⟨rfl, rfl⟩ (fun X cx ex hL => ?_)
  unfold mX10_square at hM
  refine ws_iload_n cx dX10_square_0 rfl (j := 0) rfl ?_
  refine ws_iload_n cx dX10_square_1 rfl (j := 0) rfl ?_
  refine ws_imul cx dX10_square_2 ?_
  exact ws_iretM cx ex hM dX10_square_3

def mX10_xOf (S : SH) (me : ME) (o : Nat) (a0 : Int32) : Option (Int32 × ME) :=
  (gR S 10 1 o).bind fun v1 =>
  (gR S 10 3 o).bind fun v3 =>
  (aI S me 11 v3 ((7 : Int32) + a0)).bind fun v5 =>
  (aI S me 11 v1 v5).bind fun v7 =>
  some (v7, me)
set_option maxRecDepth 100000 in
set_option maxHeartbeats 4000000 in
theorem kX10_xOf (l : Launch) (D : va_G) (b : Nat) {S : SH} {me : ME} {o : Nat} {a0 : Int32} {q : Int32 × ME} (hM : mX10_xOf S me o a0 = some q) : Ct l D b yX10_xOf cX10_xOf 2 (some .int) 0 0 0 0 [.ref (b + o), .int a0] S me S q.2 (some (.int q.1)) := by
  refine ct_of (own := RX10) (nm := "xOf") (lv := [(0, .ref (b + o)), (1, .int a0)]) (plainFor_of_name (by decide)) rfl rfl (Nat.le_of_ble_eq_true rfl) rfl ⟨rfl, rfl⟩ (fun X cx ex hL => ?_)
  unfold mX10_xOf at hM
  refine ws_aload_n cx dX10_xOf_0 rfl (j := 0) rfl ?_
  obtain ⟨v1, h2, hM⟩ := bnd hM
  refine ws_getR cx ffX10_7 h2 dX10_xOf_1 ?_
  refine ws_aload_n cx dX10_xOf_4 rfl (j := 0) rfl ?_
  obtain ⟨v3, h4, hM⟩ := bnd hM
  refine ws_getR cx ffX10_16 h4 dX10_xOf_5 ?_
  refine ws_bipush cx dX10_xOf_8 (v := 7) (by decide) ?_
  refine ws_iload_n cx dX10_xOf_10 rfl (j := 1) rfl ?_
  refine ws_iadd cx dX10_xOf_11 ?_
  obtain ⟨v5, h6, hM⟩ := bnd hM
  refine ws_iald cx h6 dX10_xOf_12 ?_
  obtain ⟨v7, h8, hM⟩ := bnd hM
  refine ws_iald cx h8 dX10_xOf_13 ?_
  exact ws_iretM cx ex hM dX10_xOf_14
