def mX3_takeSemicolon_j18 (S : SH) (o : Nat) (a0 : Nat) (me : ME) (y0 : Int32) : Option (Int32 × ME) :=
  if y0 = 0 ∨ y0 = 1 then some (y0, me) else none
def mX3_takeSemicolon (S : SH) (me : ME) (o : Nat) (a0 : Nat) : Option (Int32 × ME) :=
  (ck S 3 o).bind fun _ => (mX3_advance S me o a0).bind fun q2 =>
  (gI S q2.2 3 5 o).bind fun v5 =>
  if v5 = (3 : Int32) then
    mX3_takeSemicolon_j18 S o a0 q2.2 (1 : Int32)
  else
    mX3_takeSemicolon_j18 S o a0 q2.2 (0 : Int32)
set_option maxRecDepth 100000 in
set_option maxHeartbeats 4000000 in
theorem kX3_takeSemicolon (l : Launch) (D : va_G) (b : Nat) {S : SH} {me : ME} {o : Nat} {a0 : Nat} {q : Int32 × ME} (hM : mX3_takeSemicolon S me o a0 = some q) : Ct l D b yX3_takeSemicolon cX3_takeSemicolon 2 (some .boolean) 3 65 0 0 [.ref (b + o), .ref (b + a0)] S me S q.2 (some (.int q.1)) := by
  refine ct_of (own := RX3) (nm := "takeSemicolon") (lv := [(0, .ref (b + o)), (1, .ref (b + a0))]) (plainFor_of_name (by decide)) rfl rfl (Nat.le_of_ble_eq_true rfl) rfl ⟨rfl, rfl⟩ (fun X cx ex hL => ?_)
  have J18 : ∀ (me : ME) (y0 : Int32), mX3_takeSemicolon_j18 S o a0 me y0 = some q → WS X b 2 S me 18 [] [.int y0] := by
    intro  me y0 hM
    unfold mX3_takeSemicolon_j18 at hM
    obtain ⟨h1, hM⟩ := ite_o hM
    exact ws_zretM cx ex h1 hM dX3_takeSemicolon_18
  unfold mX3_takeSemicolon at hM
  refine ws_aload_n cx dX3_takeSemicolon_0 rfl (j := 0) rfl ?_
  refine ws_aload_n cx dX3_takeSemicolon_1 rfl (j := 1) rfl ?_
  obtain ⟨_, h4, hM⟩ := bnd hM
  obtain ⟨q2, h3, hM⟩ := bnd hM
  refine ws_callV cx (rest := []) (st' := []) (kX3_advance l D b h3) mvX3_advance (ck_k h4) (by decide) (q := (RX3, TX3, 7)) rfl seX3_advance lkX3_36 rfl ⟨by decide, by decide⟩ (Nat.le_of_ble_eq_true rfl) ⟨rfl, rfl⟩ (Or.inl ⟨rfl, rfl⟩) rfl rfl dX3_takeSemicolon_2 ?_
  refine ws_aload_n cx dX3_takeSemicolon_5 rfl (j := 0) rfl ?_
  obtain ⟨v5, h6, hM⟩ := bnd hM
  refine ws_getI cx ffX3_40 h6 dX3_takeSemicolon_6 ?_
  refine ws_iconst cx dX3_takeSemicolon_9 (v := 3) (by decide) ?_
  refine ws_icmp_ne cx dX3_takeSemicolon_10 (tgt := 17) (by decide) (fun c7 => ?_) (fun c7 => ?_)
  · have hM := if_f hM c7
    refine ws_iconst cx dX3_takeSemicolon_17 (v := 0) (by decide) ?_
    refine ws_sub [] (lv' := []) rfl ?_
    exact J18 _ _ hM
  · have hM := if_t hM c7
    refine ws_iconst cx dX3_takeSemicolon_13 (v := 1) (by decide) ?_
    refine ws_goto cx dX3_takeSemicolon_14 (tgt := 18) (by decide) ?_
    refine ws_sub [] (lv' := []) rfl ?_
    exact J18 _ _ hM

def mX6_append_j39 (S : SH) (o : Nat) (a0 : Int32) (a1 : Int32) (me : ME) : Option (Unit × ME) :=
  some ((), me)
def mX6_append (S : SH) (me : ME) (o : Nat) (a0 : Int32) (a1 : Int32) : Option (Unit × ME) :=
  (gI S me 6 2 o).bind fun v1 =>
  if (6 : Int32) ≤ v1 then
    mX6_append_j39 S o a0 a1 me
  else
    (gR S 6 0 o).bind fun v4 =>
    (gI S me 6 2 o).bind fun v6 =>
    (uI S me v4 v6 a0).bind fun m9 =>
    (gR S 6 1 o).bind fun v10 =>
    (gI S m9 6 2 o).bind fun v12 =>
    (uI S m9 v10 v12 a1).bind fun m15 =>
    (gI S m15 6 2 o).bind fun v16 =>
    (sI S m15 6 2 o (v16 + (1 : Int32))).bind fun m19 =>
    mX6_append_j39 S o a0 a1 m19
set_option maxRecDepth 100000 in
set_option maxHeartbeats 4000000 in
theorem kX6_append (l : Launch) (D : va_G) (b : Nat) {S : SH} {me : ME} {o : Nat} {a0 : Int32} {a1 : Int32} {q : Unit × ME} (hM : mX6_append S me o a0 a1 = some q) : Ct l D b yX6_append cX6_append 3 none 0 0 0 0 [.ref (b + o), .int a0, .int a1] S me S q.2 none := by
  refine ct_of (own := RX6) (nm := "append") (lv := [(0, .ref (b + o)), (1, .int a0), (2, .int a1)]) (plainFor_of_name (by decide)) rfl rfl (Nat.le_of_ble_eq_true rfl) rfl ⟨rfl, rfl⟩ (fun X cx ex hL => ?_)
  have J39 : ∀ (me : ME), mX6_append_j39 S o a0 a1 me = some q → WS X b 3 S me 39 [] [] := by
    intro  me hM
    unfold mX6_append_j39 at hM
    exact ws_vretM cx ex hM dX6_append_39
  unfold mX6_append at hM
  refine ws_aload_n cx dX6_append_0 rfl (j := 0) rfl ?_
  obtain ⟨v1, h2, hM⟩ := bnd hM
  refine ws_getI cx ffX6_24 h2 dX6_append_1 ?_
  refine ws_bipush cx dX6_append_4 (v := 6) (by decide) ?_
  refine ws_icmp_ge cx dX6_append_6 (tgt := 39) (by decide) (fun c3 => ?_) (fun c3 => ?_)
  · have hM := if_t hM c3
    refine ws_sub [] (lv' := []) rfl ?_
    exact J39 _ hM
  · have hM := if_f hM c3
    refine ws_aload_n cx dX6_append_9 rfl (j := 0) rfl ?_
    obtain ⟨v4, h5, hM⟩ := bnd hM
    refine ws_getR cx ffX6_9 h5 dX6_append_10 ?_
    refine ws_aload_n cx dX6_append_13 rfl (j := 0) rfl ?_
    obtain ⟨v6, h7, hM⟩ := bnd hM
    refine ws_getI cx ffX6_24 h7 dX6_append_14 ?_
    refine ws_iload_n cx dX6_append_17 rfl (j := 1) rfl ?_
    obtain ⟨m9, h8, hM⟩ := bnd hM
    refine ws_iast cx h8 dX6_append_18 ?_
    refine ws_aload_n cx dX6_append_19 rfl (j := 0) rfl ?_
    obtain ⟨v10, h11, hM⟩ := bnd hM
    refine ws_getR cx ffX6_15 h11 dX6_append_20 ?_
    refine ws_aload_n cx dX6_append_23 rfl (j := 0) rfl ?_
    obtain ⟨v12, h13, hM⟩ := bnd hM
    refine ws_getI cx ffX6_24 h13 dX6_append_24 ?_
    refine ws_iload_n cx dX6_append_27 rfl (j := 2) rfl ?_
    obtain ⟨m15, h14, hM⟩ := bnd hM
    refine ws_iast cx h14 dX6_append_28 ?_
    refine ws_aload_n cx dX6_append_29 rfl (j := 0) rfl ?_
    refine ws_dup cx dX6_append_30 rfl ?_
    obtain ⟨v16, h17, hM⟩ := bnd hM
    refine ws_getI cx ffX6_24 h17 dX6_append_31 ?_
    refine ws_iconst cx dX6_append_34 (v := 1) (by decide) ?_
    refine ws_iadd cx dX6_append_35 ?_
    obtain ⟨m19, h18, hM⟩ := bnd hM
    refine ws_putI cx ffX6_24 h18 dX6_append_36 ?_
    refine ws_sub [] (lv' := []) rfl ?_
    exact J39 _ hM

def mX3_takeStation_j22 (S : SH) (o : Nat) (a0 : Nat) (me : ME) : Option (Int32 × ME) :=
  some ((0 : Int32), me)
def mX3_takeStation_j85 (S : SH) (o : Nat) (a0 : Nat) (me : ME) : Option (Int32 × ME) :=
  some ((0 : Int32), me)
def mX3_takeStation_j70 (S : SH) (o : Nat) (a0 : Nat) (me : ME) (x2 : Int32) (x3 : Int32) (y0 : Int32) : Option (Int32 × ME) :=
  if y0 < 0 then
    mX3_takeStation_j85 S o a0 me
  else
    (ck S 3 o).bind fun _ => (mX3_takeSemicolon S me o a0).bind fun q2 =>
    if q2.1 = 0 then
      mX3_takeStation_j85 S o a0 q2.2
    else
      (gR S 3 1 o).bind fun v6 =>
      (gR S 2 2 v6).bind fun v8 =>
      (gR S 3 0 o).bind fun v10 =>
      (gI S q2.2 6 2 v10).bind fun v12 =>
      (uI S q2.2 v8 v12 y0).bind fun m15 =>
      (gR S 3 0 o).bind fun v16 =>
      (ck S 6 v16).bind fun _ => (mX6_append S m15 v16 x2 x3).bind fun q18 =>
      some ((1 : Int32), q18.2)
def mX3_takeStation (S : SH) (me : ME) (o : Nat) (a0 : Nat) : Option (Int32 × ME) :=
  (gR S 3 0 o).bind fun v21 =>
  (gI S me 6 2 v21).bind fun v23 =>
  if (6 : Int32) ≤ v23 then
    mX3_takeStation_j22 S o a0 me
  else
    (ck S 3 o).bind fun _ => (mX3_takeNumber S me o a0 (29 : Int32)).bind fun q26 =>
    if q26.1 = 0 then
      mX3_takeStation_j22 S o a0 q26.2
    else
      (gI S q26.2 3 6 o).bind fun v30 =>
      (ck S 3 o).bind fun _ => (mX3_takeNumber S q26.2 o a0 (29 : Int32)).bind fun q32 =>
      if q32.1 = 0 then
        some ((0 : Int32), q32.2)
      else
        (gI S q32.2 3 6 o).bind fun v36 =>
        (ck S 3 o).bind fun _ => (mX3_advance S q32.2 o a0).bind fun q38 =>
        (gI S q38.2 3 5 o).bind fun v41 =>
        if v41 = (1 : Int32) then
          (gI S q38.2 3 6 o).bind fun v44 =>
          (mX3_clockOf S q38.2 v44).bind fun q46 =>
          mX3_takeStation_j70 S o a0 q46.2 v30 v36 q46.1
        else
          mX3_takeStation_j70 S o a0 q38.2 v30 v36 (-1 : Int32)
set_option maxRecDepth 100000 in
set_option maxHeartbeats 4000000 in
theorem kX3_takeStation (l : Launch) (D : va_G) (b : Nat) {S : SH} {me : ME} {o : Nat} {a0 : Nat} {q : Int32 × ME} (hM : mX3_takeStation S me o a0 = some q) : Ct l D b yX3_takeStation cX3_takeStation 5 (some .boolean) 4 87 0 0 [.ref (b + o), .ref (b + a0)] S me S q.2 (some (.int q.1)) := by
  refine ct_of (own := RX3) (nm := "takeStation") (lv := [(0, .ref (b + o)), (1, .ref (b + a0))]) (plainFor_of_name (by decide)) rfl rfl (Nat.le_of_ble_eq_true rfl) rfl ⟨rfl, rfl⟩ (fun X cx ex hL => ?_)
  have J22 : ∀ (me : ME), mX3_takeStation_j22 S o a0 me = some q → WS X b 5 S me 22 [] [] := by
    intro  me hM
    unfold mX3_takeStation_j22 at hM
    refine ws_iconst cx dX3_takeStation_22 (v := 0) (by decide) ?_
    exact ws_zretM cx ex (by decide) hM dX3_takeStation_23
  have J85 : ∀ (me : ME), mX3_takeStation_j85 S o a0 me = some q → WS X b 5 S me 85 [] [] := by
    intro  me hM
    unfold mX3_takeStation_j85 at hM
    refine ws_iconst cx dX3_takeStation_85 (v := 0) (by decide) ?_
    exact ws_zretM cx ex (by decide) hM dX3_takeStation_86
  have J70 : ∀ (me : ME) (x2 : Int32) (x3 : Int32) (y0 : Int32), mX3_takeStation_j70 S o a0 me x2 x3 y0 = some q → WS X b 5 S me 70 [(0, .ref (b + o)), (1, .ref (b + a0)), (2, .int x2), (3, .int x3)] [.int y0] := by
    intro  me x2 x3 y0 hM
    unfold mX3_takeStation_j70 at hM
    refine ws_istore cx dX3_takeStation_70 (by decide) (lv' := [(4, .int y0), (0, .ref (b + o)), (1, .ref (b + a0)), (2, .int x2), (3, .int x3)]) rfl ?_
    refine ws_iload cx dX3_takeStation_72 (j := 0) rfl ?_
    refine ws_if_lt cx dX3_takeStation_74 (tgt := 85) (by decide) (fun c1 => ?_) (fun c1 => ?_)
    · have hM := if_t hM c1
      refine ws_sub [] (lv' := []) rfl ?_
      exact J85 _ hM
    · have hM := if_f hM c1
      refine ws_aload_n cx dX3_takeStation_77 rfl (j := 1) rfl ?_
      refine ws_aload_n cx dX3_takeStation_78 rfl (j := 2) rfl ?_
      obtain ⟨_, h4, hM⟩ := bnd hM
      obtain ⟨q2, h3, hM⟩ := bnd hM
      refine ws_callV cx (rest := []) (st' := [.int q2.1]) (kX3_takeSemicolon l D b h3) mvX3_takeSemicolon (ck_k h4) (by decide) (q := (RX3, TX3, 7)) rfl seX3_takeSemicolon lkX3_64 rfl ⟨by decide, by decide⟩ (Nat.le_of_ble_eq_true rfl) ⟨rfl, rfl⟩ (Or.inl ⟨rfl, rfl⟩) rfl rfl dX3_takeStation_79 ?_
      refine ws_if_ne cx dX3_takeStation_82 (tgt := 87) (by decide) (fun c5 => ?_) (fun c5 => ?_)
      · have hM := if_f hM c5
        refine ws_aload_n cx dX3_takeStation_87 rfl (j := 1) rfl ?_
        obtain ⟨v6, h7, hM⟩ := bnd hM
        refine ws_getR cx ffX3_21 h7 dX3_takeStation_88 ?_
        obtain ⟨v8, h9, hM⟩ := bnd hM
        refine ws_getR cx ffX3_67 h9 dX3_takeStation_91 ?_
        refine ws_aload_n cx dX3_takeStation_94 rfl (j := 1) rfl ?_
        obtain ⟨v10, h11, hM⟩ := bnd hM
        refine ws_getR cx ffX3_12 h11 dX3_takeStation_95 ?_
        obtain ⟨v12, h13, hM⟩ := bnd hM
        refine ws_getI cx ffX3_25 h13 dX3_takeStation_98 ?_
        refine ws_iload cx dX3_takeStation_101 (j := 0) rfl ?_
        obtain ⟨m15, h14, hM⟩ := bnd hM
        refine ws_iast cx h14 dX3_takeStation_103 ?_
        refine ws_aload_n cx dX3_takeStation_104 rfl (j := 1) rfl ?_
        obtain ⟨v16, h17, hM⟩ := bnd hM
        refine ws_getR cx ffX3_12 h17 dX3_takeStation_105 ?_
        refine ws_iload_n cx dX3_takeStation_108 rfl (j := 3) rfl ?_
        refine ws_iload_n cx dX3_takeStation_109 rfl (j := 4) rfl ?_
        obtain ⟨_, h20, hM⟩ := bnd hM
        obtain ⟨q18, h19, hM⟩ := bnd hM
        refine ws_callV cx (rest := []) (st' := []) (kX6_append l D b h19) mvX6_append (ck_k h20) (by decide) (q := (RX6, TX6, 3)) rfl seX6_append lkX3_71 rfl ⟨by decide, by decide⟩ (Nat.le_of_ble_eq_true rfl) ⟨rfl, rfl⟩ (Or.inl ⟨rfl, rfl⟩) rfl rfl dX3_takeStation_110 ?_
        refine ws_iconst cx dX3_takeStation_113 (v := 1) (by decide) ?_
        exact ws_zretM cx ex (by decide) hM dX3_takeStation_114
      · have hM := if_t hM c5
        refine ws_sub [] (lv' := []) rfl ?_
        exact J85 _ hM
  unfold mX3_takeStation at hM
  refine ws_aload_n cx dX3_takeStation_0 rfl (j := 0) rfl ?_
  obtain ⟨v21, h22, hM⟩ := bnd hM
  refine ws_getR cx ffX3_12 h22 dX3_takeStation_1 ?_
  obtain ⟨v23, h24, hM⟩ := bnd hM
  refine ws_getI cx ffX3_25 h24 dX3_takeStation_4 ?_
  refine ws_bipush cx dX3_takeStation_7 (v := 6) (by decide) ?_
  refine ws_icmp_ge cx dX3_takeStation_9 (tgt := 22) (by decide) (fun c25 => ?_) (fun c25 => ?_)
  · have hM := if_t hM c25
    refine ws_sub [] (lv' := []) rfl ?_
    exact J22 _ hM
  · have hM := if_f hM c25
    refine ws_aload_n cx dX3_takeStation_12 rfl (j := 0) rfl ?_
    refine ws_aload_n cx dX3_takeStation_13 rfl (j := 1) rfl ?_
    refine ws_bipush cx dX3_takeStation_14 (v := 29) (by decide) ?_
    obtain ⟨_, h28, hM⟩ := bnd hM
    obtain ⟨q26, h27, hM⟩ := bnd hM
    refine ws_callV cx (rest := []) (st' := [.int q26.1]) (kX3_takeNumber l D b h27) mvX3_takeNumber (ck_k h28) (by decide) (q := (RX3, TX3, 7)) rfl seX3_takeNumber lkX3_56 rfl ⟨by decide, by decide⟩ (Nat.le_of_ble_eq_true rfl) ⟨rfl, rfl⟩ (Or.inl ⟨rfl, rfl⟩) rfl rfl dX3_takeStation_16 ?_
    refine ws_if_ne cx dX3_takeStation_19 (tgt := 24) (by decide) (fun c29 => ?_) (fun c29 => ?_)
    · have hM := if_f hM c29
      refine ws_aload_n cx dX3_takeStation_24 rfl (j := 0) rfl ?_
      obtain ⟨v30, h31, hM⟩ := bnd hM
      refine ws_getI cx ffX3_43 h31 dX3_takeStation_25 ?_
      refine ws_istore_n cx dX3_takeStation_28 rfl (by decide) (lv' := [(2, .int v30), (0, .ref (b + o)), (1, .ref (b + a0))]) rfl ?_
      refine ws_aload_n cx dX3_takeStation_29 rfl (j := 1) rfl ?_
      refine ws_aload_n cx dX3_takeStation_30 rfl (j := 2) rfl ?_
      refine ws_bipush cx dX3_takeStation_31 (v := 29) (by decide) ?_
      obtain ⟨_, h34, hM⟩ := bnd hM
      obtain ⟨q32, h33, hM⟩ := bnd hM
      refine ws_callV cx (rest := []) (st' := [.int q32.1]) (kX3_takeNumber l D b h33) mvX3_takeNumber (ck_k h34) (by decide) (q := (RX3, TX3, 7)) rfl seX3_takeNumber lkX3_56 rfl ⟨by decide, by decide⟩ (Nat.le_of_ble_eq_true rfl) ⟨rfl, rfl⟩ (Or.inl ⟨rfl, rfl⟩) rfl rfl dX3_takeStation_33 ?_
      refine ws_if_ne cx dX3_takeStation_36 (tgt := 41) (by decide) (fun c35 => ?_) (fun c35 => ?_)
      · have hM := if_f hM c35
        refine ws_aload_n cx dX3_takeStation_41 rfl (j := 1) rfl ?_
        obtain ⟨v36, h37, hM⟩ := bnd hM
        refine ws_getI cx ffX3_43 h37 dX3_takeStation_42 ?_
        refine ws_istore_n cx dX3_takeStation_45 rfl (by decide) (lv' := [(3, .int v36), (2, .int v30), (0, .ref (b + o)), (1, .ref (b + a0))]) rfl ?_
        refine ws_aload_n cx dX3_takeStation_46 rfl (j := 2) rfl ?_
        refine ws_aload_n cx dX3_takeStation_47 rfl (j := 3) rfl ?_
        obtain ⟨_, h40, hM⟩ := bnd hM
        obtain ⟨q38, h39, hM⟩ := bnd hM
        refine ws_callV cx (rest := []) (st' := []) (kX3_advance l D b h39) mvX3_advance (ck_k h40) (by decide) (q := (RX3, TX3, 7)) rfl seX3_advance lkX3_36 rfl ⟨by decide, by decide⟩ (Nat.le_of_ble_eq_true rfl) ⟨rfl, rfl⟩ (Or.inl ⟨rfl, rfl⟩) rfl rfl dX3_takeStation_48 ?_
        refine ws_aload_n cx dX3_takeStation_51 rfl (j := 2) rfl ?_
        obtain ⟨v41, h42, hM⟩ := bnd hM
        refine ws_getI cx ffX3_40 h42 dX3_takeStation_52 ?_
        refine ws_iconst cx dX3_takeStation_55 (v := 1) (by decide) ?_
        refine ws_icmp_ne cx dX3_takeStation_56 (tgt := 69) (by decide) (fun c43 => ?_) (fun c43 => ?_)
        · have hM := if_f hM c43
          refine ws_iconst cx dX3_takeStation_69 (v := -1) (by decide) ?_
          refine ws_sub [2, 3, 1, 0] (lv' := [(0, .ref (b + o)), (1, .ref (b + a0)), (2, .int v30), (3, .int v36)]) rfl ?_
          exact J70 _ _ _ _ hM
        · have hM := if_t hM c43
          refine ws_aload_n cx dX3_takeStation_59 rfl (j := 2) rfl ?_
          obtain ⟨v44, h45, hM⟩ := bnd hM
          refine ws_getI cx ffX3_43 h45 dX3_takeStation_60 ?_
          obtain ⟨q46, h47, hM⟩ := bnd hM
          refine ws_callS cx (rest := []) (st' := [.int q46.1]) (kX3_clockOf l D b h47) mvX3_clockOf lkX3_60 rfl ⟨by decide, by decide⟩ (Nat.le_of_ble_eq_true rfl) ⟨rfl, rfl⟩ (Or.inl ⟨rfl, rfl⟩) rfl rfl dX3_takeStation_63 ?_
          refine ws_goto cx dX3_takeStation_66 (tgt := 70) (by decide) ?_
          refine ws_sub [2, 3, 1, 0] (lv' := [(0, .ref (b + o)), (1, .ref (b + a0)), (2, .int v30), (3, .int v36)]) rfl ?_
          exact J70 _ _ _ _ hM
      · have hM := if_t hM c35
        refine ws_iconst cx dX3_takeStation_39 (v := 0) (by decide) ?_
        exact ws_zretM cx ex (by decide) hM dX3_takeStation_40
    · have hM := if_t hM c29
      refine ws_sub [] (lv' := []) rfl ?_
      exact J22 _ hM

def mX2_append_j39 (S : SH) (o : Nat) (a0 : Int32) (a1 : Int32) (me : ME) : Option (Unit × ME) :=
  some ((), me)
def mX2_append (S : SH) (me : ME) (o : Nat) (a0 : Int32) (a1 : Int32) : Option (Unit × ME) :=
  (gI S me 2 3 o).bind fun v1 =>
  if (9 : Int32) ≤ v1 then
    mX2_append_j39 S o a0 a1 me
  else
    (gR S 2 0 o).bind fun v4 =>
    (gI S me 2 3 o).bind fun v6 =>
    (uI S me v4 v6 a0).bind fun m9 =>
    (gR S 2 1 o).bind fun v10 =>
    (gI S m9 2 3 o).bind fun v12 =>
    (uI S m9 v10 v12 a1).bind fun m15 =>
    (gI S m15 2 3 o).bind fun v16 =>
    (sI S m15 2 3 o (v16 + (1 : Int32))).bind fun m19 =>
    mX2_append_j39 S o a0 a1 m19
set_option maxRecDepth 100000 in
set_option maxHeartbeats 4000000 in
theorem kX2_append (l : Launch) (D : va_G) (b : Nat) {S : SH} {me : ME} {o : Nat} {a0 : Int32} {a1 : Int32} {q : Unit × ME} (hM : mX2_append S me o a0 a1 = some q) : Ct l D b yX2_append cX2_append 3 none 0 0 0 0 [.ref (b + o), .int a0, .int a1] S me S q.2 none := by
  refine ct_of (own := RX2) (nm := "append") (lv := [(0, .ref (b + o)), (1, .int a0), (2, .int a1)]) (plainFor_of_name (by decide)) rfl rfl (Nat.le_of_ble_eq_true rfl) rfl ⟨rfl, rfl⟩ (fun X cx ex hL => ?_)
  have J39 : ∀ (me : ME), mX2_append_j39 S o a0 a1 me = some q → WS X b 3 S me 39 [] [] := by
    intro  me hM
    unfold mX2_append_j39 at hM
    exact ws_vretM cx ex hM dX2_append_39
  unfold mX2_append at hM
  refine ws_aload_n cx dX2_append_0 rfl (j := 0) rfl ?_
  obtain ⟨v1, h2, hM⟩ := bnd hM
  refine ws_getI cx ffX2_27 h2 dX2_append_1 ?_
  refine ws_bipush cx dX2_append_4 (v := 9) (by decide) ?_
  refine ws_icmp_ge cx dX2_append_6 (tgt := 39) (by decide) (fun c3 => ?_) (fun c3 => ?_)
  · have hM := if_t hM c3
    refine ws_sub [] (lv' := []) rfl ?_
    exact J39 _ hM
  · have hM := if_f hM c3
    refine ws_aload_n cx dX2_append_9 rfl (j := 0) rfl ?_
    obtain ⟨v4, h5, hM⟩ := bnd hM
    refine ws_getR cx ffX2_9 h5 dX2_append_10 ?_
    refine ws_aload_n cx dX2_append_13 rfl (j := 0) rfl ?_
    obtain ⟨v6, h7, hM⟩ := bnd hM
    refine ws_getI cx ffX2_27 h7 dX2_append_14 ?_
    refine ws_iload_n cx dX2_append_17 rfl (j := 1) rfl ?_
    obtain ⟨m9, h8, hM⟩ := bnd hM
    refine ws_iast cx h8 dX2_append_18 ?_
    refine ws_aload_n cx dX2_append_19 rfl (j := 0) rfl ?_
    obtain ⟨v10, h11, hM⟩ := bnd hM
    refine ws_getR cx ffX2_15 h11 dX2_append_20 ?_
    refine ws_aload_n cx dX2_append_23 rfl (j := 0) rfl ?_
    obtain ⟨v12, h13, hM⟩ := bnd hM
    refine ws_getI cx ffX2_27 h13 dX2_append_24 ?_
    refine ws_iload_n cx dX2_append_27 rfl (j := 2) rfl ?_
    obtain ⟨m15, h14, hM⟩ := bnd hM
    refine ws_iast cx h14 dX2_append_28 ?_
    refine ws_aload_n cx dX2_append_29 rfl (j := 0) rfl ?_
    refine ws_dup cx dX2_append_30 rfl ?_
    obtain ⟨v16, h17, hM⟩ := bnd hM
    refine ws_getI cx ffX2_27 h17 dX2_append_31 ?_
    refine ws_iconst cx dX2_append_34 (v := 1) (by decide) ?_
    refine ws_iadd cx dX2_append_35 ?_
    obtain ⟨m19, h18, hM⟩ := bnd hM
    refine ws_putI cx ffX2_27 h18 dX2_append_36 ?_
    refine ws_sub [] (lv' := []) rfl ?_
    exact J39 _ hM

def mX3_takeReading_j29 (S : SH) (o : Nat) (a0 : Nat) (me : ME) : Option (Int32 × ME) :=
  some ((0 : Int32), me)
def mX3_takeReading (S : SH) (me : ME) (o : Nat) (a0 : Nat) : Option (Int32 × ME) :=
  (gR S 3 1 o).bind fun v1 =>
  (gI S me 2 3 v1).bind fun v3 =>
  if (9 : Int32) ≤ v3 then
    mX3_takeReading_j29 S o a0 me
  else
    (gR S 3 0 o).bind fun v6 =>
    (gI S me 6 2 v6).bind fun v8 =>
    (ck S 3 o).bind fun _ => (mX3_takeNumber S me o a0 (v8 - (1 : Int32))).bind fun q10 =>
    if q10.1 = 0 then
      mX3_takeReading_j29 S o a0 q10.2
    else
      (gI S q10.2 3 6 o).bind fun v14 =>
      (ck S 3 o).bind fun _ => (mX3_takeNumber S q10.2 o a0 (60 : Int32)).bind fun q16 =>
      if q16.1 = 0 then
        some ((0 : Int32), q16.2)
      else
        (gI S q16.2 3 6 o).bind fun v20 =>
        (ck S 3 o).bind fun _ => (mX3_takeSemicolon S q16.2 o a0).bind fun q22 =>
        if q22.1 = 0 then
          some ((0 : Int32), q22.2)
        else
          (gR S 3 1 o).bind fun v26 =>
          (ck S 2 v26).bind fun _ => (mX2_append S q22.2 v26 v14 v20).bind fun q28 =>
          some ((1 : Int32), q28.2)
set_option maxRecDepth 100000 in
set_option maxHeartbeats 4000000 in
theorem kX3_takeReading (l : Launch) (D : va_G) (b : Nat) {S : SH} {me : ME} {o : Nat} {a0 : Nat} {q : Int32 × ME} (hM : mX3_takeReading S me o a0 = some q) : Ct l D b yX3_takeReading cX3_takeReading 4 (some .boolean) 4 87 0 0 [.ref (b + o), .ref (b + a0)] S me S q.2 (some (.int q.1)) := by
  refine ct_of (own := RX3) (nm := "takeReading") (lv := [(0, .ref (b + o)), (1, .ref (b + a0))]) (plainFor_of_name (by decide)) rfl rfl (Nat.le_of_ble_eq_true rfl) rfl ⟨rfl, rfl⟩ (fun X cx ex hL => ?_)
  have J29 : ∀ (me : ME), mX3_takeReading_j29 S o a0 me = some q → WS X b 4 S me 29 [] [] := by
    intro  me hM
    unfold mX3_takeReading_j29 at hM
    refine ws_iconst cx dX3_takeReading_29 (v := 0) (by decide) ?_
    exact ws_zretM cx ex (by decide) hM dX3_takeReading_30
  unfold mX3_takeReading at hM
  refine ws_aload_n cx dX3_takeReading_0 rfl (j := 0) rfl ?_
  obtain ⟨v1, h2, hM⟩ := bnd hM
  refine ws_getR cx ffX3_21 h2 dX3_takeReading_1 ?_
  obtain ⟨v3, h4, hM⟩ := bnd hM
  refine ws_getI cx ffX3_29 h4 dX3_takeReading_4 ?_
  refine ws_bipush cx dX3_takeReading_7 (v := 9) (by decide) ?_
  refine ws_icmp_ge cx dX3_takeReading_9 (tgt := 29) (by decide) (fun c5 => ?_) (fun c5 => ?_)
  · have hM := if_t hM c5
    refine ws_sub [] (lv' := []) rfl ?_
    exact J29 _ hM
  · have hM := if_f hM c5
    refine ws_aload_n cx dX3_takeReading_12 rfl (j := 0) rfl ?_
    refine ws_aload_n cx dX3_takeReading_13 rfl (j := 1) rfl ?_
    refine ws_aload_n cx dX3_takeReading_14 rfl (j := 0) rfl ?_
    obtain ⟨v6, h7, hM⟩ := bnd hM
    refine ws_getR cx ffX3_12 h7 dX3_takeReading_15 ?_
    obtain ⟨v8, h9, hM⟩ := bnd hM
    refine ws_getI cx ffX3_25 h9 dX3_takeReading_18 ?_
    refine ws_iconst cx dX3_takeReading_21 (v := 1) (by decide) ?_
    refine ws_isub cx dX3_takeReading_22 ?_
    obtain ⟨_, h12, hM⟩ := bnd hM
    obtain ⟨q10, h11, hM⟩ := bnd hM
    refine ws_callV cx (rest := []) (st' := [.int q10.1]) (kX3_takeNumber l D b h11) mvX3_takeNumber (ck_k h12) (by decide) (q := (RX3, TX3, 7)) rfl seX3_takeNumber lkX3_56 rfl ⟨by decide, by decide⟩ (Nat.le_of_ble_eq_true rfl) ⟨rfl, rfl⟩ (Or.inl ⟨rfl, rfl⟩) rfl rfl dX3_takeReading_23 ?_
    refine ws_if_ne cx dX3_takeReading_26 (tgt := 31) (by decide) (fun c13 => ?_) (fun c13 => ?_)
    · have hM := if_f hM c13
      refine ws_aload_n cx dX3_takeReading_31 rfl (j := 0) rfl ?_
      obtain ⟨v14, h15, hM⟩ := bnd hM
      refine ws_getI cx ffX3_43 h15 dX3_takeReading_32 ?_
      refine ws_istore_n cx dX3_takeReading_35 rfl (by decide) (lv' := [(2, .int v14), (0, .ref (b + o)), (1, .ref (b + a0))]) rfl ?_
      refine ws_aload_n cx dX3_takeReading_36 rfl (j := 1) rfl ?_
      refine ws_aload_n cx dX3_takeReading_37 rfl (j := 2) rfl ?_
      refine ws_bipush cx dX3_takeReading_38 (v := 60) (by decide) ?_
      obtain ⟨_, h18, hM⟩ := bnd hM
      obtain ⟨q16, h17, hM⟩ := bnd hM
      refine ws_callV cx (rest := []) (st' := [.int q16.1]) (kX3_takeNumber l D b h17) mvX3_takeNumber (ck_k h18) (by decide) (q := (RX3, TX3, 7)) rfl seX3_takeNumber lkX3_56 rfl ⟨by decide, by decide⟩ (Nat.le_of_ble_eq_true rfl) ⟨rfl, rfl⟩ (Or.inl ⟨rfl, rfl⟩) rfl rfl dX3_takeReading_40 ?_
      refine ws_if_ne cx dX3_takeReading_43 (tgt := 48) (by decide) (fun c19 => ?_) (fun c19 => ?_)
      · have hM := if_f hM c19
        refine ws_aload_n cx dX3_takeReading_48 rfl (j := 1) rfl ?_
        obtain ⟨v20, h21, hM⟩ := bnd hM
        refine ws_getI cx ffX3_43 h21 dX3_takeReading_49 ?_
        refine ws_istore_n cx dX3_takeReading_52 rfl (by decide) (lv' := [(3, .int v20), (2, .int v14), (0, .ref (b + o)), (1, .ref (b + a0))]) rfl ?_
        refine ws_aload_n cx dX3_takeReading_53 rfl (j := 2) rfl ?_
        refine ws_aload_n cx dX3_takeReading_54 rfl (j := 3) rfl ?_
        obtain ⟨_, h24, hM⟩ := bnd hM
        obtain ⟨q22, h23, hM⟩ := bnd hM
        refine ws_callV cx (rest := []) (st' := [.int q22.1]) (kX3_takeSemicolon l D b h23) mvX3_takeSemicolon (ck_k h24) (by decide) (q := (RX3, TX3, 7)) rfl seX3_takeSemicolon lkX3_64 rfl ⟨by decide, by decide⟩ (Nat.le_of_ble_eq_true rfl) ⟨rfl, rfl⟩ (Or.inl ⟨rfl, rfl⟩) rfl rfl dX3_takeReading_55 ?_
        refine ws_if_ne cx dX3_takeReading_58 (tgt := 63) (by decide) (fun c25 => ?_) (fun c25 => ?_)
        · have hM := if_f hM c25
          refine ws_aload_n cx dX3_takeReading_63 rfl (j := 2) rfl ?_
          obtain ⟨v26, h27, hM⟩ := bnd hM
          refine ws_getR cx ffX3_21 h27 dX3_takeReading_64 ?_
          refine ws_iload_n cx dX3_takeReading_67 rfl (j := 1) rfl ?_
          refine ws_iload_n cx dX3_takeReading_68 rfl (j := 0) rfl ?_
          obtain ⟨_, h30, hM⟩ := bnd hM
          obtain ⟨q28, h29, hM⟩ := bnd hM
          refine ws_callV cx (rest := []) (st' := []) (kX2_append l D b h29) mvX2_append (ck_k h30) (by decide) (q := (RX2, TX2, 4)) rfl seX2_append lkX3_75 rfl ⟨by decide, by decide⟩ (Nat.le_of_ble_eq_true rfl) ⟨rfl, rfl⟩ (Or.inl ⟨rfl, rfl⟩) rfl rfl dX3_takeReading_69 ?_
          refine ws_iconst cx dX3_takeReading_72 (v := 1) (by decide) ?_
          exact ws_zretM cx ex (by decide) hM dX3_takeReading_73
        · have hM := if_t hM c25
          refine ws_iconst cx dX3_takeReading_61 (v := 0) (by decide) ?_
          exact ws_zretM cx ex (by decide) hM dX3_takeReading_62
      · have hM := if_t hM c19
        refine ws_iconst cx dX3_takeReading_46 (v := 0) (by decide) ?_
        exact ws_zretM cx ex (by decide) hM dX3_takeReading_47
    · have hM := if_t hM c13
      refine ws_sub [] (lv' := []) rfl ?_
      exact J29 _ hM

def mX3_parse_j46 (S : SH) (o : Nat) (a0 : Nat) (me : ME) : Option (Int32 × ME) :=
  some ((-1 : Int32), me)
def mX3_parse_j120 (S : SH) (o : Nat) (a0 : Nat) (me : ME) : Option (Int32 × ME) :=
  (gI S me 3 4 o).bind fun v1 =>
  some (v1, me)
def mX3_parse_j125 (S : SH) (o : Nat) (a0 : Nat) (k28 : (ME × Int32 → Option (Int32 × ME))) (me : ME) (x2 : Int32) : Option (Int32 × ME) :=
  (gI S me 3 2 o).bind fun v3 =>
  (sI S me 3 2 o (v3 + (1 : Int32))).bind fun m6 =>
  k28 (m6, x2 + (1 : Int32))
def mX3_parse_j107 (S : SH) (o : Nat) (a0 : Nat) (k28 : (ME × Int32 → Option (Int32 × ME))) (me : ME) (x2 : Int32) (x4 : Int32) : Option (Int32 × ME) :=
  if x4 = 0 then
    mX3_parse_j120 S o a0 me
  else
    (ck S 3 o).bind fun _ => (mX3_takeReading S me o a0).bind fun q8 =>
    if q8.1 = 0 then
      mX3_parse_j120 S o a0 q8.2
    else
      mX3_parse_j125 S o a0 k28 q8.2 x2
def mX3_parse_j93 (S : SH) (o : Nat) (a0 : Nat) (k28 : (ME × Int32 → Option (Int32 × ME))) (me : ME) (x2 : Int32) (x3 : Int32) (y0 : Int32) : Option (Int32 × ME) :=
  if x3 = 0 then
    mX3_parse_j107 S o a0 k28 me x2 y0
  else
    (ck S 3 o).bind fun _ => (mX3_takeStation S me o a0).bind fun q13 =>
    if q13.1 = 0 then
      mX3_parse_j107 S o a0 k28 q13.2 x2 y0
    else
      mX3_parse_j125 S o a0 k28 q13.2 x2
def mX3_parse_j92 (S : SH) (o : Nat) (a0 : Nat) (k28 : (ME × Int32 → Option (Int32 × ME))) (me : ME) (x2 : Int32) (x3 : Int32) : Option (Int32 × ME) :=
  mX3_parse_j93 S o a0 k28 me x2 x3 (0 : Int32)
def mX3_parse_j70 (S : SH) (o : Nat) (a0 : Nat) (k28 : (ME × Int32 → Option (Int32 × ME))) (me : ME) (x2 : Int32) (y0 : Int32) : Option (Int32 × ME) :=
  (gI S me 3 5 o).bind fun v17 =>
  if v17 = (1 : Int32) then
    (gI S me 3 6 o).bind fun v20 =>
    if v20 = (104 : Int32) then
      mX3_parse_j93 S o a0 k28 me x2 y0 (1 : Int32)
    else
      mX3_parse_j92 S o a0 k28 me x2 y0
  else
    mX3_parse_j92 S o a0 k28 me x2 y0
def mX3_parse_j69 (S : SH) (o : Nat) (a0 : Nat) (k28 : (ME × Int32 → Option (Int32 × ME))) (me : ME) (x2 : Int32) : Option (Int32 × ME) :=
  mX3_parse_j70 S o a0 k28 me x2 (0 : Int32)
def mX3_parse_j141 (S : SH) (o : Nat) (a0 : Nat) (me : ME) : Option (Int32 × ME) :=
  (gI S me 3 4 o).bind fun v23 =>
  some (v23, me)
def mX3_parse_L28 (S : SH) (o : Nat) (a0 : Nat) (k28 : (ME × Int32 → Option (Int32 × ME))) : ME × Int32 → Option (Int32 × ME)
  | (me, x2) =>
    if (110 : Int32) < x2 then
      mX3_parse_j141 S o a0 me
    else
      (ck S 3 o).bind fun _ => (mX3_advance S me o a0).bind fun q26 =>
      (gI S q26.2 3 5 o).bind fun v29 =>
      if v29 = 0 then
        mX3_parse_j46 S o a0 q26.2
      else
        (gI S q26.2 3 5 o).bind fun v32 =>
        if v32 = (1 : Int32) then
          (gI S q26.2 3 6 o).bind fun v35 =>
          if v35 = (115 : Int32) then
            mX3_parse_j70 S o a0 k28 q26.2 x2 (1 : Int32)
          else
            mX3_parse_j69 S o a0 k28 q26.2 x2
        else
          mX3_parse_j69 S o a0 k28 q26.2 x2
def mX3_parse (S : SH) (me : ME) (o : Nat) (a0 : Nat) : Option (Int32 × ME) :=
  (gR S 3 0 o).bind fun v38 =>
  (sI S me 6 2 v38 (0 : Int32)).bind fun m41 =>
  (gR S 3 1 o).bind fun v42 =>
  (sI S m41 2 3 v42 (0 : Int32)).bind fun m45 =>
  (sI S m45 3 2 o (0 : Int32)).bind fun m47 =>
  (sI S m47 3 3 o (0 : Int32)).bind fun m49 =>
  lpn (mX3_parse_L28 S o a0) lpF (m49, (0 : Int32))
set_option maxRecDepth 100000 in
set_option maxHeartbeats 4000000 in
theorem kX3_parse (l : Launch) (D : va_G) (b : Nat) {S : SH} {me : ME} {o : Nat} {a0 : Nat} {q : Int32 × ME} (hM : mX3_parse S me o a0 = some q) : Ct l D b yX3_parse cX3_parse 5 (some .int) 5 111 0 0 [.ref (b + o), .ref (b + a0)] S me S q.2 (some (.int q.1)) := by
  refine ct_of (own := RX3) (nm := "parse") (lv := [(0, .ref (b + o)), (1, .ref (b + a0))]) (plainFor_of_name (by decide)) rfl rfl (Nat.le_of_ble_eq_true rfl) rfl ⟨rfl, rfl⟩ (fun X cx ex hL => ?_)
  have J46 : ∀ (me : ME), mX3_parse_j46 S o a0 me = some q → WS X b 5 S me 46 [] [] := by
    intro  me hM
    unfold mX3_parse_j46 at hM
    refine ws_iconst cx dX3_parse_46 (v := -1) (by decide) ?_
    exact ws_iretM cx ex hM dX3_parse_47
  have J120 : ∀ (me : ME), mX3_parse_j120 S o a0 me = some q → WS X b 5 S me 120 [(0, .ref (b + o))] [] := by
    intro  me hM
    unfold mX3_parse_j120 at hM
    refine ws_aload_n cx dX3_parse_120 rfl (j := 0) rfl ?_
    obtain ⟨v1, h2, hM⟩ := bnd hM
    refine ws_getI cx ffX3_53 h2 dX3_parse_121 ?_
    exact ws_iretM cx ex hM dX3_parse_124
  have J125 : ∀ (k28 : (ME × Int32 → Option (Int32 × ME))), (∀ (me : ME) (x2 : Int32), k28 (me, x2) = some q → WS X b 5 S me 28 [(0, .ref (b + o)), (1, .ref (b + a0)), (2, .int x2)] []) → ∀ (me : ME) (x2 : Int32), mX3_parse_j125 S o a0 k28 me x2 = some q → WS X b 5 S me 125 [(0, .ref (b + o)), (1, .ref (b + a0)), (2, .int x2)] [] := by
    intro k28 hk28 me x2 hM
    unfold mX3_parse_j125 at hM
    refine ws_aload_n cx dX3_parse_125 rfl (j := 0) rfl ?_
    refine ws_dup cx dX3_parse_126 rfl ?_
    obtain ⟨v3, h4, hM⟩ := bnd hM
    refine ws_getI cx ffX3_30 h4 dX3_parse_127 ?_
    refine ws_iconst cx dX3_parse_130 (v := 1) (by decide) ?_
    refine ws_iadd cx dX3_parse_131 ?_
    obtain ⟨m6, h5, hM⟩ := bnd hM
    refine ws_putI cx ffX3_30 h5 dX3_parse_132 ?_
    refine ws_iinc cx dX3_parse_135 (j := 2) rfl (v := x2 + (1 : Int32)) rfl (by decide) (lv' := [(2, .int (x2 + (1 : Int32))), (0, .ref (b + o)), (1, .ref (b + a0))]) rfl ?_
    refine ws_goto cx dX3_parse_138 (tgt := 28) (by decide) ?_
    refine ws_sub [1, 2, 0] (lv' := [(0, .ref (b + o)), (1, .ref (b + a0)), (2, .int (x2 + (1 : Int32)))]) rfl ?_
    exact hk28 _ _ hM
  have J107 : ∀ (k28 : (ME × Int32 → Option (Int32 × ME))), (∀ (me : ME) (x2 : Int32), k28 (me, x2) = some q → WS X b 5 S me 28 [(0, .ref (b + o)), (1, .ref (b + a0)), (2, .int x2)] []) → ∀ (me : ME) (x2 : Int32) (x4 : Int32), mX3_parse_j107 S o a0 k28 me x2 x4 = some q → WS X b 5 S me 107 [(0, .ref (b + o)), (1, .ref (b + a0)), (2, .int x2), (4, .int x4)] [] := by
    intro k28 hk28 me x2 x4 hM
    unfold mX3_parse_j107 at hM
    refine ws_iload cx dX3_parse_107 (j := 3) rfl ?_
    refine ws_if_eq cx dX3_parse_109 (tgt := 120) (by decide) (fun c7 => ?_) (fun c7 => ?_)
    · have hM := if_t hM c7
      refine ws_sub [0] (lv' := [(0, .ref (b + o))]) rfl ?_
      exact J120 _ hM
    · have hM := if_f hM c7
      refine ws_aload_n cx dX3_parse_112 rfl (j := 0) rfl ?_
      refine ws_aload_n cx dX3_parse_113 rfl (j := 1) rfl ?_
      obtain ⟨_, h10, hM⟩ := bnd hM
      obtain ⟨q8, h9, hM⟩ := bnd hM
      refine ws_callV cx (rest := []) (st' := [.int q8.1]) (kX3_takeReading l D b h9) mvX3_takeReading (ck_k h10) (by decide) (q := (RX3, TX3, 7)) rfl seX3_takeReading lkX3_50 rfl ⟨by decide, by decide⟩ (Nat.le_of_ble_eq_true rfl) ⟨rfl, rfl⟩ (Or.inl ⟨rfl, rfl⟩) rfl rfl dX3_parse_114 ?_
      refine ws_if_ne cx dX3_parse_117 (tgt := 125) (by decide) (fun c11 => ?_) (fun c11 => ?_)
      · have hM := if_f hM c11
        refine ws_sub [0, 1, 2] (lv' := [(0, .ref (b + o)), (1, .ref (b + a0)), (2, .int x2)]) rfl ?_
        exact J125 _ hk28 _ _ hM
      · have hM := if_t hM c11
        refine ws_sub [0] (lv' := [(0, .ref (b + o))]) rfl ?_
        exact J120 _ hM
  have J93 : ∀ (k28 : (ME × Int32 → Option (Int32 × ME))), (∀ (me : ME) (x2 : Int32), k28 (me, x2) = some q → WS X b 5 S me 28 [(0, .ref (b + o)), (1, .ref (b + a0)), (2, .int x2)] []) → ∀ (me : ME) (x2 : Int32) (x3 : Int32) (y0 : Int32), mX3_parse_j93 S o a0 k28 me x2 x3 y0 = some q → WS X b 5 S me 93 [(0, .ref (b + o)), (1, .ref (b + a0)), (2, .int x2), (3, .int x3)] [.int y0] := by
    intro k28 hk28 me x2 x3 y0 hM
    unfold mX3_parse_j93 at hM
    refine ws_istore cx dX3_parse_93 (by decide) (lv' := [(4, .int y0), (0, .ref (b + o)), (1, .ref (b + a0)), (2, .int x2), (3, .int x3)]) rfl ?_
    refine ws_iload_n cx dX3_parse_95 rfl (j := 4) rfl ?_
    refine ws_if_eq cx dX3_parse_96 (tgt := 107) (by decide) (fun c12 => ?_) (fun c12 => ?_)
    · have hM := if_t hM c12
      refine ws_sub [1, 2, 3, 0] (lv' := [(0, .ref (b + o)), (1, .ref (b + a0)), (2, .int x2), (4, .int y0)]) rfl ?_
      exact J107 _ hk28 _ _ _ hM
    · have hM := if_f hM c12
      refine ws_aload_n cx dX3_parse_99 rfl (j := 1) rfl ?_
      refine ws_aload_n cx dX3_parse_100 rfl (j := 2) rfl ?_
      obtain ⟨_, h15, hM⟩ := bnd hM
      obtain ⟨q13, h14, hM⟩ := bnd hM
      refine ws_callV cx (rest := []) (st' := [.int q13.1]) (kX3_takeStation l D b h14) mvX3_takeStation (ck_k h15) (by decide) (q := (RX3, TX3, 7)) rfl seX3_takeStation lkX3_46 rfl ⟨by decide, by decide⟩ (Nat.le_of_ble_eq_true rfl) ⟨rfl, rfl⟩ (Or.inl ⟨rfl, rfl⟩) rfl rfl dX3_parse_101 ?_
      refine ws_if_ne cx dX3_parse_104 (tgt := 125) (by decide) (fun c16 => ?_) (fun c16 => ?_)
      · have hM := if_f hM c16
        refine ws_sub [1, 2, 3] (lv' := [(0, .ref (b + o)), (1, .ref (b + a0)), (2, .int x2)]) rfl ?_
        exact J125 _ hk28 _ _ hM
      · have hM := if_t hM c16
        refine ws_sub [1, 2, 3, 0] (lv' := [(0, .ref (b + o)), (1, .ref (b + a0)), (2, .int x2), (4, .int y0)]) rfl ?_
        exact J107 _ hk28 _ _ _ hM
  have J92 : ∀ (k28 : (ME × Int32 → Option (Int32 × ME))), (∀ (me : ME) (x2 : Int32), k28 (me, x2) = some q → WS X b 5 S me 28 [(0, .ref (b + o)), (1, .ref (b + a0)), (2, .int x2)] []) → ∀ (me : ME) (x2 : Int32) (x3 : Int32), mX3_parse_j92 S o a0 k28 me x2 x3 = some q → WS X b 5 S me 92 [(0, .ref (b + o)), (1, .ref (b + a0)), (2, .int x2), (3, .int x3)] [] := by
    intro k28 hk28 me x2 x3 hM
    unfold mX3_parse_j92 at hM
    refine ws_iconst cx dX3_parse_92 (v := 0) (by decide) ?_
    refine ws_sub [0, 1, 2, 3] (lv' := [(0, .ref (b + o)), (1, .ref (b + a0)), (2, .int x2), (3, .int x3)]) rfl ?_
    exact J93 _ hk28 _ _ _ _ hM
  have J70 : ∀ (k28 : (ME × Int32 → Option (Int32 × ME))), (∀ (me : ME) (x2 : Int32), k28 (me, x2) = some q → WS X b 5 S me 28 [(0, .ref (b + o)), (1, .ref (b + a0)), (2, .int x2)] []) → ∀ (me : ME) (x2 : Int32) (y0 : Int32), mX3_parse_j70 S o a0 k28 me x2 y0 = some q → WS X b 5 S me 70 [(0, .ref (b + o)), (1, .ref (b + a0)), (2, .int x2)] [.int y0] := by
    intro k28 hk28 me x2 y0 hM
    unfold mX3_parse_j70 at hM
    refine ws_istore_n cx dX3_parse_70 rfl (by decide) (lv' := [(3, .int y0), (0, .ref (b + o)), (1, .ref (b + a0)), (2, .int x2)]) rfl ?_
    refine ws_aload_n cx dX3_parse_71 rfl (j := 1) rfl ?_
    obtain ⟨v17, h18, hM⟩ := bnd hM
    refine ws_getI cx ffX3_40 h18 dX3_parse_72 ?_
    refine ws_iconst cx dX3_parse_75 (v := 1) (by decide) ?_
    refine ws_icmp_ne cx dX3_parse_76 (tgt := 92) (by decide) (fun c19 => ?_) (fun c19 => ?_)
    · have hM := if_f hM c19
      refine ws_sub [1, 2, 3, 0] (lv' := [(0, .ref (b + o)), (1, .ref (b + a0)), (2, .int x2), (3, .int y0)]) rfl ?_
      exact J92 _ hk28 _ _ _ hM
    · have hM := if_t hM c19
      refine ws_aload_n cx dX3_parse_79 rfl (j := 1) rfl ?_
      obtain ⟨v20, h21, hM⟩ := bnd hM
      refine ws_getI cx ffX3_43 h21 dX3_parse_80 ?_
      refine ws_bipush cx dX3_parse_83 (v := 104) (by decide) ?_
      refine ws_icmp_ne cx dX3_parse_85 (tgt := 92) (by decide) (fun c22 => ?_) (fun c22 => ?_)
      · have hM := if_f hM c22
        refine ws_sub [1, 2, 3, 0] (lv' := [(0, .ref (b + o)), (1, .ref (b + a0)), (2, .int x2), (3, .int y0)]) rfl ?_
        exact J92 _ hk28 _ _ _ hM
      · have hM := if_t hM c22
        refine ws_iconst cx dX3_parse_88 (v := 1) (by decide) ?_
        refine ws_goto cx dX3_parse_89 (tgt := 93) (by decide) ?_
        refine ws_sub [1, 2, 3, 0] (lv' := [(0, .ref (b + o)), (1, .ref (b + a0)), (2, .int x2), (3, .int y0)]) rfl ?_
        exact J93 _ hk28 _ _ _ _ hM
  have J69 : ∀ (k28 : (ME × Int32 → Option (Int32 × ME))), (∀ (me : ME) (x2 : Int32), k28 (me, x2) = some q → WS X b 5 S me 28 [(0, .ref (b + o)), (1, .ref (b + a0)), (2, .int x2)] []) → ∀ (me : ME) (x2 : Int32), mX3_parse_j69 S o a0 k28 me x2 = some q → WS X b 5 S me 69 [(0, .ref (b + o)), (1, .ref (b + a0)), (2, .int x2)] [] := by
    intro k28 hk28 me x2 hM
    unfold mX3_parse_j69 at hM
    refine ws_iconst cx dX3_parse_69 (v := 0) (by decide) ?_
    refine ws_sub [0, 1, 2] (lv' := [(0, .ref (b + o)), (1, .ref (b + a0)), (2, .int x2)]) rfl ?_
    exact J70 _ hk28 _ _ _ hM
  have J141 : ∀ (me : ME), mX3_parse_j141 S o a0 me = some q → WS X b 5 S me 141 [(0, .ref (b + o))] [] := by
    intro  me hM
    unfold mX3_parse_j141 at hM
    refine ws_aload_n cx dX3_parse_141 rfl (j := 0) rfl ?_
    obtain ⟨v23, h24, hM⟩ := bnd hM
    refine ws_getI cx ffX3_53 h24 dX3_parse_142 ?_
    exact ws_iretM cx ex hM dX3_parse_145
  have L28 : ∀ (n : Nat) (me : ME) (x2 : Int32), lpn (mX3_parse_L28 S o a0) n (me, x2) = some q → WS X b 5 S me 28 [(0, .ref (b + o)), (1, .ref (b + a0)), (2, .int x2)] [] := by
    intro  n
    induction n with
    | zero => intro me x2 hM; exact absurd hM (by intro h; cases h)
    | succ n ih =>
      intro me x2 hM
      have hM : mX3_parse_L28 S o a0 (lpn (mX3_parse_L28 S o a0) n) (me, x2) = some q := hM
      unfold mX3_parse_L28 at hM
      refine ws_iload_n cx dX3_parse_28 rfl (j := 2) rfl ?_
      refine ws_bipush cx dX3_parse_29 (v := 110) (by decide) ?_
      refine ws_icmp_gt cx dX3_parse_31 (tgt := 141) (by decide) (fun c25 => ?_) (fun c25 => ?_)
      · have hM := if_t hM c25
        refine ws_sub [0] (lv' := [(0, .ref (b + o))]) rfl ?_
        exact J141 _ hM
      · have hM := if_f hM c25
        refine ws_aload_n cx dX3_parse_34 rfl (j := 0) rfl ?_
        refine ws_aload_n cx dX3_parse_35 rfl (j := 1) rfl ?_
        obtain ⟨_, h28, hM⟩ := bnd hM
        obtain ⟨q26, h27, hM⟩ := bnd hM
        refine ws_callV cx (rest := []) (st' := []) (kX3_advance l D b h27) mvX3_advance (ck_k h28) (by decide) (q := (RX3, TX3, 7)) rfl seX3_advance lkX3_36 rfl ⟨by decide, by decide⟩ (Nat.le_of_ble_eq_true rfl) ⟨rfl, rfl⟩ (Or.inl ⟨rfl, rfl⟩) rfl rfl dX3_parse_36 ?_
        refine ws_aload_n cx dX3_parse_39 rfl (j := 0) rfl ?_
        obtain ⟨v29, h30, hM⟩ := bnd hM
        refine ws_getI cx ffX3_40 h30 dX3_parse_40 ?_
        refine ws_if_ne cx dX3_parse_43 (tgt := 48) (by decide) (fun c31 => ?_) (fun c31 => ?_)
        · have hM := if_f hM c31
          refine ws_aload_n cx dX3_parse_48 rfl (j := 0) rfl ?_
          obtain ⟨v32, h33, hM⟩ := bnd hM
          refine ws_getI cx ffX3_40 h33 dX3_parse_49 ?_
          refine ws_iconst cx dX3_parse_52 (v := 1) (by decide) ?_
          refine ws_icmp_ne cx dX3_parse_53 (tgt := 69) (by decide) (fun c34 => ?_) (fun c34 => ?_)
          · have hM := if_f hM c34
            refine ws_sub [0, 1, 2] (lv' := [(0, .ref (b + o)), (1, .ref (b + a0)), (2, .int x2)]) rfl ?_
            exact J69 _ ih _ _ hM
          · have hM := if_t hM c34
            refine ws_aload_n cx dX3_parse_56 rfl (j := 0) rfl ?_
            obtain ⟨v35, h36, hM⟩ := bnd hM
            refine ws_getI cx ffX3_43 h36 dX3_parse_57 ?_
            refine ws_bipush cx dX3_parse_60 (v := 115) (by decide) ?_
            refine ws_icmp_ne cx dX3_parse_62 (tgt := 69) (by decide) (fun c37 => ?_) (fun c37 => ?_)
            · have hM := if_f hM c37
              refine ws_sub [0, 1, 2] (lv' := [(0, .ref (b + o)), (1, .ref (b + a0)), (2, .int x2)]) rfl ?_
              exact J69 _ ih _ _ hM
            · have hM := if_t hM c37
              refine ws_iconst cx dX3_parse_65 (v := 1) (by decide) ?_
              refine ws_goto cx dX3_parse_66 (tgt := 70) (by decide) ?_
              refine ws_sub [0, 1, 2] (lv' := [(0, .ref (b + o)), (1, .ref (b + a0)), (2, .int x2)]) rfl ?_
              exact J70 _ ih _ _ _ hM
        · have hM := if_t hM c31
          refine ws_sub [] (lv' := []) rfl ?_
          exact J46 _ hM
  unfold mX3_parse at hM
  refine ws_aload_n cx dX3_parse_0 rfl (j := 0) rfl ?_
  obtain ⟨v38, h39, hM⟩ := bnd hM
  refine ws_getR cx ffX3_12 h39 dX3_parse_1 ?_
  refine ws_iconst cx dX3_parse_4 (v := 0) (by decide) ?_
  obtain ⟨m41, h40, hM⟩ := bnd hM
  refine ws_putI cx ffX3_25 h40 dX3_parse_5 ?_
  refine ws_aload_n cx dX3_parse_8 rfl (j := 0) rfl ?_
  obtain ⟨v42, h43, hM⟩ := bnd hM
  refine ws_getR cx ffX3_21 h43 dX3_parse_9 ?_
  refine ws_iconst cx dX3_parse_12 (v := 0) (by decide) ?_
  obtain ⟨m45, h44, hM⟩ := bnd hM
  refine ws_putI cx ffX3_29 h44 dX3_parse_13 ?_
  refine ws_aload_n cx dX3_parse_16 rfl (j := 0) rfl ?_
  refine ws_iconst cx dX3_parse_17 (v := 0) (by decide) ?_
  obtain ⟨m47, h46, hM⟩ := bnd hM
  refine ws_putI cx ffX3_30 h46 dX3_parse_18 ?_
  refine ws_aload_n cx dX3_parse_21 rfl (j := 0) rfl ?_
  refine ws_iconst cx dX3_parse_22 (v := 0) (by decide) ?_
  obtain ⟨m49, h48, hM⟩ := bnd hM
  refine ws_putI cx ffX3_33 h48 dX3_parse_23 ?_
  refine ws_iconst cx dX3_parse_26 (v := 0) (by decide) ?_
  refine ws_istore_n cx dX3_parse_27 rfl (by decide) (lv' := [(2, .int (0 : Int32)), (0, .ref (b + o)), (1, .ref (b + a0))]) rfl ?_
  refine ws_sub [1, 2, 0] (lv' := [(0, .ref (b + o)), (1, .ref (b + a0)), (2, .int (0 : Int32))]) rfl ?_
  exact L28 _ _ _ hM

def mX6_copy (S : SH) (me : ME) (o : Nat) (a0 : Nat) : Option (Unit × ME) :=
  (gR S 6 0 a0).bind fun v1 =>
  (gR S 6 0 o).bind fun v3 =>
  (cpI S me v1 (0 : Int32) v3 (0 : Int32) (6 : Int32)).bind fun m6 =>
  (gR S 6 1 a0).bind fun v7 =>
  (gR S 6 1 o).bind fun v9 =>
  (cpI S m6 v7 (0 : Int32) v9 (0 : Int32) (6 : Int32)).bind fun m12 =>
  (gI S m12 6 2 a0).bind fun v13 =>
  (sI S m12 6 2 o v13).bind fun m16 =>
  some ((), m16)
set_option maxRecDepth 100000 in
set_option maxHeartbeats 4000000 in
theorem kX6_copy (l : Launch) (D : va_G) (b : Nat) {S : SH} {me : ME} {o : Nat} {a0 : Nat} {q : Unit × ME} (hM : mX6_copy S me o a0 = some q) : Ct l D b yX6_copy cX6_copy 2 none 1 18 0 0 [.ref (b + o), .ref (b + a0)] S me S q.2 none := by
  refine ct_of (own := RX6) (nm := "copy") (lv := [(0, .ref (b + o)), (1, .ref (b + a0))]) (plainFor_of_name (by decide)) rfl rfl (Nat.le_of_ble_eq_true rfl) rfl ⟨rfl, rfl⟩ (fun X cx ex hL => ?_)
  unfold mX6_copy at hM
  refine ws_aload_n cx dX6_copy_0 rfl (j := 1) rfl ?_
  obtain ⟨v1, h2, hM⟩ := bnd hM
  refine ws_getR cx ffX6_9 h2 dX6_copy_1 ?_
  refine ws_iconst cx dX6_copy_4 (v := 0) (by decide) ?_
  refine ws_aload_n cx dX6_copy_5 rfl (j := 0) rfl ?_
  obtain ⟨v3, h4, hM⟩ := bnd hM
  refine ws_getR cx ffX6_9 h4 dX6_copy_6 ?_
  refine ws_iconst cx dX6_copy_9 (v := 0) (by decide) ?_
  refine ws_bipush cx dX6_copy_10 (v := 6) (by decide) ?_
  obtain ⟨m6, h5, hM⟩ := bnd hM
  refine ws_copy cx lkX6_18 wNat wSta wIni h5 ⟨by decide, by decide⟩ dX6_copy_12 ?_
  refine ws_aload_n cx dX6_copy_15 rfl (j := 1) rfl ?_
  obtain ⟨v7, h8, hM⟩ := bnd hM
  refine ws_getR cx ffX6_15 h8 dX6_copy_16 ?_
  refine ws_iconst cx dX6_copy_19 (v := 0) (by decide) ?_
  refine ws_aload_n cx dX6_copy_20 rfl (j := 0) rfl ?_
  obtain ⟨v9, h10, hM⟩ := bnd hM
  refine ws_getR cx ffX6_15 h10 dX6_copy_21 ?_
  refine ws_iconst cx dX6_copy_24 (v := 0) (by decide) ?_
  refine ws_bipush cx dX6_copy_25 (v := 6) (by decide) ?_
  obtain ⟨m12, h11, hM⟩ := bnd hM
  refine ws_copy cx lkX6_18 wNat wSta wIni h11 ⟨by decide, by decide⟩ dX6_copy_27 ?_
  refine ws_aload_n cx dX6_copy_30 rfl (j := 0) rfl ?_
  refine ws_aload_n cx dX6_copy_31 rfl (j := 1) rfl ?_
  obtain ⟨v13, h14, hM⟩ := bnd hM
  refine ws_getI cx ffX6_24 h14 dX6_copy_32 ?_
  obtain ⟨m16, h15, hM⟩ := bnd hM
  refine ws_putI cx ffX6_24 h15 dX6_copy_35 ?_
  exact ws_vretM cx ex hM dX6_copy_38

def mX2_copy (S : SH) (me : ME) (o : Nat) (a0 : Nat) : Option (Unit × ME) :=
  (gR S 2 0 a0).bind fun v1 =>
  (gR S 2 0 o).bind fun v3 =>
  (cpI S me v1 (0 : Int32) v3 (0 : Int32) (9 : Int32)).bind fun m6 =>
  (gR S 2 1 a0).bind fun v7 =>
  (gR S 2 1 o).bind fun v9 =>
  (cpI S m6 v7 (0 : Int32) v9 (0 : Int32) (9 : Int32)).bind fun m12 =>
  (gR S 2 2 a0).bind fun v13 =>
  (gR S 2 2 o).bind fun v15 =>
  (cpI S m12 v13 (0 : Int32) v15 (0 : Int32) (6 : Int32)).bind fun m18 =>
  (gI S m18 2 3 a0).bind fun v19 =>
  (sI S m18 2 3 o v19).bind fun m22 =>
  some ((), m22)
set_option maxRecDepth 100000 in
set_option maxHeartbeats 4000000 in
theorem kX2_copy (l : Launch) (D : va_G) (b : Nat) {S : SH} {me : ME} {o : Nat} {a0 : Nat} {q : Unit × ME} (hM : mX2_copy S me o a0 = some q) : Ct l D b yX2_copy cX2_copy 2 none 1 18 0 0 [.ref (b + o), .ref (b + a0)] S me S q.2 none := by
  refine ct_of (own := RX2) (nm := "copy") (lv := [(0, .ref (b + o)), (1, .ref (b + a0))]) (plainFor_of_name (by decide)) rfl rfl (Nat.le_of_ble_eq_true rfl) rfl ⟨rfl, rfl⟩ (fun X cx ex hL => ?_)
  unfold mX2_copy at hM
  refine ws_aload_n cx dX2_copy_0 rfl (j := 1) rfl ?_
  obtain ⟨v1, h2, hM⟩ := bnd hM
  refine ws_getR cx ffX2_9 h2 dX2_copy_1 ?_
  refine ws_iconst cx dX2_copy_4 (v := 0) (by decide) ?_
  refine ws_aload_n cx dX2_copy_5 rfl (j := 0) rfl ?_
  obtain ⟨v3, h4, hM⟩ := bnd hM
  refine ws_getR cx ffX2_9 h4 dX2_copy_6 ?_
  refine ws_iconst cx dX2_copy_9 (v := 0) (by decide) ?_
  refine ws_bipush cx dX2_copy_10 (v := 9) (by decide) ?_
  obtain ⟨m6, h5, hM⟩ := bnd hM
  refine ws_copy cx lkX2_21 wNat wSta wIni h5 ⟨by decide, by decide⟩ dX2_copy_12 ?_
  refine ws_aload_n cx dX2_copy_15 rfl (j := 1) rfl ?_
  obtain ⟨v7, h8, hM⟩ := bnd hM
  refine ws_getR cx ffX2_15 h8 dX2_copy_16 ?_
  refine ws_iconst cx dX2_copy_19 (v := 0) (by decide) ?_
  refine ws_aload_n cx dX2_copy_20 rfl (j := 0) rfl ?_
  obtain ⟨v9, h10, hM⟩ := bnd hM
  refine ws_getR cx ffX2_15 h10 dX2_copy_21 ?_
  refine ws_iconst cx dX2_copy_24 (v := 0) (by decide) ?_
  refine ws_bipush cx dX2_copy_25 (v := 9) (by decide) ?_
  obtain ⟨m12, h11, hM⟩ := bnd hM
  refine ws_copy cx lkX2_21 wNat wSta wIni h11 ⟨by decide, by decide⟩ dX2_copy_27 ?_
  refine ws_aload_n cx dX2_copy_30 rfl (j := 1) rfl ?_
  obtain ⟨v13, h14, hM⟩ := bnd hM
  refine ws_getR cx ffX2_18 h14 dX2_copy_31 ?_
  refine ws_iconst cx dX2_copy_34 (v := 0) (by decide) ?_
  refine ws_aload_n cx dX2_copy_35 rfl (j := 0) rfl ?_
  obtain ⟨v15, h16, hM⟩ := bnd hM
  refine ws_getR cx ffX2_18 h16 dX2_copy_36 ?_
  refine ws_iconst cx dX2_copy_39 (v := 0) (by decide) ?_
  refine ws_bipush cx dX2_copy_40 (v := 6) (by decide) ?_
  obtain ⟨m18, h17, hM⟩ := bnd hM
  refine ws_copy cx lkX2_21 wNat wSta wIni h17 ⟨by decide, by decide⟩ dX2_copy_42 ?_
  refine ws_aload_n cx dX2_copy_45 rfl (j := 0) rfl ?_
  refine ws_aload_n cx dX2_copy_46 rfl (j := 1) rfl ?_
  obtain ⟨v19, h20, hM⟩ := bnd hM
  refine ws_getI cx ffX2_27 h20 dX2_copy_47 ?_
  obtain ⟨m22, h21, hM⟩ := bnd hM
  refine ws_putI cx ffX2_27 h21 dX2_copy_50 ?_
  exact ws_vretM cx ex hM dX2_copy_53

def mX9_field_j78 (S : SH) (o : Nat) (me : ME) : Option (Int32 × ME) :=
  (gR S 9 0 o).bind fun v1 =>
  (sI S me 8 1 v1 (0 : Int32)).bind fun m4 =>
  (gR S 9 1 o).bind fun v5 =>
  (gI S m4 3 2 v5).bind fun v7 =>
  some (v7, m4)
def mX9_field_L60 (S : SH) (o : Nat) (k60 : (ME × Int32 → Option (Int32 × ME))) : ME × Int32 → Option (Int32 × ME)
  | (me, x2) =>
    if (2 : Int32) ≤ x2 then
      mX9_field_j78 S o me
    else
      (gR S 9 6 o).bind fun v10 =>
      (uZ S me v10 x2 (0 : Int32)).bind fun m13 =>
      k60 (m13, x2 + (1 : Int32))
def mX9_field (S : SH) (me : ME) (o : Nat) : Option (Int32 × ME) :=
  (gR S 9 1 o).bind fun v14 =>
  (gR S 9 0 o).bind fun v16 =>
  (ck S 3 v14).bind fun _ => (mX3_parse S me v14 v16).bind fun q18 =>
  if q18.1 = (-1 : Int32) then
    (gR S 9 2 o).bind fun v22 =>
    (gR S 9 1 o).bind fun v24 =>
    (gR S 3 0 v24).bind fun v26 =>
    (ck S 6 v22).bind fun _ => (mX6_copy S q18.2 v22 v26).bind fun q28 =>
    (gR S 9 3 o).bind fun v31 =>
    (gR S 9 1 o).bind fun v33 =>
    (gR S 3 1 v33).bind fun v35 =>
    (ck S 2 v31).bind fun _ => (mX2_copy S q28.2 v31 v35).bind fun q37 =>
    (gR S 9 4 o).bind fun v40 =>
    (sI S q37.2 4 2 v40 (0 : Int32)).bind fun m43 =>
    lpn (mX9_field_L60 S o) lpF (m43, (0 : Int32))
  else
    some ((-10 : Int32) - q18.1, q18.2)
set_option maxRecDepth 100000 in
set_option maxHeartbeats 4000000 in
theorem kX9_field (l : Launch) (D : va_G) (b : Nat) {S : SH} {me : ME} {o : Nat} {q : Int32 × ME} (hM : mX9_field S me o = some q) : Ct l D b yX9_field cX9_field 3 (some .int) 6 135 0 0 [.ref (b + o)] S me S q.2 (some (.int q.1)) := by
  refine ct_of (own := RX9) (nm := "field") (lv := [(0, .ref (b + o))]) (plainFor_of_name (by decide)) rfl rfl (Nat.le_of_ble_eq_true rfl) rfl ⟨rfl, rfl⟩ (fun X cx ex hL => ?_)
  have J78 : ∀ (me : ME), mX9_field_j78 S o me = some q → WS X b 3 S me 78 [(0, .ref (b + o))] [] := by
    intro  me hM
    unfold mX9_field_j78 at hM
    refine ws_aload_n cx dX9_field_78 rfl (j := 0) rfl ?_
    obtain ⟨v1, h2, hM⟩ := bnd hM
    refine ws_getR cx ffX9_12 h2 dX9_field_79 ?_
    refine ws_iconst cx dX9_field_82 (v := 0) (by decide) ?_
    obtain ⟨m4, h3, hM⟩ := bnd hM
    refine ws_putI cx ffX9_92 h3 dX9_field_83 ?_
    refine ws_aload_n cx dX9_field_86 rfl (j := 0) rfl ?_
    obtain ⟨v5, h6, hM⟩ := bnd hM
    refine ws_getR cx ffX9_19 h6 dX9_field_87 ?_
    obtain ⟨v7, h8, hM⟩ := bnd hM
    refine ws_getI cx ffX9_110 h8 dX9_field_90 ?_
    exact ws_iretM cx ex hM dX9_field_93
  have L60 : ∀ (n : Nat) (me : ME) (x2 : Int32), lpn (mX9_field_L60 S o) n (me, x2) = some q → WS X b 3 S me 60 [(0, .ref (b + o)), (2, .int x2)] [] := by
    intro  n
    induction n with
    | zero => intro me x2 hM; exact absurd hM (by intro h; cases h)
    | succ n ih =>
      intro me x2 hM
      have hM : mX9_field_L60 S o (lpn (mX9_field_L60 S o) n) (me, x2) = some q := hM
      unfold mX9_field_L60 at hM
      refine ws_iload_n cx dX9_field_60 rfl (j := 1) rfl ?_
      refine ws_iconst cx dX9_field_61 (v := 2) (by decide) ?_
      refine ws_icmp_ge cx dX9_field_62 (tgt := 78) (by decide) (fun c9 => ?_) (fun c9 => ?_)
      · have hM := if_t hM c9
        refine ws_sub [0] (lv' := [(0, .ref (b + o))]) rfl ?_
        exact J78 _ hM
      · have hM := if_f hM c9
        refine ws_aload_n cx dX9_field_65 rfl (j := 0) rfl ?_
        obtain ⟨v10, h11, hM⟩ := bnd hM
        refine ws_getR cx ffX9_48 h11 dX9_field_66 ?_
        refine ws_iload_n cx dX9_field_69 rfl (j := 1) rfl ?_
        refine ws_iconst cx dX9_field_70 (v := 0) (by decide) ?_
        obtain ⟨m13, h12, hM⟩ := bnd hM
        refine ws_zast cx h12 dX9_field_71 ?_
        refine ws_iinc cx dX9_field_72 (j := 1) rfl (v := x2 + (1 : Int32)) rfl (by decide) (lv' := [(2, .int (x2 + (1 : Int32))), (0, .ref (b + o))]) rfl ?_
        refine ws_goto cx dX9_field_75 (tgt := 60) (by decide) ?_
        refine ws_sub [1, 0] (lv' := [(0, .ref (b + o)), (2, .int (x2 + (1 : Int32)))]) rfl ?_
        exact ih _ _ hM
  unfold mX9_field at hM
  refine ws_aload_n cx dX9_field_0 rfl (j := 0) rfl ?_
  obtain ⟨v14, h15, hM⟩ := bnd hM
  refine ws_getR cx ffX9_19 h15 dX9_field_1 ?_
  refine ws_aload_n cx dX9_field_4 rfl (j := 0) rfl ?_
  obtain ⟨v16, h17, hM⟩ := bnd hM
  refine ws_getR cx ffX9_12 h17 dX9_field_5 ?_
  obtain ⟨_, h20, hM⟩ := bnd hM
  obtain ⟨q18, h19, hM⟩ := bnd hM
  refine ws_callV cx (rest := []) (st' := [.int q18.1]) (kX3_parse l D b h19) mvX3_parse (ck_k h20) (by decide) (q := (RX3, TX3, 7)) rfl seX3_parse lkX9_96 rfl ⟨by decide, by decide⟩ (Nat.le_of_ble_eq_true rfl) ⟨rfl, rfl⟩ (Or.inl ⟨rfl, rfl⟩) rfl rfl dX9_field_8 ?_
  refine ws_istore_n cx dX9_field_11 rfl (by decide) (lv' := [(1, .int q18.1), (0, .ref (b + o))]) rfl ?_
  refine ws_iload_n cx dX9_field_12 rfl (j := 0) rfl ?_
  refine ws_iconst cx dX9_field_13 (v := -1) (by decide) ?_
  refine ws_icmp_eq cx dX9_field_14 (tgt := 22) (by decide) (fun c21 => ?_) (fun c21 => ?_)
  · have hM := if_t hM c21
    refine ws_aload_n cx dX9_field_22 rfl (j := 1) rfl ?_
    obtain ⟨v22, h23, hM⟩ := bnd hM
    refine ws_getR cx ffX9_26 h23 dX9_field_23 ?_
    refine ws_aload_n cx dX9_field_26 rfl (j := 1) rfl ?_
    obtain ⟨v24, h25, hM⟩ := bnd hM
    refine ws_getR cx ffX9_19 h25 dX9_field_27 ?_
    obtain ⟨v26, h27, hM⟩ := bnd hM
    refine ws_getR cx ffX9_100 h27 dX9_field_30 ?_
    obtain ⟨_, h30, hM⟩ := bnd hM
    obtain ⟨q28, h29, hM⟩ := bnd hM
    refine ws_callV cx (rest := []) (st' := []) (kX6_copy l D b h29) mvX6_copy (ck_k h30) (by decide) (q := (RX6, TX6, 3)) rfl seX6_copy lkX9_101 rfl ⟨by decide, by decide⟩ (Nat.le_of_ble_eq_true rfl) ⟨rfl, rfl⟩ (Or.inl ⟨rfl, rfl⟩) rfl rfl dX9_field_33 ?_
    refine ws_aload_n cx dX9_field_36 rfl (j := 1) rfl ?_
    obtain ⟨v31, h32, hM⟩ := bnd hM
    refine ws_getR cx ffX9_33 h32 dX9_field_37 ?_
    refine ws_aload_n cx dX9_field_40 rfl (j := 1) rfl ?_
    obtain ⟨v33, h34, hM⟩ := bnd hM
    refine ws_getR cx ffX9_19 h34 dX9_field_41 ?_
    obtain ⟨v35, h36, hM⟩ := bnd hM
    refine ws_getR cx ffX9_105 h36 dX9_field_44 ?_
    obtain ⟨_, h39, hM⟩ := bnd hM
    obtain ⟨q37, h38, hM⟩ := bnd hM
    refine ws_callV cx (rest := []) (st' := []) (kX2_copy l D b h38) mvX2_copy (ck_k h39) (by decide) (q := (RX2, TX2, 4)) rfl seX2_copy lkX9_106 rfl ⟨by decide, by decide⟩ (Nat.le_of_ble_eq_true rfl) ⟨rfl, rfl⟩ (Or.inl ⟨rfl, rfl⟩) rfl rfl dX9_field_47 ?_
    refine ws_aload_n cx dX9_field_50 rfl (j := 1) rfl ?_
    obtain ⟨v40, h41, hM⟩ := bnd hM
    refine ws_getR cx ffX9_40 h41 dX9_field_51 ?_
    refine ws_iconst cx dX9_field_54 (v := 0) (by decide) ?_
    obtain ⟨m43, h42, hM⟩ := bnd hM
    refine ws_putI cx ffX9_109 h42 dX9_field_55 ?_
    refine ws_iconst cx dX9_field_58 (v := 0) (by decide) ?_
    refine ws_istore_n cx dX9_field_59 rfl (by decide) (lv' := [(2, .int (0 : Int32)), (1, .int q18.1), (0, .ref (b + o))]) rfl ?_
    refine ws_sub [2, 0] (lv' := [(0, .ref (b + o)), (2, .int (0 : Int32))]) rfl ?_
    exact L60 _ _ _ hM
  · have hM := if_f hM c21
    refine ws_bipush cx dX9_field_17 (v := -10) (by decide) ?_
    refine ws_iload_n cx dX9_field_19 rfl (j := 0) rfl ?_
    refine ws_isub cx dX9_field_20 ?_
    exact ws_iretM cx ex hM dX9_field_21

def mX9_hasStation (S : SH) (me : ME) (o : Nat) (a0 : Int32) : Option (Int32 × ME) :=
  (gR S 9 2 o).bind fun v1 =>
  (gI S me 6 2 v1).bind fun v3 =>
  (mX9_within S me a0 (v3 - (1 : Int32))).bind fun q5 =>
  if q5.1 = 0 ∨ q5.1 = 1 then some (q5.1, q5.2) else none
set_option maxRecDepth 100000 in
set_option maxHeartbeats 4000000 in
theorem kX9_hasStation (l : Launch) (D : va_G) (b : Nat) {S : SH} {me : ME} {o : Nat} {a0 : Int32} {q : Int32 × ME} (hM : mX9_hasStation S me o a0 = some q) : Ct l D b yX9_hasStation cX9_hasStation 2 (some .boolean) 1 21 0 0 [.ref (b + o), .int a0] S me S q.2 (some (.int q.1)) := by
  refine ct_of (own := RX9) (nm := "hasStation") (lv := [(0, .ref (b + o)), (1, .int a0)]) (plainFor_of_name (by decide)) rfl rfl (Nat.le_of_ble_eq_true rfl) rfl ⟨rfl, rfl⟩ (fun X cx ex hL => ?_)
  unfold mX9_hasStation at hM
  refine ws_iload_n cx dX9_hasStation_0 rfl (j := 1) rfl ?_
  refine ws_aload_n cx dX9_hasStation_1 rfl (j := 0) rfl ?_
  obtain ⟨v1, h2, hM⟩ := bnd hM
  refine ws_getR cx ffX9_26 h2 dX9_hasStation_2 ?_
  obtain ⟨v3, h4, hM⟩ := bnd hM
  refine ws_getI cx ffX9_234 h4 dX9_hasStation_5 ?_
  refine ws_iconst cx dX9_hasStation_8 (v := 1) (by decide) ?_
  refine ws_isub cx dX9_hasStation_9 ?_
  obtain ⟨q5, h6, hM⟩ := bnd hM
  refine ws_callS cx (rest := []) (st' := [.int q5.1]) (kX9_within l D b h6) mvX9_within lkX9_84 rfl ⟨by decide, by decide⟩ (Nat.le_of_ble_eq_true rfl) ⟨rfl, rfl⟩ (Or.inl ⟨rfl, rfl⟩) rfl rfl dX9_hasStation_10 ?_
  obtain ⟨h7, hM⟩ := ite_o hM
  exact ws_zretM cx ex h7 hM dX9_hasStation_13

def mX9_station_j16 (S : SH) (o : Nat) (a0 : Int32) (a1 : Int32) (me : ME) : Option (Int32 × ME) :=
  some ((-1 : Int32), me)
def mX9_station (S : SH) (me : ME) (o : Nat) (a0 : Int32) (a1 : Int32) : Option (Int32 × ME) :=
  (ck S 9 o).bind fun _ => (mX9_hasStation S me o a0).bind fun q1 =>
  if q1.1 = 0 then
    mX9_station_j16 S o a0 a1 q1.2
  else
    (mX9_within S q1.2 a1 (2 : Int32)).bind fun q5 =>
    if q5.1 = 0 then
      mX9_station_j16 S o a0 a1 q5.2
    else
      if a1 = (0 : Int32) then
        (gR S 9 2 o).bind fun v9 =>
        (gR S 6 0 v9).bind fun v11 =>
        (aI S q5.2 11 v11 a0).bind fun v13 =>
        some (v13, q5.2)
      else
      if a1 = (1 : Int32) then
        (gR S 9 2 o).bind fun v16 =>
        (gR S 6 1 v16).bind fun v18 =>
        (aI S q5.2 11 v18 a0).bind fun v20 =>
        some (v20, q5.2)
      else
      (gR S 9 3 o).bind fun v22 =>
      (gR S 2 2 v22).bind fun v24 =>
      (aI S q5.2 11 v24 a0).bind fun v26 =>
      some (v26, q5.2)
set_option maxRecDepth 100000 in
set_option maxHeartbeats 4000000 in
theorem kX9_station (l : Launch) (D : va_G) (b : Nat) {S : SH} {me : ME} {o : Nat} {a0 : Int32} {a1 : Int32} {q : Int32 × ME} (hM : mX9_station S me o a0 a1 = some q) : Ct l D b yX9_station cX9_station 3 (some .int) 2 42 0 0 [.ref (b + o), .int a0, .int a1] S me S q.2 (some (.int q.1)) := by
  refine ct_of (own := RX9) (nm := "station") (lv := [(0, .ref (b + o)), (1, .int a0), (2, .int a1)]) (plainFor_of_name (by decide)) rfl rfl (Nat.le_of_ble_eq_true rfl) rfl ⟨rfl, rfl⟩ (fun X cx ex hL => ?_)
  have J16 : ∀ (me : ME), mX9_station_j16 S o a0 a1 me = some q → WS X b 3 S me 16 [] [] := by
    intro  me hM
    unfold mX9_station_j16 at hM
    refine ws_iconst cx dX9_station_16 (v := -1) (by decide) ?_
    exact ws_iretM cx ex hM dX9_station_17
  unfold mX9_station at hM
  refine ws_aload_n cx dX9_station_0 rfl (j := 0) rfl ?_
  refine ws_iload_n cx dX9_station_1 rfl (j := 1) rfl ?_
  obtain ⟨_, h3, hM⟩ := bnd hM
  obtain ⟨q1, h2, hM⟩ := bnd hM
  refine ws_callV cx (rest := []) (st' := [.int q1.1]) (kX9_hasStation l D b h2) mvX9_hasStation (ck_k h3) (by decide) (q := (RX9, TX9, 11)) rfl seX9_hasStation lkX9_113 rfl ⟨by decide, by decide⟩ (Nat.le_of_ble_eq_true rfl) ⟨rfl, rfl⟩ (Or.inl ⟨rfl, rfl⟩) rfl rfl dX9_station_2 ?_
  refine ws_if_eq cx dX9_station_5 (tgt := 16) (by decide) (fun c4 => ?_) (fun c4 => ?_)
  · have hM := if_t hM c4
    refine ws_sub [] (lv' := []) rfl ?_
    exact J16 _ hM
  · have hM := if_f hM c4
    refine ws_iload_n cx dX9_station_8 rfl (j := 2) rfl ?_
    refine ws_iconst cx dX9_station_9 (v := 2) (by decide) ?_
    obtain ⟨q5, h6, hM⟩ := bnd hM
    refine ws_callS cx (rest := []) (st' := [.int q5.1]) (kX9_within l D b h6) mvX9_within lkX9_84 rfl ⟨by decide, by decide⟩ (Nat.le_of_ble_eq_true rfl) ⟨rfl, rfl⟩ (Or.inl ⟨rfl, rfl⟩) rfl rfl dX9_station_10 ?_
    refine ws_if_ne cx dX9_station_13 (tgt := 18) (by decide) (fun c7 => ?_) (fun c7 => ?_)
    · have hM := if_f hM c7
      refine ws_iload_n cx dX9_station_18 rfl (j := 2) rfl ?_
      by_cases c8 : a1 = (0 : Int32)
      · have hM := if_t hM c8
        refine ws_lookup cx dX9_station_19 (tgt := 44) (off := 25) (by decide) (by show Op.lookupswitch.offset [(0, 25), (1, 35)] 45 _ = _; rw [c8]; decide) (by decide) ?_
        refine ws_aload_n cx dX9_station_44 rfl (j := 0) rfl ?_
        obtain ⟨v9, h10, hM⟩ := bnd hM
        refine ws_getR cx ffX9_26 h10 dX9_station_45 ?_
        obtain ⟨v11, h12, hM⟩ := bnd hM
        refine ws_getR cx ffX9_116 h12 dX9_station_48 ?_
        refine ws_iload_n cx dX9_station_51 rfl (j := 1) rfl ?_
        obtain ⟨v13, h14, hM⟩ := bnd hM
        refine ws_iald cx h14 dX9_station_52 ?_
        exact ws_iretM cx ex hM dX9_station_53
      · have hM := if_f hM c8
        by_cases c15 : a1 = (1 : Int32)
        · have hM := if_t hM c15
          refine ws_lookup cx dX9_station_19 (tgt := 54) (off := 35) (by decide) (by show Op.lookupswitch.offset [(0, 25), (1, 35)] 45 _ = _; rw [lv_osw (a := 0) c8 rfl]; rw [c15]; decide) (by decide) ?_
          refine ws_aload_n cx dX9_station_54 rfl (j := 0) rfl ?_
          obtain ⟨v16, h17, hM⟩ := bnd hM
          refine ws_getR cx ffX9_26 h17 dX9_station_55 ?_
          obtain ⟨v18, h19, hM⟩ := bnd hM
          refine ws_getR cx ffX9_120 h19 dX9_station_58 ?_
          refine ws_iload_n cx dX9_station_61 rfl (j := 1) rfl ?_
          obtain ⟨v20, h21, hM⟩ := bnd hM
          refine ws_iald cx h21 dX9_station_62 ?_
          exact ws_iretM cx ex hM dX9_station_63
        · have hM := if_f hM c15
          refine ws_lookup cx dX9_station_19 (tgt := 64) (off := 45) (by decide) (by show Op.lookupswitch.offset [(0, 25), (1, 35)] 45 _ = _; rw [lv_osw (a := 0) c8 rfl, lv_osw (a := 1) c15 rfl]; rfl) (by decide) ?_
          refine ws_aload_n cx dX9_station_64 rfl (j := 0) rfl ?_
          obtain ⟨v22, h23, hM⟩ := bnd hM
          refine ws_getR cx ffX9_33 h23 dX9_station_65 ?_
          obtain ⟨v24, h25, hM⟩ := bnd hM
          refine ws_getR cx ffX9_123 h25 dX9_station_68 ?_
          refine ws_iload_n cx dX9_station_71 rfl (j := 1) rfl ?_
          obtain ⟨v26, h27, hM⟩ := bnd hM
          refine ws_iald cx h27 dX9_station_72 ?_
          exact ws_iretM cx ex hM dX9_station_73
    · have hM := if_t hM c7
      refine ws_sub [] (lv' := []) rfl ?_
      exact J16 _ hM

def mX9_hasReading (S : SH) (me : ME) (o : Nat) (a0 : Int32) : Option (Int32 × ME) :=
  (gR S 9 3 o).bind fun v1 =>
  (gI S me 2 3 v1).bind fun v3 =>
  (mX9_within S me a0 (v3 - (1 : Int32))).bind fun q5 =>
  if q5.1 = 0 ∨ q5.1 = 1 then some (q5.1, q5.2) else none
set_option maxRecDepth 100000 in
set_option maxHeartbeats 4000000 in
theorem kX9_hasReading (l : Launch) (D : va_G) (b : Nat) {S : SH} {me : ME} {o : Nat} {a0 : Int32} {q : Int32 × ME} (hM : mX9_hasReading S me o a0 = some q) : Ct l D b yX9_hasReading cX9_hasReading 2 (some .boolean) 1 21 0 0 [.ref (b + o), .int a0] S me S q.2 (some (.int q.1)) := by
  refine ct_of (own := RX9) (nm := "hasReading") (lv := [(0, .ref (b + o)), (1, .int a0)]) (plainFor_of_name (by decide)) rfl rfl (Nat.le_of_ble_eq_true rfl) rfl ⟨rfl, rfl⟩ (fun X cx ex hL => ?_)
  unfold mX9_hasReading at hM
  refine ws_iload_n cx dX9_hasReading_0 rfl (j := 1) rfl ?_
  refine ws_aload_n cx dX9_hasReading_1 rfl (j := 0) rfl ?_
  obtain ⟨v1, h2, hM⟩ := bnd hM
  refine ws_getR cx ffX9_33 h2 dX9_hasReading_2 ?_
  obtain ⟨v3, h4, hM⟩ := bnd hM
  refine ws_getI cx ffX9_146 h4 dX9_hasReading_5 ?_
  refine ws_iconst cx dX9_hasReading_8 (v := 1) (by decide) ?_
  refine ws_isub cx dX9_hasReading_9 ?_
  obtain ⟨q5, h6, hM⟩ := bnd hM
  refine ws_callS cx (rest := []) (st' := [.int q5.1]) (kX9_within l D b h6) mvX9_within lkX9_84 rfl ⟨by decide, by decide⟩ (Nat.le_of_ble_eq_true rfl) ⟨rfl, rfl⟩ (Or.inl ⟨rfl, rfl⟩) rfl rfl dX9_hasReading_10 ?_
  obtain ⟨h7, hM⟩ := ite_o hM
  exact ws_zretM cx ex h7 hM dX9_hasReading_13

def mX9_timeOf (S : SH) (me : ME) (a0 : Int32) (a1 : Int32) : Option (Int32 × ME) :=
  if a0 = (1 : Int32) then
    some (a1 - (3 : Int32), me)
  else
  if a0 = (2 : Int32) then
    some (a1 + (3 : Int32), me)
  else
  if a0 = (3 : Int32) then
    some (a1 / (2 : Int32), me)
  else
  if a0 = (4 : Int32) then
    some ((60 : Int32) - a1, me)
  else
  some (a1, me)
set_option maxRecDepth 100000 in
set_option maxHeartbeats 4000000 in
theorem kX9_timeOf (l : Launch) (D : va_G) (b : Nat) {S : SH} {me : ME} {a0 : Int32} {a1 : Int32} {q : Int32 × ME} (hM : mX9_timeOf S me a0 a1 = some q) : Ct l D b yX9_timeOf cX9_timeOf 2 (some .int) 0 0 0 0 [.int a0, .int a1] S me S q.2 (some (.int q.1)) := by
  refine ct_of (own := RX9) (nm := "timeOf") (lv := [(0, .int a0), (1, .int a1)]) (plainFor_of_name (by decide)) rfl rfl (Nat.le_of_ble_eq_true rfl) rfl ⟨rfl, rfl⟩ (fun X cx ex hL => ?_)
  unfold mX9_timeOf at hM
  refine ws_iload_n cx dX9_timeOf_0 rfl (j := 0) rfl ?_
  by_cases c1 : a0 = (1 : Int32)
  · have hM := if_t hM c1
    refine ws_tabIn cx dX9_timeOf_1 (tgt := 32) (by rw [c1]; decide) (by rw [c1]; decide) (by rw [c1]; rfl) (by decide) ?_
    refine ws_iload_n cx dX9_timeOf_32 rfl (j := 1) rfl ?_
    refine ws_iconst cx dX9_timeOf_33 (v := 3) (by decide) ?_
    refine ws_isub cx dX9_timeOf_34 ?_
    exact ws_iretM cx ex hM dX9_timeOf_35
  · have hM := if_f hM c1
    by_cases c2 : a0 = (2 : Int32)
    · have hM := if_t hM c2
      refine ws_tabIn cx dX9_timeOf_1 (tgt := 36) (by rw [c2]; decide) (by rw [c2]; decide) (by rw [c2]; rfl) (by decide) ?_
      refine ws_iload_n cx dX9_timeOf_36 rfl (j := 1) rfl ?_
      refine ws_iconst cx dX9_timeOf_37 (v := 3) (by decide) ?_
      refine ws_iadd cx dX9_timeOf_38 ?_
      exact ws_iretM cx ex hM dX9_timeOf_39
    · have hM := if_f hM c2
      by_cases c3 : a0 = (3 : Int32)
      · have hM := if_t hM c3
        refine ws_tabIn cx dX9_timeOf_1 (tgt := 40) (by rw [c3]; decide) (by rw [c3]; decide) (by rw [c3]; rfl) (by decide) ?_
        refine ws_iload_n cx dX9_timeOf_40 rfl (j := 1) rfl ?_
        refine ws_iconst cx dX9_timeOf_41 (v := 2) (by decide) ?_
        refine ws_idiv cx (by decide) dX9_timeOf_42 ?_
        exact ws_iretM cx ex hM dX9_timeOf_43
      · have hM := if_f hM c3
        by_cases c4 : a0 = (4 : Int32)
        · have hM := if_t hM c4
          refine ws_tabIn cx dX9_timeOf_1 (tgt := 44) (by rw [c4]; decide) (by rw [c4]; decide) (by rw [c4]; rfl) (by decide) ?_
          refine ws_bipush cx dX9_timeOf_44 (v := 60) (by decide) ?_
          refine ws_iload_n cx dX9_timeOf_46 rfl (j := 1) rfl ?_
          refine ws_isub cx dX9_timeOf_47 ?_
          exact ws_iretM cx ex hM dX9_timeOf_48
        · have hM := if_f hM c4
          refine ws_tabOut cx dX9_timeOf_1 (tgt := 49) (by have := lv_neT c1 (show ((1 : Int32)).toInt = 1 from rfl); have := lv_neT c2 (show ((2 : Int32)).toInt = 2 from rfl); have := lv_neT c3 (show ((3 : Int32)).toInt = 3 from rfl); have := lv_neT c4 (show ((4 : Int32)).toInt = 4 from rfl); omega) (by decide) ?_
          refine ws_iload_n cx dX9_timeOf_49 rfl (j := 1) rfl ?_
          exact ws_iretM cx ex hM dX9_timeOf_50
