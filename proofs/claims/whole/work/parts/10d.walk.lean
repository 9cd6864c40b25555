def mX9_strikes (S : SH) (me : ME) (o : Nat) (a0 : Int32) : Option (Int32 × ME) :=
  (ck S 9 o).bind fun _ => (mX9_hasReading S me o a0).bind fun q1 =>
  if q1.1 = 0 then
    some ((-1 : Int32), q1.2)
  else
    (gR S 9 4 o).bind fun v5 =>
    (gR S 9 3 o).bind fun v7 =>
    (ck S 4 v5).bind fun _ => (mX4_push S q1.2 v5 v7).bind fun q9 =>
    (gR S 9 3 o).bind fun v12 =>
    (ck S 2 v12).bind fun _ => (mX2_remove S q9.2 v12 a0).bind fun q14 =>
    (gR S 9 3 o).bind fun v17 =>
    (gI S q14.2 2 3 v17).bind fun v19 =>
    some (v19, q14.2)
set_option maxRecDepth 100000 in
set_option maxHeartbeats 4000000 in
theorem kX9_strikes (l : Launch) (D : va_G) (b : Nat) {S : SH} {me : ME} {o : Nat} {a0 : Int32} {q : Int32 × ME} (hM : mX9_strikes S me o a0 = some q) : Ct l D b yX9_strikes cX9_strikes 2 (some .int) 3 60 0 0 [.ref (b + o), .int a0] S me S q.2 (some (.int q.1)) := by
  refine ct_of (own := RX9) (nm := "strikes") (lv := [(0, .ref (b + o)), (1, .int a0)]) (plainFor_of_name (by decide)) rfl rfl (Nat.le_of_ble_eq_true rfl) rfl ⟨rfl, rfl⟩ (fun X cx ex hL => ?_)
  unfold mX9_strikes at hM
  refine ws_aload_n cx dX9_strikes_0 rfl (j := 0) rfl ?_
  refine ws_iload_n cx dX9_strikes_1 rfl (j := 1) rfl ?_
  obtain ⟨_, h3, hM⟩ := bnd hM
  obtain ⟨q1, h2, hM⟩ := bnd hM
  refine ws_callV cx (rest := []) (st' := [.int q1.1]) (kX9_hasReading l D b h2) mvX9_hasReading (ck_k h3) (by decide) (q := (RX9, TX9, 11)) rfl seX9_hasReading lkX9_126 rfl ⟨by decide, by decide⟩ (Nat.le_of_ble_eq_true rfl) ⟨rfl, rfl⟩ (Or.inl ⟨rfl, rfl⟩) rfl rfl dX9_strikes_2 ?_
  refine ws_if_ne cx dX9_strikes_5 (tgt := 10) (by decide) (fun c4 => ?_) (fun c4 => ?_)
  · have hM := if_f hM c4
    refine ws_aload_n cx dX9_strikes_10 rfl (j := 0) rfl ?_
    obtain ⟨v5, h6, hM⟩ := bnd hM
    refine ws_getR cx ffX9_40 h6 dX9_strikes_11 ?_
    refine ws_aload_n cx dX9_strikes_14 rfl (j := 0) rfl ?_
    obtain ⟨v7, h8, hM⟩ := bnd hM
    refine ws_getR cx ffX9_33 h8 dX9_strikes_15 ?_
    obtain ⟨_, h11, hM⟩ := bnd hM
    obtain ⟨q9, h10, hM⟩ := bnd hM
    refine ws_callV cx (rest := []) (st' := []) (kX4_push l D b h10) mvX4_push (ck_k h11) (by decide) (q := (RX4, TX4, 3)) rfl seX4_push lkX9_147 rfl ⟨by decide, by decide⟩ (Nat.le_of_ble_eq_true rfl) ⟨rfl, rfl⟩ (Or.inl ⟨rfl, rfl⟩) rfl rfl dX9_strikes_18 ?_
    refine ws_aload_n cx dX9_strikes_21 rfl (j := 0) rfl ?_
    obtain ⟨v12, h13, hM⟩ := bnd hM
    refine ws_getR cx ffX9_33 h13 dX9_strikes_22 ?_
    refine ws_iload_n cx dX9_strikes_25 rfl (j := 1) rfl ?_
    obtain ⟨_, h16, hM⟩ := bnd hM
    obtain ⟨q14, h15, hM⟩ := bnd hM
    refine ws_callV cx (rest := []) (st' := []) (kX2_remove l D b h15) mvX2_remove (ck_k h16) (by decide) (q := (RX2, TX2, 4)) rfl seX2_remove lkX9_153 rfl ⟨by decide, by decide⟩ (Nat.le_of_ble_eq_true rfl) ⟨rfl, rfl⟩ (Or.inl ⟨rfl, rfl⟩) rfl rfl dX9_strikes_26 ?_
    refine ws_aload_n cx dX9_strikes_29 rfl (j := 0) rfl ?_
    obtain ⟨v17, h18, hM⟩ := bnd hM
    refine ws_getR cx ffX9_33 h18 dX9_strikes_30 ?_
    obtain ⟨v19, h20, hM⟩ := bnd hM
    refine ws_getI cx ffX9_146 h20 dX9_strikes_33 ?_
    exact ws_iretM cx ex hM dX9_strikes_36
  · have hM := if_t hM c4
    refine ws_iconst cx dX9_strikes_8 (v := -1) (by decide) ?_
    exact ws_iretM cx ex hM dX9_strikes_9

def mX9_sets_j16 (S : SH) (o : Nat) (a0 : Int32) (a1 : Int32) (me : ME) : Option (Int32 × ME) :=
  some ((-1 : Int32), me)
def mX9_sets (S : SH) (me : ME) (o : Nat) (a0 : Int32) (a1 : Int32) : Option (Int32 × ME) :=
  (ck S 9 o).bind fun _ => (mX9_hasStation S me o a0).bind fun q1 =>
  if q1.1 = 0 then
    mX9_sets_j16 S o a0 a1 q1.2
  else
    (mX9_within S q1.2 a1 (4 : Int32)).bind fun q5 =>
    if q5.1 = 0 then
      mX9_sets_j16 S o a0 a1 q5.2
    else
      (gR S 9 3 o).bind fun v8 =>
      (gR S 2 2 v8).bind fun v10 =>
      (aI S q5.2 11 v10 a0).bind fun v12 =>
      if v12 = a1 then
        some ((-2 : Int32), q5.2)
      else
        (gR S 9 4 o).bind fun v15 =>
        (gR S 9 3 o).bind fun v17 =>
        (ck S 4 v15).bind fun _ => (mX4_push S q5.2 v15 v17).bind fun q19 =>
        (gR S 9 3 o).bind fun v22 =>
        (gR S 2 2 v22).bind fun v24 =>
        (uI S q19.2 v24 a0 a1).bind fun m27 =>
        some (v12, m27)
set_option maxRecDepth 100000 in
set_option maxHeartbeats 4000000 in
theorem kX9_sets (l : Launch) (D : va_G) (b : Nat) {S : SH} {me : ME} {o : Nat} {a0 : Int32} {a1 : Int32} {q : Int32 × ME} (hM : mX9_sets S me o a0 a1 = some q) : Ct l D b yX9_sets cX9_sets 4 (some .int) 3 60 0 0 [.ref (b + o), .int a0, .int a1] S me S q.2 (some (.int q.1)) := by
  refine ct_of (own := RX9) (nm := "sets") (lv := [(0, .ref (b + o)), (1, .int a0), (2, .int a1)]) (plainFor_of_name (by decide)) rfl rfl (Nat.le_of_ble_eq_true rfl) rfl ⟨rfl, rfl⟩ (fun X cx ex hL => ?_)
  have J16 : ∀ (me : ME), mX9_sets_j16 S o a0 a1 me = some q → WS X b 4 S me 16 [] [] := by
    intro  me hM
    unfold mX9_sets_j16 at hM
    refine ws_iconst cx dX9_sets_16 (v := -1) (by decide) ?_
    exact ws_iretM cx ex hM dX9_sets_17
  unfold mX9_sets at hM
  refine ws_aload_n cx dX9_sets_0 rfl (j := 0) rfl ?_
  refine ws_iload_n cx dX9_sets_1 rfl (j := 1) rfl ?_
  obtain ⟨_, h3, hM⟩ := bnd hM
  obtain ⟨q1, h2, hM⟩ := bnd hM
  refine ws_callV cx (rest := []) (st' := [.int q1.1]) (kX9_hasStation l D b h2) mvX9_hasStation (ck_k h3) (by decide) (q := (RX9, TX9, 11)) rfl seX9_hasStation lkX9_113 rfl ⟨by decide, by decide⟩ (Nat.le_of_ble_eq_true rfl) ⟨rfl, rfl⟩ (Or.inl ⟨rfl, rfl⟩) rfl rfl dX9_sets_2 ?_
  refine ws_if_eq cx dX9_sets_5 (tgt := 16) (by decide) (fun c4 => ?_) (fun c4 => ?_)
  · have hM := if_t hM c4
    refine ws_sub [] (lv' := []) rfl ?_
    exact J16 _ hM
  · have hM := if_f hM c4
    refine ws_iload_n cx dX9_sets_8 rfl (j := 2) rfl ?_
    refine ws_iconst cx dX9_sets_9 (v := 4) (by decide) ?_
    obtain ⟨q5, h6, hM⟩ := bnd hM
    refine ws_callS cx (rest := []) (st' := [.int q5.1]) (kX9_within l D b h6) mvX9_within lkX9_84 rfl ⟨by decide, by decide⟩ (Nat.le_of_ble_eq_true rfl) ⟨rfl, rfl⟩ (Or.inl ⟨rfl, rfl⟩) rfl rfl dX9_sets_10 ?_
    refine ws_if_ne cx dX9_sets_13 (tgt := 18) (by decide) (fun c7 => ?_) (fun c7 => ?_)
    · have hM := if_f hM c7
      refine ws_aload_n cx dX9_sets_18 rfl (j := 0) rfl ?_
      obtain ⟨v8, h9, hM⟩ := bnd hM
      refine ws_getR cx ffX9_33 h9 dX9_sets_19 ?_
      obtain ⟨v10, h11, hM⟩ := bnd hM
      refine ws_getR cx ffX9_123 h11 dX9_sets_22 ?_
      refine ws_iload_n cx dX9_sets_25 rfl (j := 1) rfl ?_
      obtain ⟨v12, h13, hM⟩ := bnd hM
      refine ws_iald cx h13 dX9_sets_26 ?_
      refine ws_istore_n cx dX9_sets_27 rfl (by decide) (lv' := [(3, .int v12), (0, .ref (b + o)), (1, .int a0), (2, .int a1)]) rfl ?_
      refine ws_iload_n cx dX9_sets_28 rfl (j := 0) rfl ?_
      refine ws_iload_n cx dX9_sets_29 rfl (j := 3) rfl ?_
      refine ws_icmp_ne cx dX9_sets_30 (tgt := 36) (by decide) (fun c14 => ?_) (fun c14 => ?_)
      · have hM := if_f hM c14
        refine ws_aload_n cx dX9_sets_36 rfl (j := 1) rfl ?_
        obtain ⟨v15, h16, hM⟩ := bnd hM
        refine ws_getR cx ffX9_40 h16 dX9_sets_37 ?_
        refine ws_aload_n cx dX9_sets_40 rfl (j := 1) rfl ?_
        obtain ⟨v17, h18, hM⟩ := bnd hM
        refine ws_getR cx ffX9_33 h18 dX9_sets_41 ?_
        obtain ⟨_, h21, hM⟩ := bnd hM
        obtain ⟨q19, h20, hM⟩ := bnd hM
        refine ws_callV cx (rest := []) (st' := []) (kX4_push l D b h20) mvX4_push (ck_k h21) (by decide) (q := (RX4, TX4, 3)) rfl seX4_push lkX9_147 rfl ⟨by decide, by decide⟩ (Nat.le_of_ble_eq_true rfl) ⟨rfl, rfl⟩ (Or.inl ⟨rfl, rfl⟩) rfl rfl dX9_sets_44 ?_
        refine ws_aload_n cx dX9_sets_47 rfl (j := 1) rfl ?_
        obtain ⟨v22, h23, hM⟩ := bnd hM
        refine ws_getR cx ffX9_33 h23 dX9_sets_48 ?_
        obtain ⟨v24, h25, hM⟩ := bnd hM
        refine ws_getR cx ffX9_123 h25 dX9_sets_51 ?_
        refine ws_iload_n cx dX9_sets_54 rfl (j := 2) rfl ?_
        refine ws_iload_n cx dX9_sets_55 rfl (j := 3) rfl ?_
        obtain ⟨m27, h26, hM⟩ := bnd hM
        refine ws_iast cx h26 dX9_sets_56 ?_
        refine ws_iload_n cx dX9_sets_57 rfl (j := 0) rfl ?_
        exact ws_iretM cx ex hM dX9_sets_58
      · have hM := if_t hM c14
        refine ws_bipush cx dX9_sets_33 (v := -2) (by decide) ?_
        exact ws_iretM cx ex hM dX9_sets_35
    · have hM := if_t hM c7
      refine ws_sub [] (lv' := []) rfl ?_
      exact J16 _ hM

def mX4_pop (S : SH) (me : ME) (o : Nat) (a0 : Nat) : Option (Unit × ME) :=
  (gI S me 4 1 o).bind fun v1 =>
  (sI S me 4 1 o (((v1 + (10 : Int32)) - (1 : Int32)) - ((v1 + (10 : Int32)) - (1 : Int32)) / (10 : Int32) * (10 : Int32))).bind fun m4 =>
  (gR S 4 0 o).bind fun v5 =>
  (gI S m4 4 1 o).bind fun v7 =>
  (aR S 14 v5 v7).bind fun v9 =>
  (ck S 2 a0).bind fun _ => (mX2_copy S m4 a0 v9).bind fun q11 =>
  (gI S q11.2 4 2 o).bind fun v14 =>
  (sI S q11.2 4 2 o (v14 - (1 : Int32))).bind fun m17 =>
  some ((), m17)
set_option maxRecDepth 100000 in
set_option maxHeartbeats 4000000 in
theorem kX4_pop (l : Launch) (D : va_G) (b : Nat) {S : SH} {me : ME} {o : Nat} {a0 : Nat} {q : Unit × ME} (hM : mX4_pop S me o a0 = some q) : Ct l D b yX4_pop cX4_pop 2 none 2 39 0 0 [.ref (b + o), .ref (b + a0)] S me S q.2 none := by
  refine ct_of (own := RX4) (nm := "pop") (lv := [(0, .ref (b + o)), (1, .ref (b + a0))]) (plainFor_of_name (by decide)) rfl rfl (Nat.le_of_ble_eq_true rfl) rfl ⟨rfl, rfl⟩ (fun X cx ex hL => ?_)
  unfold mX4_pop at hM
  refine ws_aload_n cx dX4_pop_0 rfl (j := 0) rfl ?_
  refine ws_aload_n cx dX4_pop_1 rfl (j := 0) rfl ?_
  obtain ⟨v1, h2, hM⟩ := bnd hM
  refine ws_getI cx ffX4_18 h2 dX4_pop_2 ?_
  refine ws_bipush cx dX4_pop_5 (v := 10) (by decide) ?_
  refine ws_iadd cx dX4_pop_7 ?_
  refine ws_iconst cx dX4_pop_8 (v := 1) (by decide) ?_
  refine ws_isub cx dX4_pop_9 ?_
  refine ws_bipush cx dX4_pop_10 (v := 10) (by decide) ?_
  refine ws_irem cx (by decide) dX4_pop_12 ?_
  obtain ⟨m4, h3, hM⟩ := bnd hM
  refine ws_putI cx ffX4_18 h3 dX4_pop_13 ?_
  refine ws_aload_n cx dX4_pop_16 rfl (j := 1) rfl ?_
  refine ws_aload_n cx dX4_pop_17 rfl (j := 0) rfl ?_
  obtain ⟨v5, h6, hM⟩ := bnd hM
  refine ws_getR cx ffX4_11 h6 dX4_pop_18 ?_
  refine ws_aload_n cx dX4_pop_21 rfl (j := 0) rfl ?_
  obtain ⟨v7, h8, hM⟩ := bnd hM
  refine ws_getI cx ffX4_18 h8 dX4_pop_22 ?_
  obtain ⟨v9, h10, hM⟩ := bnd hM
  refine ws_aald cx (by decide) h10 dX4_pop_25 ?_
  obtain ⟨_, h13, hM⟩ := bnd hM
  obtain ⟨q11, h12, hM⟩ := bnd hM
  refine ws_callV cx (rest := []) (st' := []) (kX2_copy l D b h12) mvX2_copy (ck_k h13) (by decide) (q := (RX2, TX2, 4)) rfl seX2_copy lkX4_22 rfl ⟨by decide, by decide⟩ (Nat.le_of_ble_eq_true rfl) ⟨rfl, rfl⟩ (Or.inl ⟨rfl, rfl⟩) rfl rfl dX4_pop_26 ?_
  refine ws_aload_n cx dX4_pop_29 rfl (j := 0) rfl ?_
  refine ws_dup cx dX4_pop_30 rfl ?_
  obtain ⟨v14, h15, hM⟩ := bnd hM
  refine ws_getI cx ffX4_26 h15 dX4_pop_31 ?_
  refine ws_iconst cx dX4_pop_34 (v := 1) (by decide) ?_
  refine ws_isub cx dX4_pop_35 ?_
  obtain ⟨m17, h16, hM⟩ := bnd hM
  refine ws_putI cx ffX4_26 h16 dX4_pop_36 ?_
  exact ws_vretM cx ex hM dX4_pop_39

def mX9_undo (S : SH) (me : ME) (o : Nat) : Option (Int32 × ME) :=
  (gR S 9 4 o).bind fun v1 =>
  (gI S me 4 2 v1).bind fun v3 =>
  if 0 < v3 then
    (gR S 9 4 o).bind fun v6 =>
    (gR S 9 3 o).bind fun v8 =>
    (ck S 4 v6).bind fun _ => (mX4_pop S me v6 v8).bind fun q10 =>
    (gR S 9 4 o).bind fun v13 =>
    (gI S q10.2 4 2 v13).bind fun v15 =>
    some (v15, q10.2)
  else
    some ((-2 : Int32), me)
set_option maxRecDepth 100000 in
set_option maxHeartbeats 4000000 in
theorem kX9_undo (l : Launch) (D : va_G) (b : Nat) {S : SH} {me : ME} {o : Nat} {q : Int32 × ME} (hM : mX9_undo S me o = some q) : Ct l D b yX9_undo cX9_undo 1 (some .int) 3 60 0 0 [.ref (b + o)] S me S q.2 (some (.int q.1)) := by
  refine ct_of (own := RX9) (nm := "undo") (lv := [(0, .ref (b + o))]) (plainFor_of_name (by decide)) rfl rfl (Nat.le_of_ble_eq_true rfl) rfl ⟨rfl, rfl⟩ (fun X cx ex hL => ?_)
  unfold mX9_undo at hM
  refine ws_aload_n cx dX9_undo_0 rfl (j := 0) rfl ?_
  obtain ⟨v1, h2, hM⟩ := bnd hM
  refine ws_getR cx ffX9_40 h2 dX9_undo_1 ?_
  obtain ⟨v3, h4, hM⟩ := bnd hM
  refine ws_getI cx ffX9_109 h4 dX9_undo_4 ?_
  refine ws_if_gt cx dX9_undo_7 (tgt := 13) (by decide) (fun c5 => ?_) (fun c5 => ?_)
  · have hM := if_t hM c5
    refine ws_aload_n cx dX9_undo_13 rfl (j := 0) rfl ?_
    obtain ⟨v6, h7, hM⟩ := bnd hM
    refine ws_getR cx ffX9_40 h7 dX9_undo_14 ?_
    refine ws_aload_n cx dX9_undo_17 rfl (j := 0) rfl ?_
    obtain ⟨v8, h9, hM⟩ := bnd hM
    refine ws_getR cx ffX9_33 h9 dX9_undo_18 ?_
    obtain ⟨_, h12, hM⟩ := bnd hM
    obtain ⟨q10, h11, hM⟩ := bnd hM
    refine ws_callV cx (rest := []) (st' := []) (kX4_pop l D b h11) mvX4_pop (ck_k h12) (by decide) (q := (RX4, TX4, 3)) rfl seX4_pop lkX9_157 rfl ⟨by decide, by decide⟩ (Nat.le_of_ble_eq_true rfl) ⟨rfl, rfl⟩ (Or.inl ⟨rfl, rfl⟩) rfl rfl dX9_undo_21 ?_
    refine ws_aload_n cx dX9_undo_24 rfl (j := 0) rfl ?_
    obtain ⟨v13, h14, hM⟩ := bnd hM
    refine ws_getR cx ffX9_40 h14 dX9_undo_25 ?_
    obtain ⟨v15, h16, hM⟩ := bnd hM
    refine ws_getI cx ffX9_109 h16 dX9_undo_28 ?_
    exact ws_iretM cx ex hM dX9_undo_31
  · have hM := if_f hM c5
    refine ws_bipush cx dX9_undo_10 (v := -2) (by decide) ?_
    exact ws_iretM cx ex hM dX9_undo_12

def mX7_firstOf_j21 (S : SH) (o : Nat) (a0 : Int32) (me : ME) (x2 : Int32) : Option (Int32 × ME) :=
  some (x2, me)
def mX7_firstOf_j29 (S : SH) (o : Nat) (a0 : Int32) (me : ME) : Option (Int32 × ME) :=
  (gR S 7 0 o).bind fun v1 =>
  (gI S me 5 4 v1).bind fun v3 =>
  some (v3, me)
def mX7_firstOf_L2 (S : SH) (o : Nat) (a0 : Int32) (k2 : (ME × Int32 → Option (Int32 × ME))) : ME × Int32 → Option (Int32 × ME)
  | (me, x2) =>
    (gR S 7 0 o).bind fun v5 =>
    (gI S me 5 4 v5).bind fun v7 =>
    if v7 ≤ x2 then
      mX7_firstOf_j29 S o a0 me
    else
      (mX9_holds S me a0 x2).bind fun q10 =>
      if q10.1 = 0 then
        k2 (q10.2, x2 + (1 : Int32))
      else
        mX7_firstOf_j21 S o a0 q10.2 x2
def mX7_firstOf (S : SH) (me : ME) (o : Nat) (a0 : Int32) : Option (Int32 × ME) :=
  lpn (mX7_firstOf_L2 S o a0) lpF (me, (0 : Int32))
set_option maxRecDepth 100000 in
set_option maxHeartbeats 4000000 in
theorem kX7_firstOf (l : Launch) (D : va_G) (b : Nat) {S : SH} {me : ME} {o : Nat} {a0 : Int32} {q : Int32 × ME} (hM : mX7_firstOf S me o a0 = some q) : Ct l D b yX7_firstOf cX7_firstOf 3 (some .int) 1 21 0 0 [.ref (b + o), .int a0] S me S q.2 (some (.int q.1)) := by
  refine ct_of (own := RX7) (nm := "firstOf") (lv := [(0, .ref (b + o)), (1, .int a0)]) (plainFor_of_name (by decide)) rfl rfl (Nat.le_of_ble_eq_true rfl) rfl ⟨rfl, rfl⟩ (fun X cx ex hL => ?_)
  have J21 : ∀ (me : ME) (x2 : Int32), mX7_firstOf_j21 S o a0 me x2 = some q → WS X b 3 S me 21 [(2, .int x2)] [] := by
    intro  me x2 hM
    unfold mX7_firstOf_j21 at hM
    refine ws_iload_n cx dX7_firstOf_21 rfl (j := 0) rfl ?_
    exact ws_iretM cx ex hM dX7_firstOf_22
  have J29 : ∀ (me : ME), mX7_firstOf_j29 S o a0 me = some q → WS X b 3 S me 29 [(0, .ref (b + o))] [] := by
    intro  me hM
    unfold mX7_firstOf_j29 at hM
    refine ws_aload_n cx dX7_firstOf_29 rfl (j := 0) rfl ?_
    obtain ⟨v1, h2, hM⟩ := bnd hM
    refine ws_getR cx ffX7_16 h2 dX7_firstOf_30 ?_
    obtain ⟨v3, h4, hM⟩ := bnd hM
    refine ws_getI cx ffX7_73 h4 dX7_firstOf_33 ?_
    exact ws_iretM cx ex hM dX7_firstOf_36
  have L2 : ∀ (n : Nat) (me : ME) (x2 : Int32), lpn (mX7_firstOf_L2 S o a0) n (me, x2) = some q → WS X b 3 S me 2 [(0, .ref (b + o)), (1, .int a0), (2, .int x2)] [] := by
    intro  n
    induction n with
    | zero => intro me x2 hM; exact absurd hM (by intro h; cases h)
    | succ n ih =>
      intro me x2 hM
      have hM : mX7_firstOf_L2 S o a0 (lpn (mX7_firstOf_L2 S o a0) n) (me, x2) = some q := hM
      unfold mX7_firstOf_L2 at hM
      refine ws_iload_n cx dX7_firstOf_2 rfl (j := 2) rfl ?_
      refine ws_aload_n cx dX7_firstOf_3 rfl (j := 0) rfl ?_
      obtain ⟨v5, h6, hM⟩ := bnd hM
      refine ws_getR cx ffX7_16 h6 dX7_firstOf_4 ?_
      obtain ⟨v7, h8, hM⟩ := bnd hM
      refine ws_getI cx ffX7_73 h8 dX7_firstOf_7 ?_
      refine ws_icmp_ge cx dX7_firstOf_10 (tgt := 29) (by decide) (fun c9 => ?_) (fun c9 => ?_)
      · have hM := if_t hM c9
        refine ws_sub [0] (lv' := [(0, .ref (b + o))]) rfl ?_
        exact J29 _ hM
      · have hM := if_f hM c9
        refine ws_iload_n cx dX7_firstOf_13 rfl (j := 1) rfl ?_
        refine ws_iload_n cx dX7_firstOf_14 rfl (j := 2) rfl ?_
        obtain ⟨q10, h11, hM⟩ := bnd hM
        refine ws_callSN cx (rest := []) (st' := [.int q10.1]) (kX9_holds l D b h11) mvX9_holds lnX7_74 rfl ⟨by decide, by decide⟩ (Nat.le_of_ble_eq_true rfl) ⟨rfl, rfl⟩ (Or.inl ⟨rfl, rfl⟩) rfl rfl dX7_firstOf_15 ?_
        refine ws_if_eq cx dX7_firstOf_18 (tgt := 23) (by decide) (fun c12 => ?_) (fun c12 => ?_)
        · have hM := if_t hM c12
          refine ws_iinc cx dX7_firstOf_23 (j := 2) rfl (v := x2 + (1 : Int32)) rfl (by decide) (lv' := [(2, .int (x2 + (1 : Int32))), (0, .ref (b + o)), (1, .int a0)]) rfl ?_
          refine ws_goto cx dX7_firstOf_26 (tgt := 2) (by decide) ?_
          refine ws_sub [1, 2, 0] (lv' := [(0, .ref (b + o)), (1, .int a0), (2, .int (x2 + (1 : Int32)))]) rfl ?_
          exact ih _ _ hM
        · have hM := if_f hM c12
          refine ws_sub [2] (lv' := [(2, .int x2)]) rfl ?_
          exact J21 _ _ hM
  unfold mX7_firstOf at hM
  refine ws_iconst cx dX7_firstOf_0 (v := 0) (by decide) ?_
  refine ws_istore_n cx dX7_firstOf_1 rfl (by decide) (lv' := [(2, .int (0 : Int32)), (0, .ref (b + o)), (1, .int a0)]) rfl ?_
  refine ws_sub [1, 2, 0] (lv' := [(0, .ref (b + o)), (1, .int a0), (2, .int (0 : Int32))]) rfl ?_
  exact L2 _ _ _ hM

def mX7_squares (S : SH) (me : ME) (o : Nat) (a0 : Int32) : Option (Int32 × ME) :=
  (gR S 7 0 o).bind fun v1 =>
  (gR S 5 1 v1).bind fun v3 =>
  (aI S me 11 v3 a0).bind fun v5 =>
  (gR S 7 0 o).bind fun v7 =>
  (gR S 5 1 v7).bind fun v9 =>
  (aI S me 11 v9 a0).bind fun v11 =>
  (gR S 7 0 o).bind fun v13 =>
  (gR S 5 2 v13).bind fun v15 =>
  (aI S me 11 v15 a0).bind fun v17 =>
  (gR S 7 0 o).bind fun v19 =>
  (gR S 5 2 v19).bind fun v21 =>
  (aI S me 11 v21 a0).bind fun v23 =>
  (gR S 7 0 o).bind fun v25 =>
  (gR S 5 3 v25).bind fun v27 =>
  (aI S me 11 v27 a0).bind fun v29 =>
  (gR S 7 0 o).bind fun v31 =>
  (gR S 5 3 v31).bind fun v33 =>
  (aI S me 11 v33 a0).bind fun v35 =>
  some (((v5 * v11) + (v17 * v23)) - (v29 * v35), me)
set_option maxRecDepth 100000 in
set_option maxHeartbeats 4000000 in
theorem kX7_squares (l : Launch) (D : va_G) (b : Nat) {S : SH} {me : ME} {o : Nat} {a0 : Int32} {q : Int32 × ME} (hM : mX7_squares S me o a0 = some q) : Ct l D b yX7_squares cX7_squares 2 (some .int) 0 0 0 0 [.ref (b + o), .int a0] S me S q.2 (some (.int q.1)) := by
  refine ct_of (own := RX7) (nm := "squares") (lv := [(0, .ref (b + o)), (1, .int a0)]) (plainFor_of_name (by decide)) rfl rfl (Nat.le_of_ble_eq_true rfl) rfl ⟨rfl, rfl⟩ (fun X cx ex hL => ?_)
  unfold mX7_squares at hM
  refine ws_aload_n cx dX7_squares_0 rfl (j := 0) rfl ?_
  obtain ⟨v1, h2, hM⟩ := bnd hM
  refine ws_getR cx ffX7_16 h2 dX7_squares_1 ?_
  obtain ⟨v3, h4, hM⟩ := bnd hM
  refine ws_getR cx ffX7_66 h4 dX7_squares_4 ?_
  refine ws_iload_n cx dX7_squares_7 rfl (j := 1) rfl ?_
  obtain ⟨v5, h6, hM⟩ := bnd hM
  refine ws_iald cx h6 dX7_squares_8 ?_
  refine ws_aload_n cx dX7_squares_9 rfl (j := 0) rfl ?_
  obtain ⟨v7, h8, hM⟩ := bnd hM
  refine ws_getR cx ffX7_16 h8 dX7_squares_10 ?_
  obtain ⟨v9, h10, hM⟩ := bnd hM
  refine ws_getR cx ffX7_66 h10 dX7_squares_13 ?_
  refine ws_iload_n cx dX7_squares_16 rfl (j := 1) rfl ?_
  obtain ⟨v11, h12, hM⟩ := bnd hM
  refine ws_iald cx h12 dX7_squares_17 ?_
  refine ws_imul cx dX7_squares_18 ?_
  refine ws_aload_n cx dX7_squares_19 rfl (j := 0) rfl ?_
  obtain ⟨v13, h14, hM⟩ := bnd hM
  refine ws_getR cx ffX7_16 h14 dX7_squares_20 ?_
  obtain ⟨v15, h16, hM⟩ := bnd hM
  refine ws_getR cx ffX7_68 h16 dX7_squares_23 ?_
  refine ws_iload_n cx dX7_squares_26 rfl (j := 1) rfl ?_
  obtain ⟨v17, h18, hM⟩ := bnd hM
  refine ws_iald cx h18 dX7_squares_27 ?_
  refine ws_aload_n cx dX7_squares_28 rfl (j := 0) rfl ?_
  obtain ⟨v19, h20, hM⟩ := bnd hM
  refine ws_getR cx ffX7_16 h20 dX7_squares_29 ?_
  obtain ⟨v21, h22, hM⟩ := bnd hM
  refine ws_getR cx ffX7_68 h22 dX7_squares_32 ?_
  refine ws_iload_n cx dX7_squares_35 rfl (j := 1) rfl ?_
  obtain ⟨v23, h24, hM⟩ := bnd hM
  refine ws_iald cx h24 dX7_squares_36 ?_
  refine ws_imul cx dX7_squares_37 ?_
  refine ws_iadd cx dX7_squares_38 ?_
  refine ws_aload_n cx dX7_squares_39 rfl (j := 0) rfl ?_
  obtain ⟨v25, h26, hM⟩ := bnd hM
  refine ws_getR cx ffX7_16 h26 dX7_squares_40 ?_
  obtain ⟨v27, h28, hM⟩ := bnd hM
  refine ws_getR cx ffX7_40 h28 dX7_squares_43 ?_
  refine ws_iload_n cx dX7_squares_46 rfl (j := 1) rfl ?_
  obtain ⟨v29, h30, hM⟩ := bnd hM
  refine ws_iald cx h30 dX7_squares_47 ?_
  refine ws_aload_n cx dX7_squares_48 rfl (j := 0) rfl ?_
  obtain ⟨v31, h32, hM⟩ := bnd hM
  refine ws_getR cx ffX7_16 h32 dX7_squares_49 ?_
  obtain ⟨v33, h34, hM⟩ := bnd hM
  refine ws_getR cx ffX7_40 h34 dX7_squares_52 ?_
  refine ws_iload_n cx dX7_squares_55 rfl (j := 1) rfl ?_
  obtain ⟨v35, h36, hM⟩ := bnd hM
  refine ws_iald cx h36 dX7_squares_56 ?_
  refine ws_imul cx dX7_squares_57 ?_
  refine ws_isub cx dX7_squares_58 ?_
  exact ws_iretM cx ex hM dX7_squares_59

def mX7_loadEquation (S : SH) (me : ME) (o : Nat) (a0 : Nat) (a1 : Int32) (a2 : Int32) : Option (Unit × ME) :=
  (gR S 7 0 o).bind fun v1 =>
  (gR S 5 1 v1).bind fun v3 =>
  (aI S me 11 v3 a2).bind fun v5 =>
  (gR S 7 0 o).bind fun v7 =>
  (gR S 5 1 v7).bind fun v9 =>
  (aI S me 11 v9 a1).bind fun v11 =>
  (uJ S me a0 (0 : Int32) (((2 : Int32) * (v5 - v11)).toInt64)).bind fun m14 =>
  (gR S 7 0 o).bind fun v15 =>
  (gR S 5 2 v15).bind fun v17 =>
  (aI S m14 11 v17 a2).bind fun v19 =>
  (gR S 7 0 o).bind fun v21 =>
  (gR S 5 2 v21).bind fun v23 =>
  (aI S m14 11 v23 a1).bind fun v25 =>
  (uJ S m14 a0 (1 : Int32) (((2 : Int32) * (v19 - v25)).toInt64)).bind fun m28 =>
  (gR S 7 0 o).bind fun v29 =>
  (gR S 5 3 v29).bind fun v31 =>
  (aI S m28 11 v31 a2).bind fun v33 =>
  (gR S 7 0 o).bind fun v35 =>
  (gR S 5 3 v35).bind fun v37 =>
  (aI S m28 11 v37 a1).bind fun v39 =>
  (uJ S m28 a0 (2 : Int32) (((-2 : Int32) * (v33 - v39)).toInt64)).bind fun m42 =>
  (ck S 7 o).bind fun _ => (mX7_squares S m42 o a2).bind fun q43 =>
  (ck S 7 o).bind fun _ => (mX7_squares S q43.2 o a1).bind fun q46 =>
  (uJ S q46.2 a0 (3 : Int32) ((q43.1 - q46.1).toInt64)).bind fun m50 =>
  some ((), m50)
set_option maxRecDepth 100000 in
set_option maxHeartbeats 4000000 in
theorem kX7_loadEquation (l : Launch) (D : va_G) (b : Nat) {S : SH} {me : ME} {o : Nat} {a0 : Nat} {a1 : Int32} {a2 : Int32} {q : Unit × ME} (hM : mX7_loadEquation S me o a0 a1 a2 = some q) : Ct l D b yX7_loadEquation cX7_loadEquation 4 none 1 21 0 0 [.ref (b + o), .ref (b + a0), .int a1, .int a2] S me S q.2 none := by
  refine ct_of (own := RX7) (nm := "loadEquation") (lv := [(0, .ref (b + o)), (1, .ref (b + a0)), (2, .int a1), (3, .int a2)]) (plainFor_of_name (by decide)) rfl rfl (Nat.le_of_ble_eq_true rfl) rfl ⟨rfl, rfl⟩ (fun X cx ex hL => ?_)
  unfold mX7_loadEquation at hM
  refine ws_aload_n cx dX7_loadEquation_0 rfl (j := 1) rfl ?_
  refine ws_iconst cx dX7_loadEquation_1 (v := 0) (by decide) ?_
  refine ws_iconst cx dX7_loadEquation_2 (v := 2) (by decide) ?_
  refine ws_aload_n cx dX7_loadEquation_3 rfl (j := 0) rfl ?_
  obtain ⟨v1, h2, hM⟩ := bnd hM
  refine ws_getR cx ffX7_16 h2 dX7_loadEquation_4 ?_
  obtain ⟨v3, h4, hM⟩ := bnd hM
  refine ws_getR cx ffX7_66 h4 dX7_loadEquation_7 ?_
  refine ws_iload_n cx dX7_loadEquation_10 rfl (j := 3) rfl ?_
  obtain ⟨v5, h6, hM⟩ := bnd hM
  refine ws_iald cx h6 dX7_loadEquation_11 ?_
  refine ws_aload_n cx dX7_loadEquation_12 rfl (j := 0) rfl ?_
  obtain ⟨v7, h8, hM⟩ := bnd hM
  refine ws_getR cx ffX7_16 h8 dX7_loadEquation_13 ?_
  obtain ⟨v9, h10, hM⟩ := bnd hM
  refine ws_getR cx ffX7_66 h10 dX7_loadEquation_16 ?_
  refine ws_iload_n cx dX7_loadEquation_19 rfl (j := 2) rfl ?_
  obtain ⟨v11, h12, hM⟩ := bnd hM
  refine ws_iald cx h12 dX7_loadEquation_20 ?_
  refine ws_isub cx dX7_loadEquation_21 ?_
  refine ws_imul cx dX7_loadEquation_22 ?_
  refine ws_i2l cx dX7_loadEquation_23 ?_
  obtain ⟨m14, h13, hM⟩ := bnd hM
  refine ws_last cx h13 dX7_loadEquation_24 ?_
  refine ws_aload_n cx dX7_loadEquation_25 rfl (j := 1) rfl ?_
  refine ws_iconst cx dX7_loadEquation_26 (v := 1) (by decide) ?_
  refine ws_iconst cx dX7_loadEquation_27 (v := 2) (by decide) ?_
  refine ws_aload_n cx dX7_loadEquation_28 rfl (j := 0) rfl ?_
  obtain ⟨v15, h16, hM⟩ := bnd hM
  refine ws_getR cx ffX7_16 h16 dX7_loadEquation_29 ?_
  obtain ⟨v17, h18, hM⟩ := bnd hM
  refine ws_getR cx ffX7_68 h18 dX7_loadEquation_32 ?_
  refine ws_iload_n cx dX7_loadEquation_35 rfl (j := 3) rfl ?_
  obtain ⟨v19, h20, hM⟩ := bnd hM
  refine ws_iald cx h20 dX7_loadEquation_36 ?_
  refine ws_aload_n cx dX7_loadEquation_37 rfl (j := 0) rfl ?_
  obtain ⟨v21, h22, hM⟩ := bnd hM
  refine ws_getR cx ffX7_16 h22 dX7_loadEquation_38 ?_
  obtain ⟨v23, h24, hM⟩ := bnd hM
  refine ws_getR cx ffX7_68 h24 dX7_loadEquation_41 ?_
  refine ws_iload_n cx dX7_loadEquation_44 rfl (j := 2) rfl ?_
  obtain ⟨v25, h26, hM⟩ := bnd hM
  refine ws_iald cx h26 dX7_loadEquation_45 ?_
  refine ws_isub cx dX7_loadEquation_46 ?_
  refine ws_imul cx dX7_loadEquation_47 ?_
  refine ws_i2l cx dX7_loadEquation_48 ?_
  obtain ⟨m28, h27, hM⟩ := bnd hM
  refine ws_last cx h27 dX7_loadEquation_49 ?_
  refine ws_aload_n cx dX7_loadEquation_50 rfl (j := 1) rfl ?_
  refine ws_iconst cx dX7_loadEquation_51 (v := 2) (by decide) ?_
  refine ws_bipush cx dX7_loadEquation_52 (v := -2) (by decide) ?_
  refine ws_aload_n cx dX7_loadEquation_54 rfl (j := 0) rfl ?_
  obtain ⟨v29, h30, hM⟩ := bnd hM
  refine ws_getR cx ffX7_16 h30 dX7_loadEquation_55 ?_
  obtain ⟨v31, h32, hM⟩ := bnd hM
  refine ws_getR cx ffX7_40 h32 dX7_loadEquation_58 ?_
  refine ws_iload_n cx dX7_loadEquation_61 rfl (j := 3) rfl ?_
  obtain ⟨v33, h34, hM⟩ := bnd hM
  refine ws_iald cx h34 dX7_loadEquation_62 ?_
  refine ws_aload_n cx dX7_loadEquation_63 rfl (j := 0) rfl ?_
  obtain ⟨v35, h36, hM⟩ := bnd hM
  refine ws_getR cx ffX7_16 h36 dX7_loadEquation_64 ?_
  obtain ⟨v37, h38, hM⟩ := bnd hM
  refine ws_getR cx ffX7_40 h38 dX7_loadEquation_67 ?_
  refine ws_iload_n cx dX7_loadEquation_70 rfl (j := 2) rfl ?_
  obtain ⟨v39, h40, hM⟩ := bnd hM
  refine ws_iald cx h40 dX7_loadEquation_71 ?_
  refine ws_isub cx dX7_loadEquation_72 ?_
  refine ws_imul cx dX7_loadEquation_73 ?_
  refine ws_i2l cx dX7_loadEquation_74 ?_
  obtain ⟨m42, h41, hM⟩ := bnd hM
  refine ws_last cx h41 dX7_loadEquation_75 ?_
  refine ws_aload_n cx dX7_loadEquation_76 rfl (j := 1) rfl ?_
  refine ws_iconst cx dX7_loadEquation_77 (v := 3) (by decide) ?_
  refine ws_aload_n cx dX7_loadEquation_78 rfl (j := 0) rfl ?_
  refine ws_iload_n cx dX7_loadEquation_79 rfl (j := 3) rfl ?_
  obtain ⟨_, h45, hM⟩ := bnd hM
  obtain ⟨q43, h44, hM⟩ := bnd hM
  refine ws_callV cx (rest := [.int (3 : Int32), .ref (b + a0)]) (st' := [.int q43.1, .int (3 : Int32), .ref (b + a0)]) (kX7_squares l D b h44) mvX7_squares (ck_k h45) (by decide) (q := (RX7, TX7, 8)) rfl seX7_squares lkX7_82 rfl ⟨by decide, by decide⟩ (Nat.le_of_ble_eq_true rfl) ⟨rfl, rfl⟩ (Or.inl ⟨rfl, rfl⟩) rfl rfl dX7_loadEquation_80 ?_
  refine ws_aload_n cx dX7_loadEquation_83 rfl (j := 0) rfl ?_
  refine ws_iload_n cx dX7_loadEquation_84 rfl (j := 2) rfl ?_
  obtain ⟨_, h48, hM⟩ := bnd hM
  obtain ⟨q46, h47, hM⟩ := bnd hM
  refine ws_callV cx (rest := [.int q43.1, .int (3 : Int32), .ref (b + a0)]) (st' := [.int q46.1, .int q43.1, .int (3 : Int32), .ref (b + a0)]) (kX7_squares l D b h47) mvX7_squares (ck_k h48) (by decide) (q := (RX7, TX7, 8)) rfl seX7_squares lkX7_82 rfl ⟨by decide, by decide⟩ (Nat.le_of_ble_eq_true rfl) ⟨rfl, rfl⟩ (Or.inl ⟨rfl, rfl⟩) rfl rfl dX7_loadEquation_85 ?_
  refine ws_isub cx dX7_loadEquation_88 ?_
  refine ws_i2l cx dX7_loadEquation_89 ?_
  obtain ⟨m50, h49, hM⟩ := bnd hM
  refine ws_last cx h49 dX7_loadEquation_90 ?_
  exact ws_vretM cx ex hM dX7_loadEquation_91

def mX7_load_j59 (S : SH) (o : Nat) (a0 : Int32) (k15 : (ME × Int32 × Int32 → Option (Unit × ME))) (me : ME) (x2 : Int32) (x3 : Int32) : Option (Unit × ME) :=
  k15 (me, x2, x3 + (1 : Int32))
def mX7_load_j65 (S : SH) (o : Nat) (a0 : Int32) (me : ME) : Option (Unit × ME) :=
  some ((), me)
def mX7_load_L15 (S : SH) (o : Nat) (a0 : Int32) (k15 : (ME × Int32 × Int32 → Option (Unit × ME))) : ME × Int32 × Int32 → Option (Unit × ME)
  | (me, x2, x3) =>
    (gR S 7 0 o).bind fun v1 =>
    (gI S me 5 4 v1).bind fun v3 =>
    if v3 ≤ x3 then
      mX7_load_j65 S o a0 me
    else
      (mX9_holds S me a0 x3).bind fun q6 =>
      if q6.1 = 0 then
        mX7_load_j59 S o a0 k15 q6.2 x2 x3
      else
        (gR S 7 1 o).bind fun v9 =>
        (gI S q6.2 7 2 o).bind fun v11 =>
        (aR S 15 v9 v11).bind fun v13 =>
        (ck S 7 o).bind fun _ => (mX7_loadEquation S q6.2 o v13 x2 x3).bind fun q15 =>
        (gI S q15.2 7 2 o).bind fun v18 =>
        (sI S q15.2 7 2 o (v18 + (1 : Int32))).bind fun m21 =>
        mX7_load_j59 S o a0 k15 m21 x2 x3
def mX7_load (S : SH) (me : ME) (o : Nat) (a0 : Int32) : Option (Unit × ME) :=
  (ck S 7 o).bind fun _ => (mX7_firstOf S me o a0).bind fun q22 =>
  (sI S q22.2 7 2 o (0 : Int32)).bind fun m26 =>
  lpn (mX7_load_L15 S o a0) lpF (m26, q22.1, q22.1 + (1 : Int32))
set_option maxRecDepth 100000 in
set_option maxHeartbeats 4000000 in
theorem kX7_load (l : Launch) (D : va_G) (b : Nat) {S : SH} {me : ME} {o : Nat} {a0 : Int32} {q : Unit × ME} (hM : mX7_load S me o a0 = some q) : Ct l D b yX7_load cX7_load 4 none 2 44 0 0 [.ref (b + o), .int a0] S me S q.2 none := by
  refine ct_of (own := RX7) (nm := "load") (lv := [(0, .ref (b + o)), (1, .int a0)]) (plainFor_of_name (by decide)) rfl rfl (Nat.le_of_ble_eq_true rfl) rfl ⟨rfl, rfl⟩ (fun X cx ex hL => ?_)
  have J59 : ∀ (k15 : (ME × Int32 × Int32 → Option (Unit × ME))), (∀ (me : ME) (x2 : Int32) (x3 : Int32), k15 (me, x2, x3) = some q → WS X b 4 S me 15 [(0, .ref (b + o)), (1, .int a0), (2, .int x2), (3, .int x3)] []) → ∀ (me : ME) (x2 : Int32) (x3 : Int32), mX7_load_j59 S o a0 k15 me x2 x3 = some q → WS X b 4 S me 59 [(0, .ref (b + o)), (1, .int a0), (2, .int x2), (3, .int x3)] [] := by
    intro k15 hk15 me x2 x3 hM
    unfold mX7_load_j59 at hM
    refine ws_iinc cx dX7_load_59 (j := 3) rfl (v := x3 + (1 : Int32)) rfl (by decide) (lv' := [(3, .int (x3 + (1 : Int32))), (0, .ref (b + o)), (1, .int a0), (2, .int x2)]) rfl ?_
    refine ws_goto cx dX7_load_62 (tgt := 15) (by decide) ?_
    refine ws_sub [1, 2, 3, 0] (lv' := [(0, .ref (b + o)), (1, .int a0), (2, .int x2), (3, .int (x3 + (1 : Int32)))]) rfl ?_
    exact hk15 _ _ _ hM
  have J65 : ∀ (me : ME), mX7_load_j65 S o a0 me = some q → WS X b 4 S me 65 [] [] := by
    intro  me hM
    unfold mX7_load_j65 at hM
    exact ws_vretM cx ex hM dX7_load_65
  have L15 : ∀ (n : Nat) (me : ME) (x2 : Int32) (x3 : Int32), lpn (mX7_load_L15 S o a0) n (me, x2, x3) = some q → WS X b 4 S me 15 [(0, .ref (b + o)), (1, .int a0), (2, .int x2), (3, .int x3)] [] := by
    intro  n
    induction n with
    | zero => intro me x2 x3 hM; exact absurd hM (by intro h; cases h)
    | succ n ih =>
      intro me x2 x3 hM
      have hM : mX7_load_L15 S o a0 (lpn (mX7_load_L15 S o a0) n) (me, x2, x3) = some q := hM
      unfold mX7_load_L15 at hM
      refine ws_iload_n cx dX7_load_15 rfl (j := 3) rfl ?_
      refine ws_aload_n cx dX7_load_16 rfl (j := 0) rfl ?_
      obtain ⟨v1, h2, hM⟩ := bnd hM
      refine ws_getR cx ffX7_16 h2 dX7_load_17 ?_
      obtain ⟨v3, h4, hM⟩ := bnd hM
      refine ws_getI cx ffX7_73 h4 dX7_load_20 ?_
      refine ws_icmp_ge cx dX7_load_23 (tgt := 65) (by decide) (fun c5 => ?_) (fun c5 => ?_)
      · have hM := if_t hM c5
        refine ws_sub [] (lv' := []) rfl ?_
        exact J65 _ hM
      · have hM := if_f hM c5
        refine ws_iload_n cx dX7_load_26 rfl (j := 1) rfl ?_
        refine ws_iload_n cx dX7_load_27 rfl (j := 3) rfl ?_
        obtain ⟨q6, h7, hM⟩ := bnd hM
        refine ws_callSN cx (rest := []) (st' := [.int q6.1]) (kX9_holds l D b h7) mvX9_holds lnX7_74 rfl ⟨by decide, by decide⟩ (Nat.le_of_ble_eq_true rfl) ⟨rfl, rfl⟩ (Or.inl ⟨rfl, rfl⟩) rfl rfl dX7_load_28 ?_
        refine ws_if_eq cx dX7_load_31 (tgt := 59) (by decide) (fun c8 => ?_) (fun c8 => ?_)
        · have hM := if_t hM c8
          refine ws_sub [0, 1, 2, 3] (lv' := [(0, .ref (b + o)), (1, .int a0), (2, .int x2), (3, .int x3)]) rfl ?_
          exact J59 _ ih _ _ _ hM
        · have hM := if_f hM c8
          refine ws_aload_n cx dX7_load_34 rfl (j := 0) rfl ?_
          refine ws_aload_n cx dX7_load_35 rfl (j := 0) rfl ?_
          obtain ⟨v9, h10, hM⟩ := bnd hM
          refine ws_getR cx ffX7_13 h10 dX7_load_36 ?_
          refine ws_aload_n cx dX7_load_39 rfl (j := 0) rfl ?_
          obtain ⟨v11, h12, hM⟩ := bnd hM
          refine ws_getI cx ffX7_70 h12 dX7_load_40 ?_
          obtain ⟨v13, h14, hM⟩ := bnd hM
          refine ws_aald cx (by decide) h14 dX7_load_43 ?_
          refine ws_iload_n cx dX7_load_44 rfl (j := 2) rfl ?_
          refine ws_iload_n cx dX7_load_45 rfl (j := 3) rfl ?_
          obtain ⟨_, h17, hM⟩ := bnd hM
          obtain ⟨q15, h16, hM⟩ := bnd hM
          refine ws_callV cx (rest := []) (st' := []) (kX7_loadEquation l D b h16) mvX7_loadEquation (ck_k h17) (by decide) (q := (RX7, TX7, 8)) rfl seX7_loadEquation lkX7_78 rfl ⟨by decide, by decide⟩ (Nat.le_of_ble_eq_true rfl) ⟨rfl, rfl⟩ (Or.inl ⟨rfl, rfl⟩) rfl rfl dX7_load_46 ?_
          refine ws_aload_n cx dX7_load_49 rfl (j := 0) rfl ?_
          refine ws_dup cx dX7_load_50 rfl ?_
          obtain ⟨v18, h19, hM⟩ := bnd hM
          refine ws_getI cx ffX7_70 h19 dX7_load_51 ?_
          refine ws_iconst cx dX7_load_54 (v := 1) (by decide) ?_
          refine ws_iadd cx dX7_load_55 ?_
          obtain ⟨m21, h20, hM⟩ := bnd hM
          refine ws_putI cx ffX7_70 h20 dX7_load_56 ?_
          refine ws_sub [0, 1, 2, 3] (lv' := [(0, .ref (b + o)), (1, .int a0), (2, .int x2), (3, .int x3)]) rfl ?_
          exact J59 _ ih _ _ _ hM
  unfold mX7_load at hM
  refine ws_aload_n cx dX7_load_0 rfl (j := 0) rfl ?_
  refine ws_iload_n cx dX7_load_1 rfl (j := 1) rfl ?_
  obtain ⟨_, h24, hM⟩ := bnd hM
  obtain ⟨q22, h23, hM⟩ := bnd hM
  refine ws_callV cx (rest := []) (st' := [.int q22.1]) (kX7_firstOf l D b h23) mvX7_firstOf (ck_k h24) (by decide) (q := (RX7, TX7, 8)) rfl seX7_firstOf lkX7_32 rfl ⟨by decide, by decide⟩ (Nat.le_of_ble_eq_true rfl) ⟨rfl, rfl⟩ (Or.inl ⟨rfl, rfl⟩) rfl rfl dX7_load_2 ?_
  refine ws_istore_n cx dX7_load_5 rfl (by decide) (lv' := [(2, .int q22.1), (0, .ref (b + o)), (1, .int a0)]) rfl ?_
  refine ws_aload_n cx dX7_load_6 rfl (j := 1) rfl ?_
  refine ws_iconst cx dX7_load_7 (v := 0) (by decide) ?_
  obtain ⟨m26, h25, hM⟩ := bnd hM
  refine ws_putI cx ffX7_70 h25 dX7_load_8 ?_
  refine ws_iload_n cx dX7_load_11 rfl (j := 0) rfl ?_
  refine ws_iconst cx dX7_load_12 (v := 1) (by decide) ?_
  refine ws_iadd cx dX7_load_13 ?_
  refine ws_istore_n cx dX7_load_14 rfl (by decide) (lv' := [(3, .int (q22.1 + (1 : Int32))), (2, .int q22.1), (0, .ref (b + o)), (1, .int a0)]) rfl ?_
  refine ws_sub [2, 3, 1, 0] (lv' := [(0, .ref (b + o)), (1, .int a0), (2, .int q22.1), (3, .int (q22.1 + (1 : Int32)))]) rfl ?_
  exact L15 _ _ _ _ hM

def mX7_pivotOf_j26 (S : SH) (o : Nat) (a0 : Int32) (me : ME) (x2 : Int32) : Option (Int32 × ME) :=
  some (x2, me)
def mX7_pivotOf_j34 (S : SH) (o : Nat) (a0 : Int32) (me : ME) : Option (Int32 × ME) :=
  some ((-1 : Int32), me)
def mX7_pivotOf_L5 (S : SH) (o : Nat) (a0 : Int32) (k5 : (ME × Int32 → Option (Int32 × ME))) : ME × Int32 → Option (Int32 × ME)
  | (me, x2) =>
    (gI S me 7 2 o).bind fun v1 =>
    if v1 ≤ x2 then
      mX7_pivotOf_j34 S o a0 me
    else
      (gR S 7 1 o).bind fun v4 =>
      (aR S 15 v4 x2).bind fun v6 =>
      (aJ S me v6 a0).bind fun v8 =>
      if (lg_cmp v8 (0 : Int64)) = 0 then
        k5 (me, x2 + (1 : Int32))
      else
        mX7_pivotOf_j26 S o a0 me x2
def mX7_pivotOf (S : SH) (me : ME) (o : Nat) (a0 : Int32) : Option (Int32 × ME) :=
  (gI S me 7 3 o).bind fun v11 =>
  lpn (mX7_pivotOf_L5 S o a0) lpF (me, v11)
set_option maxRecDepth 100000 in
set_option maxHeartbeats 4000000 in
theorem kX7_pivotOf (l : Launch) (D : va_G) (b : Nat) {S : SH} {me : ME} {o : Nat} {a0 : Int32} {q : Int32 × ME} (hM : mX7_pivotOf S me o a0 = some q) : Ct l D b yX7_pivotOf cX7_pivotOf 3 (some .int) 0 0 0 0 [.ref (b + o), .int a0] S me S q.2 (some (.int q.1)) := by
  refine ct_of (own := RX7) (nm := "pivotOf") (lv := [(0, .ref (b + o)), (1, .int a0)]) (plainFor_of_name (by decide)) rfl rfl (Nat.le_of_ble_eq_true rfl) rfl ⟨rfl, rfl⟩ (fun X cx ex hL => ?_)
  have J26 : ∀ (me : ME) (x2 : Int32), mX7_pivotOf_j26 S o a0 me x2 = some q → WS X b 3 S me 26 [(2, .int x2)] [] := by
    intro  me x2 hM
    unfold mX7_pivotOf_j26 at hM
    refine ws_iload_n cx dX7_pivotOf_26 rfl (j := 0) rfl ?_
    exact ws_iretM cx ex hM dX7_pivotOf_27
  have J34 : ∀ (me : ME), mX7_pivotOf_j34 S o a0 me = some q → WS X b 3 S me 34 [] [] := by
    intro  me hM
    unfold mX7_pivotOf_j34 at hM
    refine ws_iconst cx dX7_pivotOf_34 (v := -1) (by decide) ?_
    exact ws_iretM cx ex hM dX7_pivotOf_35
  have L5 : ∀ (n : Nat) (me : ME) (x2 : Int32), lpn (mX7_pivotOf_L5 S o a0) n (me, x2) = some q → WS X b 3 S me 5 [(0, .ref (b + o)), (1, .int a0), (2, .int x2)] [] := by
    intro  n
    induction n with
    | zero => intro me x2 hM; exact absurd hM (by intro h; cases h)
    | succ n ih =>
      intro me x2 hM
      have hM : mX7_pivotOf_L5 S o a0 (lpn (mX7_pivotOf_L5 S o a0) n) (me, x2) = some q := hM
      unfold mX7_pivotOf_L5 at hM
      refine ws_iload_n cx dX7_pivotOf_5 rfl (j := 2) rfl ?_
      refine ws_aload_n cx dX7_pivotOf_6 rfl (j := 0) rfl ?_
      obtain ⟨v1, h2, hM⟩ := bnd hM
      refine ws_getI cx ffX7_70 h2 dX7_pivotOf_7 ?_
      refine ws_icmp_ge cx dX7_pivotOf_10 (tgt := 34) (by decide) (fun c3 => ?_) (fun c3 => ?_)
      · have hM := if_t hM c3
        refine ws_sub [] (lv' := []) rfl ?_
        exact J34 _ hM
      · have hM := if_f hM c3
        refine ws_aload_n cx dX7_pivotOf_13 rfl (j := 0) rfl ?_
        obtain ⟨v4, h5, hM⟩ := bnd hM
        refine ws_getR cx ffX7_13 h5 dX7_pivotOf_14 ?_
        refine ws_iload_n cx dX7_pivotOf_17 rfl (j := 2) rfl ?_
        obtain ⟨v6, h7, hM⟩ := bnd hM
        refine ws_aald cx (by decide) h7 dX7_pivotOf_18 ?_
        refine ws_iload_n cx dX7_pivotOf_19 rfl (j := 1) rfl ?_
        obtain ⟨v8, h9, hM⟩ := bnd hM
        refine ws_lald cx h9 dX7_pivotOf_20 ?_
        refine ws_lconst cx dX7_pivotOf_21 (v := 0) (by decide) ?_
        refine ws_lcmp cx dX7_pivotOf_22 ?_
        refine ws_if_eq cx dX7_pivotOf_23 (tgt := 28) (by decide) (fun c10 => ?_) (fun c10 => ?_)
        · have hM := if_t hM c10
          refine ws_iinc cx dX7_pivotOf_28 (j := 2) rfl (v := x2 + (1 : Int32)) rfl (by decide) (lv' := [(2, .int (x2 + (1 : Int32))), (0, .ref (b + o)), (1, .int a0)]) rfl ?_
          refine ws_goto cx dX7_pivotOf_31 (tgt := 5) (by decide) ?_
          refine ws_sub [1, 2, 0] (lv' := [(0, .ref (b + o)), (1, .int a0), (2, .int (x2 + (1 : Int32)))]) rfl ?_
          exact ih _ _ hM
        · have hM := if_f hM c10
          refine ws_sub [2] (lv' := [(2, .int x2)]) rfl ?_
          exact J26 _ _ hM
  unfold mX7_pivotOf at hM
  refine ws_aload_n cx dX7_pivotOf_0 rfl (j := 0) rfl ?_
  obtain ⟨v11, h12, hM⟩ := bnd hM
  refine ws_getI cx ffX7_28 h12 dX7_pivotOf_1 ?_
  refine ws_istore_n cx dX7_pivotOf_4 rfl (by decide) (lv' := [(2, .int v11), (0, .ref (b + o)), (1, .int a0)]) rfl ?_
  refine ws_sub [1, 2, 0] (lv' := [(0, .ref (b + o)), (1, .int a0), (2, .int v11)]) rfl ?_
  exact L5 _ _ _ hM

def mX7_swap_j49 (S : SH) (o : Nat) (a0 : Int32) (a1 : Int32) (me : ME) : Option (Unit × ME) :=
  some ((), me)
def mX7_swap_L2 (S : SH) (o : Nat) (a0 : Int32) (a1 : Int32) (k2 : (ME × Int32 → Option (Unit × ME))) : ME × Int32 → Option (Unit × ME)
  | (me, x3) =>
    if (3 : Int32) < x3 then
      mX7_swap_j49 S o a0 a1 me
    else
      (gR S 7 1 o).bind fun v2 =>
      (aR S 15 v2 a0).bind fun v4 =>
      (aJ S me v4 x3).bind fun v6 =>
      (gR S 7 1 o).bind fun v8 =>
      (aR S 15 v8 a0).bind fun v10 =>
      (gR S 7 1 o).bind fun v12 =>
      (aR S 15 v12 a1).bind fun v14 =>
      (aJ S me v14 x3).bind fun v16 =>
      (uJ S me v10 x3 v16).bind fun m19 =>
      (gR S 7 1 o).bind fun v20 =>
      (aR S 15 v20 a1).bind fun v22 =>
      (uJ S m19 v22 x3 v6).bind fun m25 =>
      k2 (m25, x3 + (1 : Int32))
def mX7_swap (S : SH) (me : ME) (o : Nat) (a0 : Int32) (a1 : Int32) : Option (Unit × ME) :=
  lpn (mX7_swap_L2 S o a0 a1) lpF (me, (0 : Int32))
set_option maxRecDepth 100000 in
set_option maxHeartbeats 4000000 in
theorem kX7_swap (l : Launch) (D : va_G) (b : Nat) {S : SH} {me : ME} {o : Nat} {a0 : Int32} {a1 : Int32} {q : Unit × ME} (hM : mX7_swap S me o a0 a1 = some q) : Ct l D b yX7_swap cX7_swap 6 none 0 0 0 0 [.ref (b + o), .int a0, .int a1] S me S q.2 none := by
  refine ct_of (own := RX7) (nm := "swap") (lv := [(0, .ref (b + o)), (1, .int a0), (2, .int a1)]) (plainFor_of_name (by decide)) rfl rfl (Nat.le_of_ble_eq_true rfl) rfl ⟨rfl, rfl⟩ (fun X cx ex hL => ?_)
  have J49 : ∀ (me : ME), mX7_swap_j49 S o a0 a1 me = some q → WS X b 6 S me 49 [] [] := by
    intro  me hM
    unfold mX7_swap_j49 at hM
    exact ws_vretM cx ex hM dX7_swap_49
  have L2 : ∀ (n : Nat) (me : ME) (x3 : Int32), lpn (mX7_swap_L2 S o a0 a1) n (me, x3) = some q → WS X b 6 S me 2 [(0, .ref (b + o)), (1, .int a0), (2, .int a1), (3, .int x3)] [] := by
    intro  n
    induction n with
    | zero => intro me x3 hM; exact absurd hM (by intro h; cases h)
    | succ n ih =>
      intro me x3 hM
      have hM : mX7_swap_L2 S o a0 a1 (lpn (mX7_swap_L2 S o a0 a1) n) (me, x3) = some q := hM
      unfold mX7_swap_L2 at hM
      refine ws_iload_n cx dX7_swap_2 rfl (j := 3) rfl ?_
      refine ws_iconst cx dX7_swap_3 (v := 3) (by decide) ?_
      refine ws_icmp_gt cx dX7_swap_4 (tgt := 49) (by decide) (fun c1 => ?_) (fun c1 => ?_)
      · have hM := if_t hM c1
        refine ws_sub [] (lv' := []) rfl ?_
        exact J49 _ hM
      · have hM := if_f hM c1
        refine ws_aload_n cx dX7_swap_7 rfl (j := 0) rfl ?_
        obtain ⟨v2, h3, hM⟩ := bnd hM
        refine ws_getR cx ffX7_13 h3 dX7_swap_8 ?_
        refine ws_iload_n cx dX7_swap_11 rfl (j := 1) rfl ?_
        obtain ⟨v4, h5, hM⟩ := bnd hM
        refine ws_aald cx (by decide) h5 dX7_swap_12 ?_
        refine ws_iload_n cx dX7_swap_13 rfl (j := 3) rfl ?_
        obtain ⟨v6, h7, hM⟩ := bnd hM
        refine ws_lald cx h7 dX7_swap_14 ?_
        refine ws_lstore cx dX7_swap_15 (by decide) (lv' := [(4, .long v6), (0, .ref (b + o)), (1, .int a0), (2, .int a1), (3, .int x3)]) rfl ?_
        refine ws_aload_n cx dX7_swap_17 rfl (j := 1) rfl ?_
        obtain ⟨v8, h9, hM⟩ := bnd hM
        refine ws_getR cx ffX7_13 h9 dX7_swap_18 ?_
        refine ws_iload_n cx dX7_swap_21 rfl (j := 2) rfl ?_
        obtain ⟨v10, h11, hM⟩ := bnd hM
        refine ws_aald cx (by decide) h11 dX7_swap_22 ?_
        refine ws_iload_n cx dX7_swap_23 rfl (j := 4) rfl ?_
        refine ws_aload_n cx dX7_swap_24 rfl (j := 1) rfl ?_
        obtain ⟨v12, h13, hM⟩ := bnd hM
        refine ws_getR cx ffX7_13 h13 dX7_swap_25 ?_
        refine ws_iload_n cx dX7_swap_28 rfl (j := 3) rfl ?_
        obtain ⟨v14, h15, hM⟩ := bnd hM
        refine ws_aald cx (by decide) h15 dX7_swap_29 ?_
        refine ws_iload_n cx dX7_swap_30 rfl (j := 4) rfl ?_
        obtain ⟨v16, h17, hM⟩ := bnd hM
        refine ws_lald cx h17 dX7_swap_31 ?_
        obtain ⟨m19, h18, hM⟩ := bnd hM
        refine ws_last cx h18 dX7_swap_32 ?_
        refine ws_aload_n cx dX7_swap_33 rfl (j := 1) rfl ?_
        obtain ⟨v20, h21, hM⟩ := bnd hM
        refine ws_getR cx ffX7_13 h21 dX7_swap_34 ?_
        refine ws_iload_n cx dX7_swap_37 rfl (j := 3) rfl ?_
        obtain ⟨v22, h23, hM⟩ := bnd hM
        refine ws_aald cx (by decide) h23 dX7_swap_38 ?_
        refine ws_iload_n cx dX7_swap_39 rfl (j := 4) rfl ?_
        refine ws_lload cx dX7_swap_40 (j := 0) rfl ?_
        obtain ⟨m25, h24, hM⟩ := bnd hM
        refine ws_last cx h24 dX7_swap_42 ?_
        refine ws_iinc cx dX7_swap_43 (j := 4) rfl (v := x3 + (1 : Int32)) rfl (by decide) (lv' := [(3, .int (x3 + (1 : Int32))), (4, .long v6), (0, .ref (b + o)), (1, .int a0), (2, .int a1)]) rfl ?_
        refine ws_goto cx dX7_swap_46 (tgt := 2) (by decide) ?_
        refine ws_sub [2, 3, 4, 0] (lv' := [(0, .ref (b + o)), (1, .int a0), (2, .int a1), (3, .int (x3 + (1 : Int32)))]) rfl ?_
        exact ih _ _ hM
  unfold mX7_swap at hM
  refine ws_iconst cx dX7_swap_0 (v := 0) (by decide) ?_
  refine ws_istore_n cx dX7_swap_1 rfl (by decide) (lv' := [(3, .int (0 : Int32)), (0, .ref (b + o)), (1, .int a0), (2, .int a1)]) rfl ?_
  refine ws_sub [1, 2, 3, 0] (lv' := [(0, .ref (b + o)), (1, .int a0), (2, .int a1), (3, .int (0 : Int32))]) rfl ?_
  exact L2 _ _ _ hM

def mX7_reduce_j53 (S : SH) (a0 : Nat) (a1 : Nat) (a2 : Int32) (a3 : Int64) (me : ME) : Option (Unit × ME) :=
  some ((), me)
def mX7_reduce_L20 (S : SH) (a0 : Nat) (a1 : Nat) (a2 : Int32) (a3 : Int64) (k20 : (ME × Int64 × Int64 × Int32 → Option (Unit × ME))) : ME × Int64 × Int64 × Int32 → Option (Unit × ME)
  | (me, x5, x7, x9) =>
    if (3 : Int32) < x9 then
      mX7_reduce_j53 S a0 a1 a2 a3 me
    else
      (aJ S me a0 x9).bind fun v2 =>
      (aJ S me a1 x9).bind fun v4 =>
      if a3 = 0 then none else
      (uJ S me a0 x9 (((x7 * v2) - (x5 * v4)) / a3)).bind fun m8 =>
      k20 (m8, x5, x7, x9 + (1 : Int32))
def mX7_reduce (S : SH) (me : ME) (a0 : Nat) (a1 : Nat) (a2 : Int32) (a3 : Int64) : Option (Unit × ME) :=
  if (lg_cmp a3 (0 : Int64)) = 0 then
    some ((), me)
  else
    (aJ S me a0 a2).bind fun v10 =>
    (aJ S me a1 a2).bind fun v12 =>
    lpn (mX7_reduce_L20 S a0 a1 a2 a3) lpF (me, v10, v12, (0 : Int32))
set_option maxRecDepth 100000 in
set_option maxHeartbeats 4000000 in
theorem kX7_reduce (l : Launch) (D : va_G) (b : Nat) {S : SH} {me : ME} {a0 : Nat} {a1 : Nat} {a2 : Int32} {a3 : Int64} {q : Unit × ME} (hM : mX7_reduce S me a0 a1 a2 a3 = some q) : Ct l D b yX7_reduce cX7_reduce 10 none 0 0 0 0 [.ref (b + a0), .ref (b + a1), .int a2, .long a3] S me S q.2 none := by
  refine ct_of (own := RX7) (nm := "reduce") (lv := [(0, .ref (b + a0)), (1, .ref (b + a1)), (2, .int a2), (3, .long a3)]) (plainFor_of_name (by decide)) rfl rfl (Nat.le_of_ble_eq_true rfl) rfl ⟨rfl, rfl⟩ (fun X cx ex hL => ?_)
  have J53 : ∀ (me : ME), mX7_reduce_j53 S a0 a1 a2 a3 me = some q → WS X b 10 S me 53 [] [] := by
    intro  me hM
    unfold mX7_reduce_j53 at hM
    exact ws_vretM cx ex hM dX7_reduce_53
  have L20 : ∀ (n : Nat) (me : ME) (x5 : Int64) (x7 : Int64) (x9 : Int32), lpn (mX7_reduce_L20 S a0 a1 a2 a3) n (me, x5, x7, x9) = some q → WS X b 10 S me 20 [(0, .ref (b + a0)), (1, .ref (b + a1)), (3, .long a3), (5, .long x5), (7, .long x7), (9, .int x9)] [] := by
    intro  n
    induction n with
    | zero => intro me x5 x7 x9 hM; exact absurd hM (by intro h; cases h)
    | succ n ih =>
      intro me x5 x7 x9 hM
      have hM : mX7_reduce_L20 S a0 a1 a2 a3 (lpn (mX7_reduce_L20 S a0 a1 a2 a3) n) (me, x5, x7, x9) = some q := hM
      unfold mX7_reduce_L20 at hM
      refine ws_iload cx dX7_reduce_20 (j := 5) rfl ?_
      refine ws_iconst cx dX7_reduce_22 (v := 3) (by decide) ?_
      refine ws_icmp_gt cx dX7_reduce_23 (tgt := 53) (by decide) (fun c1 => ?_) (fun c1 => ?_)
      · have hM := if_t hM c1
        refine ws_sub [] (lv' := []) rfl ?_
        exact J53 _ hM
      · have hM := if_f hM c1
        refine ws_aload_n cx dX7_reduce_26 rfl (j := 0) rfl ?_
        refine ws_iload cx dX7_reduce_27 (j := 5) rfl ?_
        refine ws_lload cx dX7_reduce_29 (j := 4) rfl ?_
        refine ws_aload_n cx dX7_reduce_31 rfl (j := 0) rfl ?_
        refine ws_iload cx dX7_reduce_32 (j := 5) rfl ?_
        obtain ⟨v2, h3, hM⟩ := bnd hM
        refine ws_lald cx h3 dX7_reduce_34 ?_
        refine ws_lmul cx dX7_reduce_35 ?_
        refine ws_lload cx dX7_reduce_36 (j := 3) rfl ?_
        refine ws_aload_n cx dX7_reduce_38 rfl (j := 1) rfl ?_
        refine ws_iload cx dX7_reduce_39 (j := 5) rfl ?_
        obtain ⟨v4, h5, hM⟩ := bnd hM
        refine ws_lald cx h5 dX7_reduce_41 ?_
        refine ws_lmul cx dX7_reduce_42 ?_
        refine ws_lsub cx dX7_reduce_43 ?_
        refine ws_lload_n cx dX7_reduce_44 rfl (j := 2) rfl ?_
        obtain ⟨h6, hM⟩ := if_n hM
        refine ws_ldiv cx h6 dX7_reduce_45 ?_
        obtain ⟨m8, h7, hM⟩ := bnd hM
        refine ws_last cx h7 dX7_reduce_46 ?_
        refine ws_iinc cx dX7_reduce_47 (j := 5) rfl (v := x9 + (1 : Int32)) rfl (by decide) (lv' := [(9, .int (x9 + (1 : Int32))), (0, .ref (b + a0)), (1, .ref (b + a1)), (3, .long a3), (5, .long x5), (7, .long x7)]) rfl ?_
        refine ws_goto cx dX7_reduce_50 (tgt := 20) (by decide) ?_
        refine ws_sub [1, 2, 3, 4, 5, 0] (lv' := [(0, .ref (b + a0)), (1, .ref (b + a1)), (3, .long a3), (5, .long x5), (7, .long x7), (9, .int (x9 + (1 : Int32)))]) rfl ?_
        exact ih _ _ _ _ hM
  unfold mX7_reduce at hM
  refine ws_lload_n cx dX7_reduce_0 rfl (j := 3) rfl ?_
  refine ws_lconst cx dX7_reduce_1 (v := 0) (by decide) ?_
  refine ws_lcmp cx dX7_reduce_2 ?_
  refine ws_if_ne cx dX7_reduce_3 (tgt := 7) (by decide) (fun c9 => ?_) (fun c9 => ?_)
  · have hM := if_f hM c9
    refine ws_aload_n cx dX7_reduce_7 rfl (j := 0) rfl ?_
    refine ws_iload_n cx dX7_reduce_8 rfl (j := 2) rfl ?_
    obtain ⟨v10, h11, hM⟩ := bnd hM
    refine ws_lald cx h11 dX7_reduce_9 ?_
    refine ws_lstore cx dX7_reduce_10 (by decide) (lv' := [(5, .long v10), (0, .ref (b + a0)), (1, .ref (b + a1)), (2, .int a2), (3, .long a3)]) rfl ?_
    refine ws_aload_n cx dX7_reduce_12 rfl (j := 2) rfl ?_
    refine ws_iload_n cx dX7_reduce_13 rfl (j := 3) rfl ?_
    obtain ⟨v12, h13, hM⟩ := bnd hM
    refine ws_lald cx h13 dX7_reduce_14 ?_
    refine ws_lstore cx dX7_reduce_15 (by decide) (lv' := [(7, .long v12), (5, .long v10), (0, .ref (b + a0)), (1, .ref (b + a1)), (2, .int a2), (3, .long a3)]) rfl ?_
    refine ws_iconst cx dX7_reduce_17 (v := 0) (by decide) ?_
    refine ws_istore cx dX7_reduce_18 (by decide) (lv' := [(9, .int (0 : Int32)), (7, .long v12), (5, .long v10), (0, .ref (b + a0)), (1, .ref (b + a1)), (2, .int a2), (3, .long a3)]) rfl ?_
    refine ws_sub [3, 4, 6, 2, 1, 0] (lv' := [(0, .ref (b + a0)), (1, .ref (b + a1)), (3, .long a3), (5, .long v10), (7, .long v12), (9, .int (0 : Int32))]) rfl ?_
    exact L20 _ _ _ _ _ hM
  · have hM := if_t hM c9
    exact ws_vretM cx ex hM dX7_reduce_6

def mX7_eliminate_j78 (S : SH) (o : Nat) (k9 : (ME × Int64 × Int32 → Option (Unit × ME))) (k39 : (ME × Int64 × Int32 × Int32 → Option (Unit × ME))) (me : ME) (x1 : Int64) (x3 : Int32) (x5 : Int32) : Option (Unit × ME) :=
  k39 (me, x1, x3, x5 + (1 : Int32))
def mX7_eliminate_j106 (S : SH) (o : Nat) (k9 : (ME × Int64 × Int32 → Option (Unit × ME))) (me : ME) (x1 : Int64) (x3 : Int32) : Option (Unit × ME) :=
  k9 (me, x1, x3 + (1 : Int32))
def mX7_eliminate_j84 (S : SH) (o : Nat) (k9 : (ME × Int64 × Int32 → Option (Unit × ME))) (me : ME) (x3 : Int32) : Option (Unit × ME) :=
  (gR S 7 1 o).bind fun v1 =>
  (gI S me 7 3 o).bind fun v3 =>
  (aR S 15 v1 v3).bind fun v5 =>
  (aJ S me v5 x3).bind fun v7 =>
  (gI S me 7 3 o).bind fun v9 =>
  (sI S me 7 3 o (v9 + (1 : Int32))).bind fun m12 =>
  mX7_eliminate_j106 S o k9 m12 v7 x3
def mX7_eliminate_L39 (S : SH) (o : Nat) (k9 : (ME × Int64 × Int32 → Option (Unit × ME))) (k39 : (ME × Int64 × Int32 × Int32 → Option (Unit × ME))) : ME × Int64 × Int32 × Int32 → Option (Unit × ME)
  | (me, x1, x3, x5) =>
    (gI S me 7 2 o).bind fun v13 =>
    if v13 ≤ x5 then
      mX7_eliminate_j84 S o k9 me x3
    else
      (gI S me 7 3 o).bind fun v16 =>
      if x5 = v16 then
        mX7_eliminate_j78 S o k9 k39 me x1 x3 x5
      else
        (gR S 7 1 o).bind fun v19 =>
        (aR S 15 v19 x5).bind fun v21 =>
        (gR S 7 1 o).bind fun v23 =>
        (gI S me 7 3 o).bind fun v25 =>
        (aR S 15 v23 v25).bind fun v27 =>
        (mX7_reduce S me v21 v27 x3 x1).bind fun q29 =>
        mX7_eliminate_j78 S o k9 k39 q29.2 x1 x3 x5
def mX7_eliminate_j112 (S : SH) (o : Nat) (me : ME) : Option (Unit × ME) :=
  some ((), me)
def mX7_eliminate_L9 (S : SH) (o : Nat) (k9 : (ME × Int64 × Int32 → Option (Unit × ME))) : ME × Int64 × Int32 → Option (Unit × ME)
  | (me, x1, x3) =>
    if (3 : Int32) ≤ x3 then
      mX7_eliminate_j112 S o me
    else
      (ck S 7 o).bind fun _ => (mX7_pivotOf S me o x3).bind fun q32 =>
      if q32.1 < 0 then
        mX7_eliminate_j106 S o k9 q32.2 x1 x3
      else
        (gI S q32.2 7 3 o).bind fun v36 =>
        (ck S 7 o).bind fun _ => (mX7_swap S q32.2 o v36 q32.1).bind fun q38 =>
        lpn (mX7_eliminate_L39 S o k9) lpF (q38.2, x1, x3, (0 : Int32))
def mX7_eliminate (S : SH) (me : ME) (o : Nat) : Option (Unit × ME) :=
  (sI S me 7 3 o (0 : Int32)).bind fun m42 =>
  lpn (mX7_eliminate_L9 S o) lpF (m42, (1 : Int64), (0 : Int32))
set_option maxRecDepth 100000 in
set_option maxHeartbeats 4000000 in
theorem kX7_eliminate (l : Launch) (D : va_G) (b : Nat) {S : SH} {me : ME} {o : Nat} {q : Unit × ME} (hM : mX7_eliminate S me o = some q) : Ct l D b yX7_eliminate cX7_eliminate 6 none 1 29 0 0 [.ref (b + o)] S me S q.2 none := by
  refine ct_of (own := RX7) (nm := "eliminate") (lv := [(0, .ref (b + o))]) (plainFor_of_name (by decide)) rfl rfl (Nat.le_of_ble_eq_true rfl) rfl ⟨rfl, rfl⟩ (fun X cx ex hL => ?_)
  have J78 : ∀ (k9 : (ME × Int64 × Int32 → Option (Unit × ME))), (∀ (me : ME) (x1 : Int64) (x3 : Int32), k9 (me, x1, x3) = some q → WS X b 6 S me 9 [(0, .ref (b + o)), (1, .long x1), (3, .int x3)] []) → ∀ (k39 : (ME × Int64 × Int32 × Int32 → Option (Unit × ME))), (∀ (me : ME) (x1 : Int64) (x3 : Int32) (x5 : Int32), k39 (me, x1, x3, x5) = some q → WS X b 6 S me 39 [(0, .ref (b + o)), (1, .long x1), (3, .int x3), (5, .int x5)] []) → ∀ (me : ME) (x1 : Int64) (x3 : Int32) (x5 : Int32), mX7_eliminate_j78 S o k9 k39 me x1 x3 x5 = some q → WS X b 6 S me 78 [(0, .ref (b + o)), (1, .long x1), (3, .int x3), (5, .int x5)] [] := by
    intro k9 hk9 k39 hk39 me x1 x3 x5 hM
    unfold mX7_eliminate_j78 at hM
    refine ws_iinc cx dX7_eliminate_78 (j := 3) rfl (v := x5 + (1 : Int32)) rfl (by decide) (lv' := [(5, .int (x5 + (1 : Int32))), (0, .ref (b + o)), (1, .long x1), (3, .int x3)]) rfl ?_
    refine ws_goto cx dX7_eliminate_81 (tgt := 39) (by decide) ?_
    refine ws_sub [1, 2, 3, 0] (lv' := [(0, .ref (b + o)), (1, .long x1), (3, .int x3), (5, .int (x5 + (1 : Int32)))]) rfl ?_
    exact hk39 _ _ _ _ hM
  have J106 : ∀ (k9 : (ME × Int64 × Int32 → Option (Unit × ME))), (∀ (me : ME) (x1 : Int64) (x3 : Int32), k9 (me, x1, x3) = some q → WS X b 6 S me 9 [(0, .ref (b + o)), (1, .long x1), (3, .int x3)] []) → ∀ (me : ME) (x1 : Int64) (x3 : Int32), mX7_eliminate_j106 S o k9 me x1 x3 = some q → WS X b 6 S me 106 [(0, .ref (b + o)), (1, .long x1), (3, .int x3)] [] := by
    intro k9 hk9 me x1 x3 hM
    unfold mX7_eliminate_j106 at hM
    refine ws_iinc cx dX7_eliminate_106 (j := 2) rfl (v := x3 + (1 : Int32)) rfl (by decide) (lv' := [(3, .int (x3 + (1 : Int32))), (0, .ref (b + o)), (1, .long x1)]) rfl ?_
    refine ws_goto cx dX7_eliminate_109 (tgt := 9) (by decide) ?_
    refine ws_sub [1, 2, 0] (lv' := [(0, .ref (b + o)), (1, .long x1), (3, .int (x3 + (1 : Int32)))]) rfl ?_
    exact hk9 _ _ _ hM
  have J84 : ∀ (k9 : (ME × Int64 × Int32 → Option (Unit × ME))), (∀ (me : ME) (x1 : Int64) (x3 : Int32), k9 (me, x1, x3) = some q → WS X b 6 S me 9 [(0, .ref (b + o)), (1, .long x1), (3, .int x3)] []) → ∀ (me : ME) (x3 : Int32), mX7_eliminate_j84 S o k9 me x3 = some q → WS X b 6 S me 84 [(0, .ref (b + o)), (3, .int x3)] [] := by
    intro k9 hk9 me x3 hM
    unfold mX7_eliminate_j84 at hM
    refine ws_aload_n cx dX7_eliminate_84 rfl (j := 0) rfl ?_
    obtain ⟨v1, h2, hM⟩ := bnd hM
    refine ws_getR cx ffX7_13 h2 dX7_eliminate_85 ?_
    refine ws_aload_n cx dX7_eliminate_88 rfl (j := 0) rfl ?_
    obtain ⟨v3, h4, hM⟩ := bnd hM
    refine ws_getI cx ffX7_28 h4 dX7_eliminate_89 ?_
    obtain ⟨v5, h6, hM⟩ := bnd hM
    refine ws_aald cx (by decide) h6 dX7_eliminate_92 ?_
    refine ws_iload_n cx dX7_eliminate_93 rfl (j := 1) rfl ?_
    obtain ⟨v7, h8, hM⟩ := bnd hM
    refine ws_lald cx h8 dX7_eliminate_94 ?_
    refine ws_lstore_n cx dX7_eliminate_95 rfl (by decide) (lv' := [(1, .long v7), (0, .ref (b + o)), (3, .int x3)]) rfl ?_
    refine ws_aload_n cx dX7_eliminate_96 rfl (j := 1) rfl ?_
    refine ws_dup cx dX7_eliminate_97 rfl ?_
    obtain ⟨v9, h10, hM⟩ := bnd hM
    refine ws_getI cx ffX7_28 h10 dX7_eliminate_98 ?_
    refine ws_iconst cx dX7_eliminate_101 (v := 1) (by decide) ?_
    refine ws_iadd cx dX7_eliminate_102 ?_
    obtain ⟨m12, h11, hM⟩ := bnd hM
    refine ws_putI cx ffX7_28 h11 dX7_eliminate_103 ?_
    refine ws_sub [1, 0, 2] (lv' := [(0, .ref (b + o)), (1, .long v7), (3, .int x3)]) rfl ?_
    exact J106 _ hk9 _ _ _ hM
  have L39 : ∀ (k9 : (ME × Int64 × Int32 → Option (Unit × ME))), (∀ (me : ME) (x1 : Int64) (x3 : Int32), k9 (me, x1, x3) = some q → WS X b 6 S me 9 [(0, .ref (b + o)), (1, .long x1), (3, .int x3)] []) → ∀ (n : Nat) (me : ME) (x1 : Int64) (x3 : Int32) (x5 : Int32), lpn (mX7_eliminate_L39 S o k9) n (me, x1, x3, x5) = some q → WS X b 6 S me 39 [(0, .ref (b + o)), (1, .long x1), (3, .int x3), (5, .int x5)] [] := by
    intro k9 hk9 n
    induction n with
    | zero => intro me x1 x3 x5 hM; exact absurd hM (by intro h; cases h)
    | succ n ih =>
      intro me x1 x3 x5 hM
      have hM : mX7_eliminate_L39 S o k9 (lpn (mX7_eliminate_L39 S o k9) n) (me, x1, x3, x5) = some q := hM
      unfold mX7_eliminate_L39 at hM
      refine ws_iload cx dX7_eliminate_39 (j := 3) rfl ?_
      refine ws_aload_n cx dX7_eliminate_41 rfl (j := 0) rfl ?_
      obtain ⟨v13, h14, hM⟩ := bnd hM
      refine ws_getI cx ffX7_70 h14 dX7_eliminate_42 ?_
      refine ws_icmp_ge cx dX7_eliminate_45 (tgt := 84) (by decide) (fun c15 => ?_) (fun c15 => ?_)
      · have hM := if_t hM c15
        refine ws_sub [0, 2] (lv' := [(0, .ref (b + o)), (3, .int x3)]) rfl ?_
        exact J84 _ hk9 _ _ hM
      · have hM := if_f hM c15
        refine ws_iload cx dX7_eliminate_48 (j := 3) rfl ?_
        refine ws_aload_n cx dX7_eliminate_50 rfl (j := 0) rfl ?_
        obtain ⟨v16, h17, hM⟩ := bnd hM
        refine ws_getI cx ffX7_28 h17 dX7_eliminate_51 ?_
        refine ws_icmp_eq cx dX7_eliminate_54 (tgt := 78) (by decide) (fun c18 => ?_) (fun c18 => ?_)
        · have hM := if_t hM c18
          refine ws_sub [0, 1, 2, 3] (lv' := [(0, .ref (b + o)), (1, .long x1), (3, .int x3), (5, .int x5)]) rfl ?_
          exact J78 _ hk9 _ ih _ _ _ _ hM
        · have hM := if_f hM c18
          refine ws_aload_n cx dX7_eliminate_57 rfl (j := 0) rfl ?_
          obtain ⟨v19, h20, hM⟩ := bnd hM
          refine ws_getR cx ffX7_13 h20 dX7_eliminate_58 ?_
          refine ws_iload cx dX7_eliminate_61 (j := 3) rfl ?_
          obtain ⟨v21, h22, hM⟩ := bnd hM
          refine ws_aald cx (by decide) h22 dX7_eliminate_63 ?_
          refine ws_aload_n cx dX7_eliminate_64 rfl (j := 0) rfl ?_
          obtain ⟨v23, h24, hM⟩ := bnd hM
          refine ws_getR cx ffX7_13 h24 dX7_eliminate_65 ?_
          refine ws_aload_n cx dX7_eliminate_68 rfl (j := 0) rfl ?_
          obtain ⟨v25, h26, hM⟩ := bnd hM
          refine ws_getI cx ffX7_28 h26 dX7_eliminate_69 ?_
          obtain ⟨v27, h28, hM⟩ := bnd hM
          refine ws_aald cx (by decide) h28 dX7_eliminate_72 ?_
          refine ws_iload_n cx dX7_eliminate_73 rfl (j := 2) rfl ?_
          refine ws_lload_n cx dX7_eliminate_74 rfl (j := 1) rfl ?_
          obtain ⟨q29, h30, hM⟩ := bnd hM
          refine ws_callS cx (rest := []) (st' := []) (kX7_reduce l D b h30) mvX7_reduce lkX7_92 rfl ⟨by decide, by decide⟩ (Nat.le_of_ble_eq_true rfl) ⟨rfl, rfl⟩ (Or.inl ⟨rfl, rfl⟩) rfl rfl dX7_eliminate_75 ?_
          refine ws_sub [0, 1, 2, 3] (lv' := [(0, .ref (b + o)), (1, .long x1), (3, .int x3), (5, .int x5)]) rfl ?_
          exact J78 _ hk9 _ ih _ _ _ _ hM
  have J112 : ∀ (me : ME), mX7_eliminate_j112 S o me = some q → WS X b 6 S me 112 [] [] := by
    intro  me hM
    unfold mX7_eliminate_j112 at hM
    exact ws_vretM cx ex hM dX7_eliminate_112
  have L9 : ∀ (n : Nat) (me : ME) (x1 : Int64) (x3 : Int32), lpn (mX7_eliminate_L9 S o) n (me, x1, x3) = some q → WS X b 6 S me 9 [(0, .ref (b + o)), (1, .long x1), (3, .int x3)] [] := by
    intro  n
    induction n with
    | zero => intro me x1 x3 hM; exact absurd hM (by intro h; cases h)
    | succ n ih =>
      intro me x1 x3 hM
      have hM : mX7_eliminate_L9 S o (lpn (mX7_eliminate_L9 S o) n) (me, x1, x3) = some q := hM
      unfold mX7_eliminate_L9 at hM
      refine ws_iload_n cx dX7_eliminate_9 rfl (j := 2) rfl ?_
      refine ws_iconst cx dX7_eliminate_10 (v := 3) (by decide) ?_
      refine ws_icmp_ge cx dX7_eliminate_11 (tgt := 112) (by decide) (fun c31 => ?_) (fun c31 => ?_)
      · have hM := if_t hM c31
        refine ws_sub [] (lv' := []) rfl ?_
        exact J112 _ hM
      · have hM := if_f hM c31
        refine ws_aload_n cx dX7_eliminate_14 rfl (j := 0) rfl ?_
        refine ws_iload_n cx dX7_eliminate_15 rfl (j := 2) rfl ?_
        obtain ⟨_, h34, hM⟩ := bnd hM
        obtain ⟨q32, h33, hM⟩ := bnd hM
        refine ws_callV cx (rest := []) (st' := [.int q32.1]) (kX7_pivotOf l D b h33) mvX7_pivotOf (ck_k h34) (by decide) (q := (RX7, TX7, 8)) rfl seX7_pivotOf lkX7_85 rfl ⟨by decide, by decide⟩ (Nat.le_of_ble_eq_true rfl) ⟨rfl, rfl⟩ (Or.inl ⟨rfl, rfl⟩) rfl rfl dX7_eliminate_16 ?_
        refine ws_istore cx dX7_eliminate_19 (by decide) (lv' := [(4, .int q32.1), (0, .ref (b + o)), (1, .long x1), (3, .int x3)]) rfl ?_
        refine ws_iload cx dX7_eliminate_21 (j := 0) rfl ?_
        refine ws_if_lt cx dX7_eliminate_23 (tgt := 106) (by decide) (fun c35 => ?_) (fun c35 => ?_)
        · have hM := if_t hM c35
          refine ws_sub [1, 2, 3] (lv' := [(0, .ref (b + o)), (1, .long x1), (3, .int x3)]) rfl ?_
          exact J106 _ ih _ _ _ hM
        · have hM := if_f hM c35
          refine ws_aload_n cx dX7_eliminate_26 rfl (j := 1) rfl ?_
          refine ws_aload_n cx dX7_eliminate_27 rfl (j := 1) rfl ?_
          obtain ⟨v36, h37, hM⟩ := bnd hM
          refine ws_getI cx ffX7_28 h37 dX7_eliminate_28 ?_
          refine ws_iload cx dX7_eliminate_31 (j := 0) rfl ?_
          obtain ⟨_, h40, hM⟩ := bnd hM
          obtain ⟨q38, h39, hM⟩ := bnd hM
          refine ws_callV cx (rest := []) (st' := []) (kX7_swap l D b h39) mvX7_swap (ck_k h40) (by decide) (q := (RX7, TX7, 8)) rfl seX7_swap lkX7_88 rfl ⟨by decide, by decide⟩ (Nat.le_of_ble_eq_true rfl) ⟨rfl, rfl⟩ (Or.inl ⟨rfl, rfl⟩) rfl rfl dX7_eliminate_33 ?_
          refine ws_iconst cx dX7_eliminate_36 (v := 0) (by decide) ?_
          refine ws_istore cx dX7_eliminate_37 (by decide) (lv' := [(5, .int (0 : Int32)), (4, .int q32.1), (0, .ref (b + o)), (1, .long x1), (3, .int x3)]) rfl ?_
          refine ws_sub [2, 3, 4, 0] (lv' := [(0, .ref (b + o)), (1, .long x1), (3, .int x3), (5, .int (0 : Int32))]) rfl ?_
          exact L39 _ ih _ _ _ _ _ hM
  unfold mX7_eliminate at hM
  refine ws_aload_n cx dX7_eliminate_0 rfl (j := 0) rfl ?_
  refine ws_iconst cx dX7_eliminate_1 (v := 0) (by decide) ?_
  obtain ⟨m42, h41, hM⟩ := bnd hM
  refine ws_putI cx ffX7_28 h41 dX7_eliminate_2 ?_
  refine ws_lconst cx dX7_eliminate_5 (v := 1) (by decide) ?_
  refine ws_lstore_n cx dX7_eliminate_6 rfl (by decide) (lv' := [(1, .long (1 : Int64)), (0, .ref (b + o))]) rfl ?_
  refine ws_iconst cx dX7_eliminate_7 (v := 0) (by decide) ?_
  refine ws_istore_n cx dX7_eliminate_8 rfl (by decide) (lv' := [(3, .int (0 : Int32)), (1, .long (1 : Int64)), (0, .ref (b + o))]) rfl ?_
  refine ws_sub [2, 1, 0] (lv' := [(0, .ref (b + o)), (1, .long (1 : Int64)), (3, .int (0 : Int32))]) rfl ?_
  exact L9 _ _ _ _ hM
