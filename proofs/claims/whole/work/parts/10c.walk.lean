def mX5_take_j88 (S : SH) (o : Nat) (a0 : Nat) (a1 : Nat) (me : ME) : Option (Unit × ME) :=
  some ((), me)
def mX5_take_L10 (S : SH) (o : Nat) (a0 : Nat) (a1 : Nat) (k10 : (ME × Int32 → Option (Unit × ME))) : ME × Int32 → Option (Unit × ME)
  | (me, x3) =>
    (gI S me 5 4 o).bind fun v1 =>
    if v1 ≤ x3 then
      mX5_take_j88 S o a0 a1 me
    else
      (gR S 2 0 a1).bind fun v4 =>
      (aI S me 11 v4 x3).bind fun v6 =>
      (gR S 5 0 o).bind fun v8 =>
      (uI S me v8 x3 v6).bind fun m11 =>
      (gR S 5 1 o).bind fun v12 =>
      (gR S 6 0 a0).bind fun v14 =>
      (aI S m11 11 v14 v6).bind fun v16 =>
      (uI S m11 v12 x3 v16).bind fun m19 =>
      (gR S 5 2 o).bind fun v20 =>
      (gR S 6 1 a0).bind fun v22 =>
      (aI S m19 11 v22 v6).bind fun v24 =>
      (uI S m19 v20 x3 v24).bind fun m27 =>
      (gR S 5 3 o).bind fun v28 =>
      (gR S 2 2 a1).bind fun v30 =>
      (aI S m27 11 v30 v6).bind fun v32 =>
      (gR S 2 1 a1).bind fun v34 =>
      (aI S m27 11 v34 x3).bind fun v36 =>
      (mX9_timeOf S m27 v32 v36).bind fun q38 =>
      (uI S q38.2 v28 x3 q38.1).bind fun m41 =>
      k10 (m41, x3 + (1 : Int32))
def mX5_take (S : SH) (me : ME) (o : Nat) (a0 : Nat) (a1 : Nat) : Option (Unit × ME) :=
  (gI S me 2 3 a1).bind fun v42 =>
  (sI S me 5 4 o v42).bind fun m45 =>
  lpn (mX5_take_L10 S o a0 a1) lpF (m45, (0 : Int32))
set_option maxRecDepth 100000 in
set_option maxHeartbeats 4000000 in
theorem kX5_take (l : Launch) (D : va_G) (b : Nat) {S : SH} {me : ME} {o : Nat} {a0 : Nat} {a1 : Nat} {q : Unit × ME} (hM : mX5_take S me o a0 a1 = some q) : Ct l D b yX5_take cX5_take 5 none 1 21 0 0 [.ref (b + o), .ref (b + a0), .ref (b + a1)] S me S q.2 none := by
  refine ct_of (own := RX5) (nm := "take") (lv := [(0, .ref (b + o)), (1, .ref (b + a0)), (2, .ref (b + a1))]) (plainFor_of_name (by decide)) rfl rfl (Nat.le_of_ble_eq_true rfl) rfl ⟨rfl, rfl⟩ (fun X cx ex hL => ?_)
  have J88 : ∀ (me : ME), mX5_take_j88 S o a0 a1 me = some q → WS X b 5 S me 88 [] [] := by
    intro  me hM
    unfold mX5_take_j88 at hM
    exact ws_vretM cx ex hM dX5_take_88
  have L10 : ∀ (n : Nat) (me : ME) (x3 : Int32), lpn (mX5_take_L10 S o a0 a1) n (me, x3) = some q → WS X b 5 S me 10 [(0, .ref (b + o)), (1, .ref (b + a0)), (2, .ref (b + a1)), (3, .int x3)] [] := by
    intro  n
    induction n with
    | zero => intro me x3 hM; exact absurd hM (by intro h; cases h)
    | succ n ih =>
      intro me x3 hM
      have hM : mX5_take_L10 S o a0 a1 (lpn (mX5_take_L10 S o a0 a1) n) (me, x3) = some q := hM
      unfold mX5_take_L10 at hM
      refine ws_iload_n cx dX5_take_10 rfl (j := 3) rfl ?_
      refine ws_aload_n cx dX5_take_11 rfl (j := 0) rfl ?_
      obtain ⟨v1, h2, hM⟩ := bnd hM
      refine ws_getI cx ffX5_30 h2 dX5_take_12 ?_
      refine ws_icmp_ge cx dX5_take_15 (tgt := 88) (by decide) (fun c3 => ?_) (fun c3 => ?_)
      · have hM := if_t hM c3
        refine ws_sub [] (lv' := []) rfl ?_
        exact J88 _ hM
      · have hM := if_f hM c3
        refine ws_aload_n cx dX5_take_18 rfl (j := 2) rfl ?_
        obtain ⟨v4, h5, hM⟩ := bnd hM
        refine ws_getR cx ffX5_31 h5 dX5_take_19 ?_
        refine ws_iload_n cx dX5_take_22 rfl (j := 3) rfl ?_
        obtain ⟨v6, h7, hM⟩ := bnd hM
        refine ws_iald cx h7 dX5_take_23 ?_
        refine ws_istore cx dX5_take_24 (by decide) (lv' := [(4, .int v6), (0, .ref (b + o)), (1, .ref (b + a0)), (2, .ref (b + a1)), (3, .int x3)]) rfl ?_
        refine ws_aload_n cx dX5_take_26 rfl (j := 1) rfl ?_
        obtain ⟨v8, h9, hM⟩ := bnd hM
        refine ws_getR cx ffX5_9 h9 dX5_take_27 ?_
        refine ws_iload_n cx dX5_take_30 rfl (j := 4) rfl ?_
        refine ws_iload cx dX5_take_31 (j := 0) rfl ?_
        obtain ⟨m11, h10, hM⟩ := bnd hM
        refine ws_iast cx h10 dX5_take_33 ?_
        refine ws_aload_n cx dX5_take_34 rfl (j := 1) rfl ?_
        obtain ⟨v12, h13, hM⟩ := bnd hM
        refine ws_getR cx ffX5_15 h13 dX5_take_35 ?_
        refine ws_iload_n cx dX5_take_38 rfl (j := 4) rfl ?_
        refine ws_aload_n cx dX5_take_39 rfl (j := 2) rfl ?_
        obtain ⟨v14, h15, hM⟩ := bnd hM
        refine ws_getR cx ffX5_32 h15 dX5_take_40 ?_
        refine ws_iload cx dX5_take_43 (j := 0) rfl ?_
        obtain ⟨v16, h17, hM⟩ := bnd hM
        refine ws_iald cx h17 dX5_take_45 ?_
        obtain ⟨m19, h18, hM⟩ := bnd hM
        refine ws_iast cx h18 dX5_take_46 ?_
        refine ws_aload_n cx dX5_take_47 rfl (j := 1) rfl ?_
        obtain ⟨v20, h21, hM⟩ := bnd hM
        refine ws_getR cx ffX5_18 h21 dX5_take_48 ?_
        refine ws_iload_n cx dX5_take_51 rfl (j := 4) rfl ?_
        refine ws_aload_n cx dX5_take_52 rfl (j := 2) rfl ?_
        obtain ⟨v22, h23, hM⟩ := bnd hM
        refine ws_getR cx ffX5_35 h23 dX5_take_53 ?_
        refine ws_iload cx dX5_take_56 (j := 0) rfl ?_
        obtain ⟨v24, h25, hM⟩ := bnd hM
        refine ws_iald cx h25 dX5_take_58 ?_
        obtain ⟨m27, h26, hM⟩ := bnd hM
        refine ws_iast cx h26 dX5_take_59 ?_
        refine ws_aload_n cx dX5_take_60 rfl (j := 1) rfl ?_
        obtain ⟨v28, h29, hM⟩ := bnd hM
        refine ws_getR cx ffX5_21 h29 dX5_take_61 ?_
        refine ws_iload_n cx dX5_take_64 rfl (j := 4) rfl ?_
        refine ws_aload_n cx dX5_take_65 rfl (j := 3) rfl ?_
        obtain ⟨v30, h31, hM⟩ := bnd hM
        refine ws_getR cx ffX5_36 h31 dX5_take_66 ?_
        refine ws_iload cx dX5_take_69 (j := 0) rfl ?_
        obtain ⟨v32, h33, hM⟩ := bnd hM
        refine ws_iald cx h33 dX5_take_71 ?_
        refine ws_aload_n cx dX5_take_72 rfl (j := 3) rfl ?_
        obtain ⟨v34, h35, hM⟩ := bnd hM
        refine ws_getR cx ffX5_39 h35 dX5_take_73 ?_
        refine ws_iload_n cx dX5_take_76 rfl (j := 4) rfl ?_
        obtain ⟨v36, h37, hM⟩ := bnd hM
        refine ws_iald cx h37 dX5_take_77 ?_
        obtain ⟨q38, h39, hM⟩ := bnd hM
        refine ws_callSN cx (rest := [.int x3, .ref (b + v28)]) (st' := [.int q38.1, .int x3, .ref (b + v28)]) (kX9_timeOf l D b h39) mvX9_timeOf lnX5_42 rfl ⟨by decide, by decide⟩ (Nat.le_of_ble_eq_true rfl) ⟨rfl, rfl⟩ (Or.inl ⟨rfl, rfl⟩) rfl rfl dX5_take_78 ?_
        obtain ⟨m41, h40, hM⟩ := bnd hM
        refine ws_iast cx h40 dX5_take_81 ?_
        refine ws_iinc cx dX5_take_82 (j := 4) rfl (v := x3 + (1 : Int32)) rfl (by decide) (lv' := [(3, .int (x3 + (1 : Int32))), (4, .int v6), (0, .ref (b + o)), (1, .ref (b + a0)), (2, .ref (b + a1))]) rfl ?_
        refine ws_goto cx dX5_take_85 (tgt := 10) (by decide) ?_
        refine ws_sub [2, 3, 4, 0] (lv' := [(0, .ref (b + o)), (1, .ref (b + a0)), (2, .ref (b + a1)), (3, .int (x3 + (1 : Int32)))]) rfl ?_
        exact ih _ _ hM
  unfold mX5_take at hM
  refine ws_aload_n cx dX5_take_0 rfl (j := 0) rfl ?_
  refine ws_aload_n cx dX5_take_1 rfl (j := 2) rfl ?_
  obtain ⟨v42, h43, hM⟩ := bnd hM
  refine ws_getI cx ffX5_24 h43 dX5_take_2 ?_
  obtain ⟨m45, h44, hM⟩ := bnd hM
  refine ws_putI cx ffX5_30 h44 dX5_take_5 ?_
  refine ws_iconst cx dX5_take_8 (v := 0) (by decide) ?_
  refine ws_istore_n cx dX5_take_9 rfl (by decide) (lv' := [(3, .int (0 : Int32)), (0, .ref (b + o)), (1, .ref (b + a0)), (2, .ref (b + a1))]) rfl ?_
  refine ws_sub [1, 2, 3, 0] (lv' := [(0, .ref (b + o)), (1, .ref (b + a0)), (2, .ref (b + a1)), (3, .int (0 : Int32))]) rfl ?_
  exact L10 _ _ _ hM

def mX1_isBefore_j42 (S : SH) (a0 : Nat) (a1 : Int32) (a2 : Int32) (me : ME) (y0 : Int32) : Option (Int32 × ME) :=
  if y0 = 0 ∨ y0 = 1 then some (y0, me) else none
def mX1_isBefore_j37 (S : SH) (a0 : Nat) (a1 : Int32) (a2 : Int32) (me : ME) : Option (Int32 × ME) :=
  mX1_isBefore_j42 S a0 a1 a2 me (1 : Int32)
def mX1_isBefore_j41 (S : SH) (a0 : Nat) (a1 : Int32) (a2 : Int32) (me : ME) : Option (Int32 × ME) :=
  mX1_isBefore_j42 S a0 a1 a2 me (0 : Int32)
def mX1_isBefore (S : SH) (me : ME) (a0 : Nat) (a1 : Int32) (a2 : Int32) : Option (Int32 × ME) :=
  (gR S 5 3 a0).bind fun v2 =>
  (aI S me 11 v2 a1).bind fun v4 =>
  (gR S 5 3 a0).bind fun v6 =>
  (aI S me 11 v6 a2).bind fun v8 =>
  if (v4 - v8) < 0 then
    mX1_isBefore_j37 S a0 a1 a2 me
  else
    if (v4 - v8) = 0 then
      (gR S 5 0 a0).bind fun v12 =>
      (aI S me 11 v12 a1).bind fun v14 =>
      (gR S 5 0 a0).bind fun v16 =>
      (aI S me 11 v16 a2).bind fun v18 =>
      if v18 ≤ v14 then
        mX1_isBefore_j41 S a0 a1 a2 me
      else
        mX1_isBefore_j37 S a0 a1 a2 me
    else
      mX1_isBefore_j41 S a0 a1 a2 me
set_option maxRecDepth 100000 in
set_option maxHeartbeats 4000000 in
theorem kX1_isBefore (l : Launch) (D : va_G) (b : Nat) {S : SH} {me : ME} {a0 : Nat} {a1 : Int32} {a2 : Int32} {q : Int32 × ME} (hM : mX1_isBefore S me a0 a1 a2 = some q) : Ct l D b yX1_isBefore cX1_isBefore 4 (some .boolean) 0 0 0 0 [.ref (b + a0), .int a1, .int a2] S me S q.2 (some (.int q.1)) := by
  refine ct_of (own := RX1) (nm := "isBefore") (lv := [(0, .ref (b + a0)), (1, .int a1), (2, .int a2)]) (plainFor_of_name (by decide)) rfl rfl (Nat.le_of_ble_eq_true rfl) rfl ⟨rfl, rfl⟩ (fun X cx ex hL => ?_)
  have J42 : ∀ (me : ME) (y0 : Int32), mX1_isBefore_j42 S a0 a1 a2 me y0 = some q → WS X b 4 S me 42 [] [.int y0] := by
    intro  me y0 hM
    unfold mX1_isBefore_j42 at hM
    obtain ⟨h1, hM⟩ := ite_o hM
    exact ws_zretM cx ex h1 hM dX1_isBefore_42
  have J37 : ∀ (me : ME), mX1_isBefore_j37 S a0 a1 a2 me = some q → WS X b 4 S me 37 [] [] := by
    intro  me hM
    unfold mX1_isBefore_j37 at hM
    refine ws_iconst cx dX1_isBefore_37 (v := 1) (by decide) ?_
    refine ws_goto cx dX1_isBefore_38 (tgt := 42) (by decide) ?_
    refine ws_sub [] (lv' := []) rfl ?_
    exact J42 _ _ hM
  have J41 : ∀ (me : ME), mX1_isBefore_j41 S a0 a1 a2 me = some q → WS X b 4 S me 41 [] [] := by
    intro  me hM
    unfold mX1_isBefore_j41 at hM
    refine ws_iconst cx dX1_isBefore_41 (v := 0) (by decide) ?_
    refine ws_sub [] (lv' := []) rfl ?_
    exact J42 _ _ hM
  unfold mX1_isBefore at hM
  refine ws_aload_n cx dX1_isBefore_0 rfl (j := 0) rfl ?_
  obtain ⟨v2, h3, hM⟩ := bnd hM
  refine ws_getR cx ffX1_40 h3 dX1_isBefore_1 ?_
  refine ws_iload_n cx dX1_isBefore_4 rfl (j := 1) rfl ?_
  obtain ⟨v4, h5, hM⟩ := bnd hM
  refine ws_iald cx h5 dX1_isBefore_5 ?_
  refine ws_aload_n cx dX1_isBefore_6 rfl (j := 0) rfl ?_
  obtain ⟨v6, h7, hM⟩ := bnd hM
  refine ws_getR cx ffX1_40 h7 dX1_isBefore_7 ?_
  refine ws_iload_n cx dX1_isBefore_10 rfl (j := 2) rfl ?_
  obtain ⟨v8, h9, hM⟩ := bnd hM
  refine ws_iald cx h9 dX1_isBefore_11 ?_
  refine ws_isub cx dX1_isBefore_12 ?_
  refine ws_istore_n cx dX1_isBefore_13 rfl (by decide) (lv' := [(3, .int (v4 - v8)), (0, .ref (b + a0)), (1, .int a1), (2, .int a2)]) rfl ?_
  refine ws_iload_n cx dX1_isBefore_14 rfl (j := 0) rfl ?_
  refine ws_if_lt cx dX1_isBefore_15 (tgt := 37) (by decide) (fun c10 => ?_) (fun c10 => ?_)
  · have hM := if_t hM c10
    refine ws_sub [] (lv' := []) rfl ?_
    exact J37 _ hM
  · have hM := if_f hM c10
    refine ws_iload_n cx dX1_isBefore_18 rfl (j := 0) rfl ?_
    refine ws_if_ne cx dX1_isBefore_19 (tgt := 41) (by decide) (fun c11 => ?_) (fun c11 => ?_)
    · have hM := if_f hM c11
      refine ws_sub [] (lv' := []) rfl ?_
      exact J41 _ hM
    · have hM := if_t hM c11
      refine ws_aload_n cx dX1_isBefore_22 rfl (j := 1) rfl ?_
      obtain ⟨v12, h13, hM⟩ := bnd hM
      refine ws_getR cx ffX1_43 h13 dX1_isBefore_23 ?_
      refine ws_iload_n cx dX1_isBefore_26 rfl (j := 2) rfl ?_
      obtain ⟨v14, h15, hM⟩ := bnd hM
      refine ws_iald cx h15 dX1_isBefore_27 ?_
      refine ws_aload_n cx dX1_isBefore_28 rfl (j := 1) rfl ?_
      obtain ⟨v16, h17, hM⟩ := bnd hM
      refine ws_getR cx ffX1_43 h17 dX1_isBefore_29 ?_
      refine ws_iload_n cx dX1_isBefore_32 rfl (j := 3) rfl ?_
      obtain ⟨v18, h19, hM⟩ := bnd hM
      refine ws_iald cx h19 dX1_isBefore_33 ?_
      refine ws_icmp_ge cx dX1_isBefore_34 (tgt := 41) (by decide) (fun c20 => ?_) (fun c20 => ?_)
      · have hM := if_t hM c20
        refine ws_sub [] (lv' := []) rfl ?_
        exact J41 _ hM
      · have hM := if_f hM c20
        refine ws_sub [] (lv' := []) rfl ?_
        exact J37 _ hM

def mX1_sort_j52 (S : SH) (o : Nat) (a0 : Nat) (k2 : (ME × Int32 → Option (Unit × ME))) (me : ME) (x2 : Int32) (x3 : Int32) : Option (Unit × ME) :=
  (gR S 1 3 o).bind fun v1 =>
  (uI S me v1 x3 x2).bind fun m4 =>
  k2 (m4, x2 + (1 : Int32))
def mX1_sort_L12 (S : SH) (o : Nat) (a0 : Nat) (k2 : (ME × Int32 → Option (Unit × ME))) (k12 : (ME × Int32 × Int32 → Option (Unit × ME))) : ME × Int32 × Int32 → Option (Unit × ME)
  | (me, x2, x3) =>
    if x3 ≤ 0 then
      mX1_sort_j52 S o a0 k2 me x2 x3
    else
      (gR S 1 3 o).bind fun v6 =>
      (aI S me 11 v6 (x3 - (1 : Int32))).bind fun v8 =>
      (mX1_isBefore S me a0 x2 v8).bind fun q10 =>
      if q10.1 = 0 then
        mX1_sort_j52 S o a0 k2 q10.2 x2 x3
      else
        (gR S 1 3 o).bind fun v13 =>
        (gR S 1 3 o).bind fun v15 =>
        (aI S q10.2 11 v15 (x3 - (1 : Int32))).bind fun v17 =>
        (uI S q10.2 v13 x3 v17).bind fun m20 =>
        k12 (m20, x2, x3 + (-1 : Int32))
def mX1_sort_j65 (S : SH) (o : Nat) (a0 : Nat) (me : ME) : Option (Unit × ME) :=
  some ((), me)
def mX1_sort_L2 (S : SH) (o : Nat) (a0 : Nat) (k2 : (ME × Int32 → Option (Unit × ME))) : ME × Int32 → Option (Unit × ME)
  | (me, x2) =>
    (gI S me 5 4 a0).bind fun v21 =>
    if v21 ≤ x2 then
      mX1_sort_j65 S o a0 me
    else
      lpn (mX1_sort_L12 S o a0 k2) lpF (me, x2, x2)
def mX1_sort (S : SH) (me : ME) (o : Nat) (a0 : Nat) : Option (Unit × ME) :=
  lpn (mX1_sort_L2 S o a0) lpF (me, (0 : Int32))
set_option maxRecDepth 100000 in
set_option maxHeartbeats 4000000 in
theorem kX1_sort (l : Launch) (D : va_G) (b : Nat) {S : SH} {me : ME} {o : Nat} {a0 : Nat} {q : Unit × ME} (hM : mX1_sort S me o a0 = some q) : Ct l D b yX1_sort cX1_sort 4 none 1 23 0 0 [.ref (b + o), .ref (b + a0)] S me S q.2 none := by
  refine ct_of (own := RX1) (nm := "sort") (lv := [(0, .ref (b + o)), (1, .ref (b + a0))]) (plainFor_of_name (by decide)) rfl rfl (Nat.le_of_ble_eq_true rfl) rfl ⟨rfl, rfl⟩ (fun X cx ex hL => ?_)
  have J52 : ∀ (k2 : (ME × Int32 → Option (Unit × ME))), (∀ (me : ME) (x2 : Int32), k2 (me, x2) = some q → WS X b 4 S me 2 [(0, .ref (b + o)), (1, .ref (b + a0)), (2, .int x2)] []) → ∀ (me : ME) (x2 : Int32) (x3 : Int32), mX1_sort_j52 S o a0 k2 me x2 x3 = some q → WS X b 4 S me 52 [(0, .ref (b + o)), (1, .ref (b + a0)), (2, .int x2), (3, .int x3)] [] := by
    intro k2 hk2 me x2 x3 hM
    unfold mX1_sort_j52 at hM
    refine ws_aload_n cx dX1_sort_52 rfl (j := 0) rfl ?_
    obtain ⟨v1, h2, hM⟩ := bnd hM
    refine ws_getR cx ffX1_18 h2 dX1_sort_53 ?_
    refine ws_iload_n cx dX1_sort_56 rfl (j := 3) rfl ?_
    refine ws_iload_n cx dX1_sort_57 rfl (j := 2) rfl ?_
    obtain ⟨m4, h3, hM⟩ := bnd hM
    refine ws_iast cx h3 dX1_sort_58 ?_
    refine ws_iinc cx dX1_sort_59 (j := 2) rfl (v := x2 + (1 : Int32)) rfl (by decide) (lv' := [(2, .int (x2 + (1 : Int32))), (0, .ref (b + o)), (1, .ref (b + a0)), (3, .int x3)]) rfl ?_
    refine ws_goto cx dX1_sort_62 (tgt := 2) (by decide) ?_
    refine ws_sub [1, 2, 0] (lv' := [(0, .ref (b + o)), (1, .ref (b + a0)), (2, .int (x2 + (1 : Int32)))]) rfl ?_
    exact hk2 _ _ hM
  have L12 : ∀ (k2 : (ME × Int32 → Option (Unit × ME))), (∀ (me : ME) (x2 : Int32), k2 (me, x2) = some q → WS X b 4 S me 2 [(0, .ref (b + o)), (1, .ref (b + a0)), (2, .int x2)] []) → ∀ (n : Nat) (me : ME) (x2 : Int32) (x3 : Int32), lpn (mX1_sort_L12 S o a0 k2) n (me, x2, x3) = some q → WS X b 4 S me 12 [(0, .ref (b + o)), (1, .ref (b + a0)), (2, .int x2), (3, .int x3)] [] := by
    intro k2 hk2 n
    induction n with
    | zero => intro me x2 x3 hM; exact absurd hM (by intro h; cases h)
    | succ n ih =>
      intro me x2 x3 hM
      have hM : mX1_sort_L12 S o a0 k2 (lpn (mX1_sort_L12 S o a0 k2) n) (me, x2, x3) = some q := hM
      unfold mX1_sort_L12 at hM
      refine ws_iload_n cx dX1_sort_12 rfl (j := 3) rfl ?_
      refine ws_if_le cx dX1_sort_13 (tgt := 52) (by decide) (fun c5 => ?_) (fun c5 => ?_)
      · have hM := if_t hM c5
        refine ws_sub [0, 1, 2, 3] (lv' := [(0, .ref (b + o)), (1, .ref (b + a0)), (2, .int x2), (3, .int x3)]) rfl ?_
        exact J52 _ hk2 _ _ _ hM
      · have hM := if_f hM c5
        refine ws_aload_n cx dX1_sort_16 rfl (j := 1) rfl ?_
        refine ws_iload_n cx dX1_sort_17 rfl (j := 2) rfl ?_
        refine ws_aload_n cx dX1_sort_18 rfl (j := 0) rfl ?_
        obtain ⟨v6, h7, hM⟩ := bnd hM
        refine ws_getR cx ffX1_18 h7 dX1_sort_19 ?_
        refine ws_iload_n cx dX1_sort_22 rfl (j := 3) rfl ?_
        refine ws_iconst cx dX1_sort_23 (v := 1) (by decide) ?_
        refine ws_isub cx dX1_sort_24 ?_
        obtain ⟨v8, h9, hM⟩ := bnd hM
        refine ws_iald cx h9 dX1_sort_25 ?_
        obtain ⟨q10, h11, hM⟩ := bnd hM
        refine ws_callS cx (rest := []) (st' := [.int q10.1]) (kX1_isBefore l D b h11) mvX1_isBefore lkX1_36 rfl ⟨by decide, by decide⟩ (Nat.le_of_ble_eq_true rfl) ⟨rfl, rfl⟩ (Or.inl ⟨rfl, rfl⟩) rfl rfl dX1_sort_26 ?_
        refine ws_if_eq cx dX1_sort_29 (tgt := 52) (by decide) (fun c12 => ?_) (fun c12 => ?_)
        · have hM := if_t hM c12
          refine ws_sub [0, 1, 2, 3] (lv' := [(0, .ref (b + o)), (1, .ref (b + a0)), (2, .int x2), (3, .int x3)]) rfl ?_
          exact J52 _ hk2 _ _ _ hM
        · have hM := if_f hM c12
          refine ws_aload_n cx dX1_sort_32 rfl (j := 0) rfl ?_
          obtain ⟨v13, h14, hM⟩ := bnd hM
          refine ws_getR cx ffX1_18 h14 dX1_sort_33 ?_
          refine ws_iload_n cx dX1_sort_36 rfl (j := 3) rfl ?_
          refine ws_aload_n cx dX1_sort_37 rfl (j := 0) rfl ?_
          obtain ⟨v15, h16, hM⟩ := bnd hM
          refine ws_getR cx ffX1_18 h16 dX1_sort_38 ?_
          refine ws_iload_n cx dX1_sort_41 rfl (j := 3) rfl ?_
          refine ws_iconst cx dX1_sort_42 (v := 1) (by decide) ?_
          refine ws_isub cx dX1_sort_43 ?_
          obtain ⟨v17, h18, hM⟩ := bnd hM
          refine ws_iald cx h18 dX1_sort_44 ?_
          obtain ⟨m20, h19, hM⟩ := bnd hM
          refine ws_iast cx h19 dX1_sort_45 ?_
          refine ws_iinc cx dX1_sort_46 (j := 3) rfl (v := x3 + (-1 : Int32)) rfl (by decide) (lv' := [(3, .int (x3 + (-1 : Int32))), (0, .ref (b + o)), (1, .ref (b + a0)), (2, .int x2)]) rfl ?_
          refine ws_goto cx dX1_sort_49 (tgt := 12) (by decide) ?_
          refine ws_sub [1, 2, 3, 0] (lv' := [(0, .ref (b + o)), (1, .ref (b + a0)), (2, .int x2), (3, .int (x3 + (-1 : Int32)))]) rfl ?_
          exact ih _ _ _ hM
  have J65 : ∀ (me : ME), mX1_sort_j65 S o a0 me = some q → WS X b 4 S me 65 [] [] := by
    intro  me hM
    unfold mX1_sort_j65 at hM
    exact ws_vretM cx ex hM dX1_sort_65
  have L2 : ∀ (n : Nat) (me : ME) (x2 : Int32), lpn (mX1_sort_L2 S o a0) n (me, x2) = some q → WS X b 4 S me 2 [(0, .ref (b + o)), (1, .ref (b + a0)), (2, .int x2)] [] := by
    intro  n
    induction n with
    | zero => intro me x2 hM; exact absurd hM (by intro h; cases h)
    | succ n ih =>
      intro me x2 hM
      have hM : mX1_sort_L2 S o a0 (lpn (mX1_sort_L2 S o a0) n) (me, x2) = some q := hM
      unfold mX1_sort_L2 at hM
      refine ws_iload_n cx dX1_sort_2 rfl (j := 2) rfl ?_
      refine ws_aload_n cx dX1_sort_3 rfl (j := 1) rfl ?_
      obtain ⟨v21, h22, hM⟩ := bnd hM
      refine ws_getI cx ffX1_29 h22 dX1_sort_4 ?_
      refine ws_icmp_ge cx dX1_sort_7 (tgt := 65) (by decide) (fun c23 => ?_) (fun c23 => ?_)
      · have hM := if_t hM c23
        refine ws_sub [] (lv' := []) rfl ?_
        exact J65 _ hM
      · have hM := if_f hM c23
        refine ws_iload_n cx dX1_sort_10 rfl (j := 2) rfl ?_
        refine ws_istore_n cx dX1_sort_11 rfl (by decide) (lv' := [(3, .int x2), (0, .ref (b + o)), (1, .ref (b + a0)), (2, .int x2)]) rfl ?_
        refine ws_sub [1, 2, 3, 0] (lv' := [(0, .ref (b + o)), (1, .ref (b + a0)), (2, .int x2), (3, .int x2)]) rfl ?_
        exact L12 _ ih _ _ _ _ hM
  unfold mX1_sort at hM
  refine ws_iconst cx dX1_sort_0 (v := 0) (by decide) ?_
  refine ws_istore_n cx dX1_sort_1 rfl (by decide) (lv' := [(2, .int (0 : Int32)), (0, .ref (b + o)), (1, .ref (b + a0))]) rfl ?_
  refine ws_sub [1, 2, 0] (lv' := [(0, .ref (b + o)), (1, .ref (b + a0)), (2, .int (0 : Int32))]) rfl ?_
  exact L2 _ _ _ hM

def mX9_holds_j13 (S : SH) (a0 : Int32) (a1 : Int32) (me : ME) (y0 : Int32) : Option (Int32 × ME) :=
  if y0 = 0 ∨ y0 = 1 then some (y0, me) else none
def mX9_holds (S : SH) (me : ME) (a0 : Int32) (a1 : Int32) : Option (Int32 × ME) :=
  if ((a0 >>> (a1 &&& 31)) &&& (1 : Int32)) = 0 then
    mX9_holds_j13 S a0 a1 me (0 : Int32)
  else
    mX9_holds_j13 S a0 a1 me (1 : Int32)
set_option maxRecDepth 100000 in
set_option maxHeartbeats 4000000 in
theorem kX9_holds (l : Launch) (D : va_G) (b : Nat) {S : SH} {me : ME} {a0 : Int32} {a1 : Int32} {q : Int32 × ME} (hM : mX9_holds S me a0 a1 = some q) : Ct l D b yX9_holds cX9_holds 2 (some .boolean) 0 0 0 0 [.int a0, .int a1] S me S q.2 (some (.int q.1)) := by
  refine ct_of (own := RX9) (nm := "holds") (lv := [(0, .int a0), (1, .int a1)]) (plainFor_of_name (by decide)) rfl rfl (Nat.le_of_ble_eq_true rfl) rfl ⟨rfl, rfl⟩ (fun X cx ex hL => ?_)
  have J13 : ∀ (me : ME) (y0 : Int32), mX9_holds_j13 S a0 a1 me y0 = some q → WS X b 2 S me 13 [] [.int y0] := by
    intro  me y0 hM
    unfold mX9_holds_j13 at hM
    obtain ⟨h1, hM⟩ := ite_o hM
    exact ws_zretM cx ex h1 hM dX9_holds_13
  unfold mX9_holds at hM
  refine ws_iload_n cx dX9_holds_0 rfl (j := 0) rfl ?_
  refine ws_iload_n cx dX9_holds_1 rfl (j := 1) rfl ?_
  refine ws_ishr cx dX9_holds_2 ?_
  refine ws_iconst cx dX9_holds_3 (v := 1) (by decide) ?_
  refine ws_iand cx dX9_holds_4 ?_
  refine ws_if_eq cx dX9_holds_5 (tgt := 12) (by decide) (fun c2 => ?_) (fun c2 => ?_)
  · have hM := if_t hM c2
    refine ws_iconst cx dX9_holds_12 (v := 0) (by decide) ?_
    refine ws_sub [] (lv' := []) rfl ?_
    exact J13 _ _ hM
  · have hM := if_f hM c2
    refine ws_iconst cx dX9_holds_8 (v := 1) (by decide) ?_
    refine ws_goto cx dX9_holds_9 (tgt := 13) (by decide) ?_
    refine ws_sub [] (lv' := []) rfl ?_
    exact J13 _ _ hM

def mX1_goTogether_j83 (S : SH) (a0 : Nat) (a1 : Int32) (a2 : Int32) (me : ME) (y0 : Int32) : Option (Int32 × ME) :=
  if y0 = 0 ∨ y0 = 1 then some (y0, me) else none
def mX1_goTogether (S : SH) (me : ME) (a0 : Nat) (a1 : Int32) (a2 : Int32) : Option (Int32 × ME) :=
  (gR S 5 0 a0).bind fun v2 =>
  (aI S me 11 v2 a1).bind fun v4 =>
  (gR S 5 0 a0).bind fun v6 =>
  (aI S me 11 v6 a2).bind fun v8 =>
  if v4 = v8 then
    some ((0 : Int32), me)
  else
    (gR S 5 3 a0).bind fun v11 =>
    (aI S me 11 v11 a1).bind fun v13 =>
    (gR S 5 3 a0).bind fun v15 =>
    (aI S me 11 v15 a2).bind fun v17 =>
    (gR S 5 1 a0).bind fun v19 =>
    (aI S me 11 v19 a1).bind fun v21 =>
    (gR S 5 1 a0).bind fun v23 =>
    (aI S me 11 v23 a2).bind fun v25 =>
    (gR S 5 2 a0).bind fun v27 =>
    (aI S me 11 v27 a1).bind fun v29 =>
    (gR S 5 2 a0).bind fun v31 =>
    (aI S me 11 v31 a2).bind fun v33 =>
    if (((v21 - v25) * (v21 - v25)) + ((v29 - v33) * (v29 - v33))) < ((v13 - v17) * (v13 - v17)) then
      mX1_goTogether_j83 S a0 a1 a2 me (0 : Int32)
    else
      mX1_goTogether_j83 S a0 a1 a2 me (1 : Int32)
set_option maxRecDepth 100000 in
set_option maxHeartbeats 4000000 in
theorem kX1_goTogether (l : Launch) (D : va_G) (b : Nat) {S : SH} {me : ME} {a0 : Nat} {a1 : Int32} {a2 : Int32} {q : Int32 × ME} (hM : mX1_goTogether S me a0 a1 a2 = some q) : Ct l D b yX1_goTogether cX1_goTogether 6 (some .boolean) 0 0 0 0 [.ref (b + a0), .int a1, .int a2] S me S q.2 (some (.int q.1)) := by
  refine ct_of (own := RX1) (nm := "goTogether") (lv := [(0, .ref (b + a0)), (1, .int a1), (2, .int a2)]) (plainFor_of_name (by decide)) rfl rfl (Nat.le_of_ble_eq_true rfl) rfl ⟨rfl, rfl⟩ (fun X cx ex hL => ?_)
  have J83 : ∀ (me : ME) (y0 : Int32), mX1_goTogether_j83 S a0 a1 a2 me y0 = some q → WS X b 6 S me 83 [] [.int y0] := by
    intro  me y0 hM
    unfold mX1_goTogether_j83 at hM
    obtain ⟨h1, hM⟩ := ite_o hM
    exact ws_zretM cx ex h1 hM dX1_goTogether_83
  unfold mX1_goTogether at hM
  refine ws_aload_n cx dX1_goTogether_0 rfl (j := 0) rfl ?_
  obtain ⟨v2, h3, hM⟩ := bnd hM
  refine ws_getR cx ffX1_43 h3 dX1_goTogether_1 ?_
  refine ws_iload_n cx dX1_goTogether_4 rfl (j := 1) rfl ?_
  obtain ⟨v4, h5, hM⟩ := bnd hM
  refine ws_iald cx h5 dX1_goTogether_5 ?_
  refine ws_aload_n cx dX1_goTogether_6 rfl (j := 0) rfl ?_
  obtain ⟨v6, h7, hM⟩ := bnd hM
  refine ws_getR cx ffX1_43 h7 dX1_goTogether_7 ?_
  refine ws_iload_n cx dX1_goTogether_10 rfl (j := 2) rfl ?_
  obtain ⟨v8, h9, hM⟩ := bnd hM
  refine ws_iald cx h9 dX1_goTogether_11 ?_
  refine ws_icmp_ne cx dX1_goTogether_12 (tgt := 17) (by decide) (fun c10 => ?_) (fun c10 => ?_)
  · have hM := if_f hM c10
    refine ws_aload_n cx dX1_goTogether_17 rfl (j := 0) rfl ?_
    obtain ⟨v11, h12, hM⟩ := bnd hM
    refine ws_getR cx ffX1_40 h12 dX1_goTogether_18 ?_
    refine ws_iload_n cx dX1_goTogether_21 rfl (j := 1) rfl ?_
    obtain ⟨v13, h14, hM⟩ := bnd hM
    refine ws_iald cx h14 dX1_goTogether_22 ?_
    refine ws_aload_n cx dX1_goTogether_23 rfl (j := 0) rfl ?_
    obtain ⟨v15, h16, hM⟩ := bnd hM
    refine ws_getR cx ffX1_40 h16 dX1_goTogether_24 ?_
    refine ws_iload_n cx dX1_goTogether_27 rfl (j := 2) rfl ?_
    obtain ⟨v17, h18, hM⟩ := bnd hM
    refine ws_iald cx h18 dX1_goTogether_28 ?_
    refine ws_isub cx dX1_goTogether_29 ?_
    refine ws_istore_n cx dX1_goTogether_30 rfl (by decide) (lv' := [(3, .int (v13 - v17)), (0, .ref (b + a0)), (1, .int a1), (2, .int a2)]) rfl ?_
    refine ws_aload_n cx dX1_goTogether_31 rfl (j := 1) rfl ?_
    obtain ⟨v19, h20, hM⟩ := bnd hM
    refine ws_getR cx ffX1_56 h20 dX1_goTogether_32 ?_
    refine ws_iload_n cx dX1_goTogether_35 rfl (j := 2) rfl ?_
    obtain ⟨v21, h22, hM⟩ := bnd hM
    refine ws_iald cx h22 dX1_goTogether_36 ?_
    refine ws_aload_n cx dX1_goTogether_37 rfl (j := 1) rfl ?_
    obtain ⟨v23, h24, hM⟩ := bnd hM
    refine ws_getR cx ffX1_56 h24 dX1_goTogether_38 ?_
    refine ws_iload_n cx dX1_goTogether_41 rfl (j := 3) rfl ?_
    obtain ⟨v25, h26, hM⟩ := bnd hM
    refine ws_iald cx h26 dX1_goTogether_42 ?_
    refine ws_isub cx dX1_goTogether_43 ?_
    refine ws_istore cx dX1_goTogether_44 (by decide) (lv' := [(4, .int (v21 - v25)), (3, .int (v13 - v17)), (0, .ref (b + a0)), (1, .int a1), (2, .int a2)]) rfl ?_
    refine ws_aload_n cx dX1_goTogether_46 rfl (j := 2) rfl ?_
    obtain ⟨v27, h28, hM⟩ := bnd hM
    refine ws_getR cx ffX1_59 h28 dX1_goTogether_47 ?_
    refine ws_iload_n cx dX1_goTogether_50 rfl (j := 3) rfl ?_
    obtain ⟨v29, h30, hM⟩ := bnd hM
    refine ws_iald cx h30 dX1_goTogether_51 ?_
    refine ws_aload_n cx dX1_goTogether_52 rfl (j := 2) rfl ?_
    obtain ⟨v31, h32, hM⟩ := bnd hM
    refine ws_getR cx ffX1_59 h32 dX1_goTogether_53 ?_
    refine ws_iload_n cx dX1_goTogether_56 rfl (j := 4) rfl ?_
    obtain ⟨v33, h34, hM⟩ := bnd hM
    refine ws_iald cx h34 dX1_goTogether_57 ?_
    refine ws_isub cx dX1_goTogether_58 ?_
    refine ws_istore cx dX1_goTogether_59 (by decide) (lv' := [(5, .int (v29 - v33)), (4, .int (v21 - v25)), (3, .int (v13 - v17)), (0, .ref (b + a0)), (1, .int a1), (2, .int a2)]) rfl ?_
    refine ws_iload_n cx dX1_goTogether_61 rfl (j := 2) rfl ?_
    refine ws_iload_n cx dX1_goTogether_62 rfl (j := 2) rfl ?_
    refine ws_imul cx dX1_goTogether_63 ?_
    refine ws_iload cx dX1_goTogether_64 (j := 1) rfl ?_
    refine ws_iload cx dX1_goTogether_66 (j := 1) rfl ?_
    refine ws_imul cx dX1_goTogether_68 ?_
    refine ws_iload cx dX1_goTogether_69 (j := 0) rfl ?_
    refine ws_iload cx dX1_goTogether_71 (j := 0) rfl ?_
    refine ws_imul cx dX1_goTogether_73 ?_
    refine ws_iadd cx dX1_goTogether_74 ?_
    refine ws_icmp_gt cx dX1_goTogether_75 (tgt := 82) (by decide) (fun c35 => ?_) (fun c35 => ?_)
    · have hM := if_t hM c35
      refine ws_iconst cx dX1_goTogether_82 (v := 0) (by decide) ?_
      refine ws_sub [] (lv' := []) rfl ?_
      exact J83 _ _ hM
    · have hM := if_f hM c35
      refine ws_iconst cx dX1_goTogether_78 (v := 1) (by decide) ?_
      refine ws_goto cx dX1_goTogether_79 (tgt := 83) (by decide) ?_
      refine ws_sub [] (lv' := []) rfl ?_
      exact J83 _ _ hM
  · have hM := if_t hM c10
    refine ws_iconst cx dX1_goTogether_15 (v := 0) (by decide) ?_
    exact ws_zretM cx ex (by decide) hM dX1_goTogether_16

def mX1_fits_j36 (S : SH) (o : Nat) (a0 : Nat) (a1 : Int32) (a2 : Int32) (me : ME) : Option (Int32 × ME) :=
  some ((0 : Int32), me)
def mX1_fits_j38 (S : SH) (o : Nat) (a0 : Nat) (a1 : Int32) (a2 : Int32) (k3 : (ME × Int32 → Option (Int32 × ME))) (me : ME) (x4 : Int32) : Option (Int32 × ME) :=
  k3 (me, x4 + (1 : Int32))
def mX1_fits_j44 (S : SH) (o : Nat) (a0 : Nat) (a1 : Int32) (a2 : Int32) (me : ME) : Option (Int32 × ME) :=
  some ((1 : Int32), me)
def mX1_fits_L3 (S : SH) (o : Nat) (a0 : Nat) (a1 : Int32) (a2 : Int32) (k3 : (ME × Int32 → Option (Int32 × ME))) : ME × Int32 → Option (Int32 × ME)
  | (me, x4) =>
    (gI S me 5 4 a0).bind fun v1 =>
    if v1 ≤ x4 then
      mX1_fits_j44 S o a0 a1 a2 me
    else
      (gR S 1 0 o).bind fun v4 =>
      (aI S me 11 v4 a1).bind fun v6 =>
      (mX9_holds S me v6 x4).bind fun q8 =>
      if q8.1 = 0 then
        mX1_fits_j38 S o a0 a1 a2 k3 q8.2 x4
      else
        (mX1_goTogether S q8.2 a0 x4 a2).bind fun q11 =>
        if q11.1 = 0 then
          mX1_fits_j36 S o a0 a1 a2 q11.2
        else
          mX1_fits_j38 S o a0 a1 a2 k3 q11.2 x4
def mX1_fits (S : SH) (me : ME) (o : Nat) (a0 : Nat) (a1 : Int32) (a2 : Int32) : Option (Int32 × ME) :=
  lpn (mX1_fits_L3 S o a0 a1 a2) lpF (me, (0 : Int32))
set_option maxRecDepth 100000 in
set_option maxHeartbeats 4000000 in
theorem kX1_fits (l : Launch) (D : va_G) (b : Nat) {S : SH} {me : ME} {o : Nat} {a0 : Nat} {a1 : Int32} {a2 : Int32} {q : Int32 × ME} (hM : mX1_fits S me o a0 a1 a2 = some q) : Ct l D b yX1_fits cX1_fits 5 (some .boolean) 1 25 0 0 [.ref (b + o), .ref (b + a0), .int a1, .int a2] S me S q.2 (some (.int q.1)) := by
  refine ct_of (own := RX1) (nm := "fits") (lv := [(0, .ref (b + o)), (1, .ref (b + a0)), (2, .int a1), (3, .int a2)]) (plainFor_of_name (by decide)) rfl rfl (Nat.le_of_ble_eq_true rfl) rfl ⟨rfl, rfl⟩ (fun X cx ex hL => ?_)
  have J36 : ∀ (me : ME), mX1_fits_j36 S o a0 a1 a2 me = some q → WS X b 5 S me 36 [] [] := by
    intro  me hM
    unfold mX1_fits_j36 at hM
    refine ws_iconst cx dX1_fits_36 (v := 0) (by decide) ?_
    exact ws_zretM cx ex (by decide) hM dX1_fits_37
  have J38 : ∀ (k3 : (ME × Int32 → Option (Int32 × ME))), (∀ (me : ME) (x4 : Int32), k3 (me, x4) = some q → WS X b 5 S me 3 [(0, .ref (b + o)), (1, .ref (b + a0)), (2, .int a1), (3, .int a2), (4, .int x4)] []) → ∀ (me : ME) (x4 : Int32), mX1_fits_j38 S o a0 a1 a2 k3 me x4 = some q → WS X b 5 S me 38 [(0, .ref (b + o)), (1, .ref (b + a0)), (2, .int a1), (3, .int a2), (4, .int x4)] [] := by
    intro k3 hk3 me x4 hM
    unfold mX1_fits_j38 at hM
    refine ws_iinc cx dX1_fits_38 (j := 4) rfl (v := x4 + (1 : Int32)) rfl (by decide) (lv' := [(4, .int (x4 + (1 : Int32))), (0, .ref (b + o)), (1, .ref (b + a0)), (2, .int a1), (3, .int a2)]) rfl ?_
    refine ws_goto cx dX1_fits_41 (tgt := 3) (by decide) ?_
    refine ws_sub [1, 2, 3, 4, 0] (lv' := [(0, .ref (b + o)), (1, .ref (b + a0)), (2, .int a1), (3, .int a2), (4, .int (x4 + (1 : Int32)))]) rfl ?_
    exact hk3 _ _ hM
  have J44 : ∀ (me : ME), mX1_fits_j44 S o a0 a1 a2 me = some q → WS X b 5 S me 44 [] [] := by
    intro  me hM
    unfold mX1_fits_j44 at hM
    refine ws_iconst cx dX1_fits_44 (v := 1) (by decide) ?_
    exact ws_zretM cx ex (by decide) hM dX1_fits_45
  have L3 : ∀ (n : Nat) (me : ME) (x4 : Int32), lpn (mX1_fits_L3 S o a0 a1 a2) n (me, x4) = some q → WS X b 5 S me 3 [(0, .ref (b + o)), (1, .ref (b + a0)), (2, .int a1), (3, .int a2), (4, .int x4)] [] := by
    intro  n
    induction n with
    | zero => intro me x4 hM; exact absurd hM (by intro h; cases h)
    | succ n ih =>
      intro me x4 hM
      have hM : mX1_fits_L3 S o a0 a1 a2 (lpn (mX1_fits_L3 S o a0 a1 a2) n) (me, x4) = some q := hM
      unfold mX1_fits_L3 at hM
      refine ws_iload cx dX1_fits_3 (j := 4) rfl ?_
      refine ws_aload_n cx dX1_fits_5 rfl (j := 1) rfl ?_
      obtain ⟨v1, h2, hM⟩ := bnd hM
      refine ws_getI cx ffX1_29 h2 dX1_fits_6 ?_
      refine ws_icmp_ge cx dX1_fits_9 (tgt := 44) (by decide) (fun c3 => ?_) (fun c3 => ?_)
      · have hM := if_t hM c3
        refine ws_sub [] (lv' := []) rfl ?_
        exact J44 _ hM
      · have hM := if_f hM c3
        refine ws_aload_n cx dX1_fits_12 rfl (j := 0) rfl ?_
        obtain ⟨v4, h5, hM⟩ := bnd hM
        refine ws_getR cx ffX1_9 h5 dX1_fits_13 ?_
        refine ws_iload_n cx dX1_fits_16 rfl (j := 2) rfl ?_
        obtain ⟨v6, h7, hM⟩ := bnd hM
        refine ws_iald cx h7 dX1_fits_17 ?_
        refine ws_iload cx dX1_fits_18 (j := 4) rfl ?_
        obtain ⟨q8, h9, hM⟩ := bnd hM
        refine ws_callSN cx (rest := []) (st' := [.int q8.1]) (kX9_holds l D b h9) mvX9_holds lnX1_49 rfl ⟨by decide, by decide⟩ (Nat.le_of_ble_eq_true rfl) ⟨rfl, rfl⟩ (Or.inl ⟨rfl, rfl⟩) rfl rfl dX1_fits_20 ?_
        refine ws_if_eq cx dX1_fits_23 (tgt := 38) (by decide) (fun c10 => ?_) (fun c10 => ?_)
        · have hM := if_t hM c10
          refine ws_sub [0, 1, 2, 3, 4] (lv' := [(0, .ref (b + o)), (1, .ref (b + a0)), (2, .int a1), (3, .int a2), (4, .int x4)]) rfl ?_
          exact J38 _ ih _ _ hM
        · have hM := if_f hM c10
          refine ws_aload_n cx dX1_fits_26 rfl (j := 1) rfl ?_
          refine ws_iload cx dX1_fits_27 (j := 4) rfl ?_
          refine ws_iload_n cx dX1_fits_29 rfl (j := 3) rfl ?_
          obtain ⟨q11, h12, hM⟩ := bnd hM
          refine ws_callS cx (rest := []) (st' := [.int q11.1]) (kX1_goTogether l D b h12) mvX1_goTogether lkX1_53 rfl ⟨by decide, by decide⟩ (Nat.le_of_ble_eq_true rfl) ⟨rfl, rfl⟩ (Or.inl ⟨rfl, rfl⟩) rfl rfl dX1_fits_30 ?_
          refine ws_if_ne cx dX1_fits_33 (tgt := 38) (by decide) (fun c13 => ?_) (fun c13 => ?_)
          · have hM := if_f hM c13
            refine ws_sub [0, 1, 2, 3, 4] (lv' := [(0, .ref (b + o)), (1, .ref (b + a0)), (2, .int a1), (3, .int a2), (4, .int x4)]) rfl ?_
            exact J38 _ ih _ _ hM
          · have hM := if_t hM c13
            refine ws_sub [] (lv' := []) rfl ?_
            exact J36 _ hM
  unfold mX1_fits at hM
  refine ws_iconst cx dX1_fits_0 (v := 0) (by decide) ?_
  refine ws_istore cx dX1_fits_1 (by decide) (lv' := [(4, .int (0 : Int32)), (0, .ref (b + o)), (1, .ref (b + a0)), (2, .int a1), (3, .int a2)]) rfl ?_
  refine ws_sub [1, 2, 3, 4, 0] (lv' := [(0, .ref (b + o)), (1, .ref (b + a0)), (2, .int a1), (3, .int a2), (4, .int (0 : Int32))]) rfl ?_
  exact L3 _ _ _ hM

def mX1_firstFitting_j20 (S : SH) (o : Nat) (a0 : Nat) (a1 : Int32) (me : ME) (x3 : Int32) : Option (Int32 × ME) :=
  some (x3, me)
def mX1_firstFitting_j28 (S : SH) (o : Nat) (a0 : Nat) (a1 : Int32) (me : ME) : Option (Int32 × ME) :=
  (gI S me 1 2 o).bind fun v1 =>
  some (v1, me)
def mX1_firstFitting_L2 (S : SH) (o : Nat) (a0 : Nat) (a1 : Int32) (k2 : (ME × Int32 → Option (Int32 × ME))) : ME × Int32 → Option (Int32 × ME)
  | (me, x3) =>
    (gI S me 1 2 o).bind fun v3 =>
    if v3 ≤ x3 then
      mX1_firstFitting_j28 S o a0 a1 me
    else
      (ck S 1 o).bind fun _ => (mX1_fits S me o a0 x3 a1).bind fun q6 =>
      if q6.1 = 0 then
        k2 (q6.2, x3 + (1 : Int32))
      else
        mX1_firstFitting_j20 S o a0 a1 q6.2 x3
def mX1_firstFitting (S : SH) (me : ME) (o : Nat) (a0 : Nat) (a1 : Int32) : Option (Int32 × ME) :=
  lpn (mX1_firstFitting_L2 S o a0 a1) lpF (me, (0 : Int32))
set_option maxRecDepth 100000 in
set_option maxHeartbeats 4000000 in
theorem kX1_firstFitting (l : Launch) (D : va_G) (b : Nat) {S : SH} {me : ME} {o : Nat} {a0 : Nat} {a1 : Int32} {q : Int32 × ME} (hM : mX1_firstFitting S me o a0 a1 = some q) : Ct l D b yX1_firstFitting cX1_firstFitting 4 (some .int) 2 49 0 0 [.ref (b + o), .ref (b + a0), .int a1] S me S q.2 (some (.int q.1)) := by
  refine ct_of (own := RX1) (nm := "firstFitting") (lv := [(0, .ref (b + o)), (1, .ref (b + a0)), (2, .int a1)]) (plainFor_of_name (by decide)) rfl rfl (Nat.le_of_ble_eq_true rfl) rfl ⟨rfl, rfl⟩ (fun X cx ex hL => ?_)
  have J20 : ∀ (me : ME) (x3 : Int32), mX1_firstFitting_j20 S o a0 a1 me x3 = some q → WS X b 4 S me 20 [(3, .int x3)] [] := by
    intro  me x3 hM
    unfold mX1_firstFitting_j20 at hM
    refine ws_iload_n cx dX1_firstFitting_20 rfl (j := 0) rfl ?_
    exact ws_iretM cx ex hM dX1_firstFitting_21
  have J28 : ∀ (me : ME), mX1_firstFitting_j28 S o a0 a1 me = some q → WS X b 4 S me 28 [(0, .ref (b + o))] [] := by
    intro  me hM
    unfold mX1_firstFitting_j28 at hM
    refine ws_aload_n cx dX1_firstFitting_28 rfl (j := 0) rfl ?_
    obtain ⟨v1, h2, hM⟩ := bnd hM
    refine ws_getI cx ffX1_25 h2 dX1_firstFitting_29 ?_
    exact ws_iretM cx ex hM dX1_firstFitting_32
  have L2 : ∀ (n : Nat) (me : ME) (x3 : Int32), lpn (mX1_firstFitting_L2 S o a0 a1) n (me, x3) = some q → WS X b 4 S me 2 [(0, .ref (b + o)), (1, .ref (b + a0)), (2, .int a1), (3, .int x3)] [] := by
    intro  n
    induction n with
    | zero => intro me x3 hM; exact absurd hM (by intro h; cases h)
    | succ n ih =>
      intro me x3 hM
      have hM : mX1_firstFitting_L2 S o a0 a1 (lpn (mX1_firstFitting_L2 S o a0 a1) n) (me, x3) = some q := hM
      unfold mX1_firstFitting_L2 at hM
      refine ws_iload_n cx dX1_firstFitting_2 rfl (j := 3) rfl ?_
      refine ws_aload_n cx dX1_firstFitting_3 rfl (j := 0) rfl ?_
      obtain ⟨v3, h4, hM⟩ := bnd hM
      refine ws_getI cx ffX1_25 h4 dX1_firstFitting_4 ?_
      refine ws_icmp_ge cx dX1_firstFitting_7 (tgt := 28) (by decide) (fun c5 => ?_) (fun c5 => ?_)
      · have hM := if_t hM c5
        refine ws_sub [0] (lv' := [(0, .ref (b + o))]) rfl ?_
        exact J28 _ hM
      · have hM := if_f hM c5
        refine ws_aload_n cx dX1_firstFitting_10 rfl (j := 0) rfl ?_
        refine ws_aload_n cx dX1_firstFitting_11 rfl (j := 1) rfl ?_
        refine ws_iload_n cx dX1_firstFitting_12 rfl (j := 3) rfl ?_
        refine ws_iload_n cx dX1_firstFitting_13 rfl (j := 2) rfl ?_
        obtain ⟨_, h8, hM⟩ := bnd hM
        obtain ⟨q6, h7, hM⟩ := bnd hM
        refine ws_callV cx (rest := []) (st' := [.int q6.1]) (kX1_fits l D b h7) mvX1_fits (ck_k h8) (by decide) (q := (RX1, TX1, 4)) rfl seX1_fits lkX1_46 rfl ⟨by decide, by decide⟩ (Nat.le_of_ble_eq_true rfl) ⟨rfl, rfl⟩ (Or.inl ⟨rfl, rfl⟩) rfl rfl dX1_firstFitting_14 ?_
        refine ws_if_eq cx dX1_firstFitting_17 (tgt := 22) (by decide) (fun c9 => ?_) (fun c9 => ?_)
        · have hM := if_t hM c9
          refine ws_iinc cx dX1_firstFitting_22 (j := 3) rfl (v := x3 + (1 : Int32)) rfl (by decide) (lv' := [(3, .int (x3 + (1 : Int32))), (0, .ref (b + o)), (1, .ref (b + a0)), (2, .int a1)]) rfl ?_
          refine ws_goto cx dX1_firstFitting_25 (tgt := 2) (by decide) ?_
          refine ws_sub [1, 2, 3, 0] (lv' := [(0, .ref (b + o)), (1, .ref (b + a0)), (2, .int a1), (3, .int (x3 + (1 : Int32)))]) rfl ?_
          exact ih _ _ hM
        · have hM := if_f hM c9
          refine ws_sub [3] (lv' := [(3, .int x3)]) rfl ?_
          exact J20 _ _ hM
  unfold mX1_firstFitting at hM
  refine ws_iconst cx dX1_firstFitting_0 (v := 0) (by decide) ?_
  refine ws_istore_n cx dX1_firstFitting_1 rfl (by decide) (lv' := [(3, .int (0 : Int32)), (0, .ref (b + o)), (1, .ref (b + a0)), (2, .int a1)]) rfl ?_
  refine ws_sub [1, 2, 3, 0] (lv' := [(0, .ref (b + o)), (1, .ref (b + a0)), (2, .int a1), (3, .int (0 : Int32))]) rfl ?_
  exact L2 _ _ _ hM

def mX1_make_j62 (S : SH) (o : Nat) (a0 : Nat) (k12 : (ME × Int32 → Option (Unit × ME))) (me : ME) (x2 : Int32) (x3 : Int32) (x4 : Int32) : Option (Unit × ME) :=
  (gR S 1 0 o).bind fun v1 =>
  (aI S me 11 v1 x4).bind fun v3 =>
  (uI S me v1 x4 (v3 ||| ((1 : Int32) <<< (x3 &&& 31)))).bind fun m6 =>
  (gR S 1 1 o).bind fun v7 =>
  (uI S m6 v7 x3 x4).bind fun m10 =>
  k12 (m10, x2 + (1 : Int32))
def mX1_make_j89 (S : SH) (o : Nat) (a0 : Nat) (me : ME) : Option (Unit × ME) :=
  some ((), me)
def mX1_make_L12 (S : SH) (o : Nat) (a0 : Nat) (k12 : (ME × Int32 → Option (Unit × ME))) : ME × Int32 → Option (Unit × ME)
  | (me, x2) =>
    (gI S me 5 4 a0).bind fun v11 =>
    if v11 ≤ x2 then
      mX1_make_j89 S o a0 me
    else
      (gR S 1 3 o).bind fun v14 =>
      (aI S me 11 v14 x2).bind fun v16 =>
      (ck S 1 o).bind fun _ => (mX1_firstFitting S me o a0 v16).bind fun q18 =>
      (gI S q18.2 1 2 o).bind fun v21 =>
      if q18.1 = v21 then
        (gR S 1 0 o).bind fun v24 =>
        (uI S q18.2 v24 q18.1 (0 : Int32)).bind fun m27 =>
        (gI S m27 1 2 o).bind fun v28 =>
        (sI S m27 1 2 o (v28 + (1 : Int32))).bind fun m31 =>
        mX1_make_j62 S o a0 k12 m31 x2 v16 q18.1
      else
        mX1_make_j62 S o a0 k12 q18.2 x2 v16 q18.1
def mX1_make (S : SH) (me : ME) (o : Nat) (a0 : Nat) : Option (Unit × ME) :=
  (ck S 1 o).bind fun _ => (mX1_sort S me o a0).bind fun q32 =>
  (sI S q32.2 1 2 o (0 : Int32)).bind fun m36 =>
  lpn (mX1_make_L12 S o a0) lpF (m36, (0 : Int32))
set_option maxRecDepth 100000 in
set_option maxHeartbeats 4000000 in
theorem kX1_make (l : Launch) (D : va_G) (b : Nat) {S : SH} {me : ME} {o : Nat} {a0 : Nat} {q : Unit × ME} (hM : mX1_make S me o a0 = some q) : Ct l D b yX1_make cX1_make 5 none 3 72 0 0 [.ref (b + o), .ref (b + a0)] S me S q.2 none := by
  refine ct_of (own := RX1) (nm := "make") (lv := [(0, .ref (b + o)), (1, .ref (b + a0))]) (plainFor_of_name (by decide)) rfl rfl (Nat.le_of_ble_eq_true rfl) rfl ⟨rfl, rfl⟩ (fun X cx ex hL => ?_)
  have J62 : ∀ (k12 : (ME × Int32 → Option (Unit × ME))), (∀ (me : ME) (x2 : Int32), k12 (me, x2) = some q → WS X b 5 S me 12 [(0, .ref (b + o)), (1, .ref (b + a0)), (2, .int x2)] []) → ∀ (me : ME) (x2 : Int32) (x3 : Int32) (x4 : Int32), mX1_make_j62 S o a0 k12 me x2 x3 x4 = some q → WS X b 5 S me 62 [(0, .ref (b + o)), (1, .ref (b + a0)), (2, .int x2), (3, .int x3), (4, .int x4)] [] := by
    intro k12 hk12 me x2 x3 x4 hM
    unfold mX1_make_j62 at hM
    refine ws_aload_n cx dX1_make_62 rfl (j := 0) rfl ?_
    obtain ⟨v1, h2, hM⟩ := bnd hM
    refine ws_getR cx ffX1_9 h2 dX1_make_63 ?_
    refine ws_iload cx dX1_make_66 (j := 4) rfl ?_
    refine ws_dup2 cx dX1_make_68 rfl rfl ?_
    obtain ⟨v3, h4, hM⟩ := bnd hM
    refine ws_iald cx h4 dX1_make_69 ?_
    refine ws_iconst cx dX1_make_70 (v := 1) (by decide) ?_
    refine ws_iload_n cx dX1_make_71 rfl (j := 3) rfl ?_
    refine ws_ishl cx dX1_make_72 ?_
    refine ws_ior cx dX1_make_73 ?_
    obtain ⟨m6, h5, hM⟩ := bnd hM
    refine ws_iast cx h5 dX1_make_74 ?_
    refine ws_aload_n cx dX1_make_75 rfl (j := 0) rfl ?_
    obtain ⟨v7, h8, hM⟩ := bnd hM
    refine ws_getR cx ffX1_15 h8 dX1_make_76 ?_
    refine ws_iload_n cx dX1_make_79 rfl (j := 3) rfl ?_
    refine ws_iload cx dX1_make_80 (j := 4) rfl ?_
    obtain ⟨m10, h9, hM⟩ := bnd hM
    refine ws_iast cx h9 dX1_make_82 ?_
    refine ws_iinc cx dX1_make_83 (j := 2) rfl (v := x2 + (1 : Int32)) rfl (by decide) (lv' := [(2, .int (x2 + (1 : Int32))), (0, .ref (b + o)), (1, .ref (b + a0)), (3, .int x3), (4, .int x4)]) rfl ?_
    refine ws_goto cx dX1_make_86 (tgt := 12) (by decide) ?_
    refine ws_sub [1, 2, 0] (lv' := [(0, .ref (b + o)), (1, .ref (b + a0)), (2, .int (x2 + (1 : Int32)))]) rfl ?_
    exact hk12 _ _ hM
  have J89 : ∀ (me : ME), mX1_make_j89 S o a0 me = some q → WS X b 5 S me 89 [] [] := by
    intro  me hM
    unfold mX1_make_j89 at hM
    exact ws_vretM cx ex hM dX1_make_89
  have L12 : ∀ (n : Nat) (me : ME) (x2 : Int32), lpn (mX1_make_L12 S o a0) n (me, x2) = some q → WS X b 5 S me 12 [(0, .ref (b + o)), (1, .ref (b + a0)), (2, .int x2)] [] := by
    intro  n
    induction n with
    | zero => intro me x2 hM; exact absurd hM (by intro h; cases h)
    | succ n ih =>
      intro me x2 hM
      have hM : mX1_make_L12 S o a0 (lpn (mX1_make_L12 S o a0) n) (me, x2) = some q := hM
      unfold mX1_make_L12 at hM
      refine ws_iload_n cx dX1_make_12 rfl (j := 2) rfl ?_
      refine ws_aload_n cx dX1_make_13 rfl (j := 1) rfl ?_
      obtain ⟨v11, h12, hM⟩ := bnd hM
      refine ws_getI cx ffX1_29 h12 dX1_make_14 ?_
      refine ws_icmp_ge cx dX1_make_17 (tgt := 89) (by decide) (fun c13 => ?_) (fun c13 => ?_)
      · have hM := if_t hM c13
        refine ws_sub [] (lv' := []) rfl ?_
        exact J89 _ hM
      · have hM := if_f hM c13
        refine ws_aload_n cx dX1_make_20 rfl (j := 0) rfl ?_
        obtain ⟨v14, h15, hM⟩ := bnd hM
        refine ws_getR cx ffX1_18 h15 dX1_make_21 ?_
        refine ws_iload_n cx dX1_make_24 rfl (j := 2) rfl ?_
        obtain ⟨v16, h17, hM⟩ := bnd hM
        refine ws_iald cx h17 dX1_make_25 ?_
        refine ws_istore_n cx dX1_make_26 rfl (by decide) (lv' := [(3, .int v16), (0, .ref (b + o)), (1, .ref (b + a0)), (2, .int x2)]) rfl ?_
        refine ws_aload_n cx dX1_make_27 rfl (j := 1) rfl ?_
        refine ws_aload_n cx dX1_make_28 rfl (j := 2) rfl ?_
        refine ws_iload_n cx dX1_make_29 rfl (j := 0) rfl ?_
        obtain ⟨_, h20, hM⟩ := bnd hM
        obtain ⟨q18, h19, hM⟩ := bnd hM
        refine ws_callV cx (rest := []) (st' := [.int q18.1]) (kX1_firstFitting l D b h19) mvX1_firstFitting (ck_k h20) (by decide) (q := (RX1, TX1, 4)) rfl seX1_firstFitting lkX1_32 rfl ⟨by decide, by decide⟩ (Nat.le_of_ble_eq_true rfl) ⟨rfl, rfl⟩ (Or.inl ⟨rfl, rfl⟩) rfl rfl dX1_make_30 ?_
        refine ws_istore cx dX1_make_33 (by decide) (lv' := [(4, .int q18.1), (3, .int v16), (0, .ref (b + o)), (1, .ref (b + a0)), (2, .int x2)]) rfl ?_
        refine ws_iload cx dX1_make_35 (j := 0) rfl ?_
        refine ws_aload_n cx dX1_make_37 rfl (j := 2) rfl ?_
        obtain ⟨v21, h22, hM⟩ := bnd hM
        refine ws_getI cx ffX1_25 h22 dX1_make_38 ?_
        refine ws_icmp_ne cx dX1_make_41 (tgt := 62) (by decide) (fun c23 => ?_) (fun c23 => ?_)
        · have hM := if_f hM c23
          refine ws_sub [2, 3, 4, 1, 0] (lv' := [(0, .ref (b + o)), (1, .ref (b + a0)), (2, .int x2), (3, .int v16), (4, .int q18.1)]) rfl ?_
          exact J62 _ ih _ _ _ _ hM
        · have hM := if_t hM c23
          refine ws_aload_n cx dX1_make_44 rfl (j := 2) rfl ?_
          obtain ⟨v24, h25, hM⟩ := bnd hM
          refine ws_getR cx ffX1_9 h25 dX1_make_45 ?_
          refine ws_iload cx dX1_make_48 (j := 0) rfl ?_
          refine ws_iconst cx dX1_make_50 (v := 0) (by decide) ?_
          obtain ⟨m27, h26, hM⟩ := bnd hM
          refine ws_iast cx h26 dX1_make_51 ?_
          refine ws_aload_n cx dX1_make_52 rfl (j := 2) rfl ?_
          refine ws_dup cx dX1_make_53 rfl ?_
          obtain ⟨v28, h29, hM⟩ := bnd hM
          refine ws_getI cx ffX1_25 h29 dX1_make_54 ?_
          refine ws_iconst cx dX1_make_57 (v := 1) (by decide) ?_
          refine ws_iadd cx dX1_make_58 ?_
          obtain ⟨m31, h30, hM⟩ := bnd hM
          refine ws_putI cx ffX1_25 h30 dX1_make_59 ?_
          refine ws_sub [2, 3, 4, 1, 0] (lv' := [(0, .ref (b + o)), (1, .ref (b + a0)), (2, .int x2), (3, .int v16), (4, .int q18.1)]) rfl ?_
          exact J62 _ ih _ _ _ _ hM
  unfold mX1_make at hM
  refine ws_aload_n cx dX1_make_0 rfl (j := 0) rfl ?_
  refine ws_aload_n cx dX1_make_1 rfl (j := 1) rfl ?_
  obtain ⟨_, h34, hM⟩ := bnd hM
  obtain ⟨q32, h33, hM⟩ := bnd hM
  refine ws_callV cx (rest := []) (st' := []) (kX1_sort l D b h33) mvX1_sort (ck_k h34) (by decide) (q := (RX1, TX1, 4)) rfl seX1_sort lkX1_21 rfl ⟨by decide, by decide⟩ (Nat.le_of_ble_eq_true rfl) ⟨rfl, rfl⟩ (Or.inl ⟨rfl, rfl⟩) rfl rfl dX1_make_2 ?_
  refine ws_aload_n cx dX1_make_5 rfl (j := 0) rfl ?_
  refine ws_iconst cx dX1_make_6 (v := 0) (by decide) ?_
  obtain ⟨m36, h35, hM⟩ := bnd hM
  refine ws_putI cx ffX1_25 h35 dX1_make_7 ?_
  refine ws_iconst cx dX1_make_10 (v := 0) (by decide) ?_
  refine ws_istore_n cx dX1_make_11 rfl (by decide) (lv' := [(2, .int (0 : Int32)), (0, .ref (b + o)), (1, .ref (b + a0))]) rfl ?_
  refine ws_sub [1, 2, 0] (lv' := [(0, .ref (b + o)), (1, .ref (b + a0)), (2, .int (0 : Int32))]) rfl ?_
  exact L12 _ _ _ hM

def mX9_regroup (S : SH) (me : ME) (o : Nat) : Option (Unit × ME) :=
  (gR S 9 7 o).bind fun v1 =>
  (gR S 9 2 o).bind fun v3 =>
  (gR S 9 3 o).bind fun v5 =>
  (ck S 5 v1).bind fun _ => (mX5_take S me v1 v3 v5).bind fun q7 =>
  (gR S 9 8 o).bind fun v10 =>
  (gR S 9 7 o).bind fun v12 =>
  (ck S 1 v10).bind fun _ => (mX1_make S q7.2 v10 v12).bind fun q14 =>
  some ((), q14.2)
set_option maxRecDepth 100000 in
set_option maxHeartbeats 4000000 in
theorem kX9_regroup (l : Launch) (D : va_G) (b : Nat) {S : SH} {me : ME} {o : Nat} {q : Unit × ME} (hM : mX9_regroup S me o = some q) : Ct l D b yX9_regroup cX9_regroup 1 none 4 96 0 0 [.ref (b + o)] S me S q.2 none := by
  refine ct_of (own := RX9) (nm := "regroup") (lv := [(0, .ref (b + o))]) (plainFor_of_name (by decide)) rfl rfl (Nat.le_of_ble_eq_true rfl) rfl ⟨rfl, rfl⟩ (fun X cx ex hL => ?_)
  unfold mX9_regroup at hM
  refine ws_aload_n cx dX9_regroup_0 rfl (j := 0) rfl ?_
  obtain ⟨v1, h2, hM⟩ := bnd hM
  refine ws_getR cx ffX9_55 h2 dX9_regroup_1 ?_
  refine ws_aload_n cx dX9_regroup_4 rfl (j := 0) rfl ?_
  obtain ⟨v3, h4, hM⟩ := bnd hM
  refine ws_getR cx ffX9_26 h4 dX9_regroup_5 ?_
  refine ws_aload_n cx dX9_regroup_8 rfl (j := 0) rfl ?_
  obtain ⟨v5, h6, hM⟩ := bnd hM
  refine ws_getR cx ffX9_33 h6 dX9_regroup_9 ?_
  obtain ⟨_, h9, hM⟩ := bnd hM
  obtain ⟨q7, h8, hM⟩ := bnd hM
  refine ws_callV cx (rest := []) (st' := []) (kX5_take l D b h8) mvX5_take (ck_k h9) (by decide) (q := (RX5, TX5, 5)) rfl seX5_take lkX9_212 rfl ⟨by decide, by decide⟩ (Nat.le_of_ble_eq_true rfl) ⟨rfl, rfl⟩ (Or.inl ⟨rfl, rfl⟩) rfl rfl dX9_regroup_12 ?_
  refine ws_aload_n cx dX9_regroup_15 rfl (j := 0) rfl ?_
  obtain ⟨v10, h11, hM⟩ := bnd hM
  refine ws_getR cx ffX9_62 h11 dX9_regroup_16 ?_
  refine ws_aload_n cx dX9_regroup_19 rfl (j := 0) rfl ?_
  obtain ⟨v12, h13, hM⟩ := bnd hM
  refine ws_getR cx ffX9_55 h13 dX9_regroup_20 ?_
  obtain ⟨_, h16, hM⟩ := bnd hM
  obtain ⟨q14, h15, hM⟩ := bnd hM
  refine ws_callV cx (rest := []) (st' := []) (kX1_make l D b h15) mvX1_make (ck_k h16) (by decide) (q := (RX1, TX1, 4)) rfl seX1_make lkX9_239 rfl ⟨by decide, by decide⟩ (Nat.le_of_ble_eq_true rfl) ⟨rfl, rfl⟩ (Or.inl ⟨rfl, rfl⟩) rfl rfl dX9_regroup_23 ?_
  exact ws_vretM cx ex hM dX9_regroup_26

def mX9_reading_j16 (S : SH) (o : Nat) (a0 : Int32) (a1 : Int32) (me : ME) : Option (Int32 × ME) :=
  some ((-1000000000 : Int32), me)
def mX9_reading (S : SH) (me : ME) (o : Nat) (a0 : Int32) (a1 : Int32) : Option (Int32 × ME) :=
  (ck S 9 o).bind fun _ => (mX9_hasReading S me o a0).bind fun q1 =>
  if q1.1 = 0 then
    mX9_reading_j16 S o a0 a1 q1.2
  else
    (mX9_within S q1.2 a1 (3 : Int32)).bind fun q5 =>
    if q5.1 = 0 then
      mX9_reading_j16 S o a0 a1 q5.2
    else
      if a1 = (0 : Int32) then
        (gR S 9 3 o).bind fun v9 =>
        (gR S 2 0 v9).bind fun v11 =>
        (aI S q5.2 11 v11 a0).bind fun v13 =>
        some (v13, q5.2)
      else
      if a1 = (1 : Int32) then
        (gR S 9 3 o).bind fun v16 =>
        (gR S 2 1 v16).bind fun v18 =>
        (aI S q5.2 11 v18 a0).bind fun v20 =>
        some (v20, q5.2)
      else
      if a1 = (2 : Int32) then
        (gR S 9 3 o).bind fun v23 =>
        (gR S 2 2 v23).bind fun v25 =>
        (gR S 9 3 o).bind fun v27 =>
        (gR S 2 0 v27).bind fun v29 =>
        (aI S q5.2 11 v29 a0).bind fun v31 =>
        (aI S q5.2 11 v25 v31).bind fun v33 =>
        (gR S 9 3 o).bind fun v35 =>
        (gR S 2 1 v35).bind fun v37 =>
        (aI S q5.2 11 v37 a0).bind fun v39 =>
        (mX9_timeOf S q5.2 v33 v39).bind fun q41 =>
        some (q41.1, q41.2)
      else
      (ck S 9 o).bind fun _ => (mX9_regroup S q5.2 o).bind fun q43 =>
      (gR S 9 8 o).bind fun v46 =>
      (gR S 1 1 v46).bind fun v48 =>
      (aI S q43.2 11 v48 a0).bind fun v50 =>
      some (v50, q43.2)
set_option maxRecDepth 100000 in
set_option maxHeartbeats 4000000 in
theorem kX9_reading (l : Launch) (D : va_G) (b : Nat) {S : SH} {me : ME} {o : Nat} {a0 : Int32} {a1 : Int32} {q : Int32 × ME} (hM : mX9_reading S me o a0 a1 = some q) : Ct l D b yX9_reading cX9_reading 3 (some .int) 5 116 0 0 [.ref (b + o), .int a0, .int a1] S me S q.2 (some (.int q.1)) := by
  refine ct_of (own := RX9) (nm := "reading") (lv := [(0, .ref (b + o)), (1, .int a0), (2, .int a1)]) (plainFor_of_name (by decide)) rfl rfl (Nat.le_of_ble_eq_true rfl) rfl ⟨rfl, rfl⟩ (fun X cx ex hL => ?_)
  have J16 : ∀ (me : ME), mX9_reading_j16 S o a0 a1 me = some q → WS X b 3 S me 16 [] [] := by
    intro  me hM
    unfold mX9_reading_j16 at hM
    refine ws_ldc cx cwX9_129 dX9_reading_16 ?_
    exact ws_iretM cx ex hM dX9_reading_18
  unfold mX9_reading at hM
  refine ws_aload_n cx dX9_reading_0 rfl (j := 0) rfl ?_
  refine ws_iload_n cx dX9_reading_1 rfl (j := 1) rfl ?_
  obtain ⟨_, h3, hM⟩ := bnd hM
  obtain ⟨q1, h2, hM⟩ := bnd hM
  refine ws_callV cx (rest := []) (st' := [.int q1.1]) (kX9_hasReading l D b h2) mvX9_hasReading (ck_k h3) (by decide) (q := (RX9, TX9, 11)) rfl seX9_hasReading lkX9_126 rfl ⟨by decide, by decide⟩ (Nat.le_of_ble_eq_true rfl) ⟨rfl, rfl⟩ (Or.inl ⟨rfl, rfl⟩) rfl rfl dX9_reading_2 ?_
  refine ws_if_eq cx dX9_reading_5 (tgt := 16) (by decide) (fun c4 => ?_) (fun c4 => ?_)
  · have hM := if_t hM c4
    refine ws_sub [] (lv' := []) rfl ?_
    exact J16 _ hM
  · have hM := if_f hM c4
    refine ws_iload_n cx dX9_reading_8 rfl (j := 2) rfl ?_
    refine ws_iconst cx dX9_reading_9 (v := 3) (by decide) ?_
    obtain ⟨q5, h6, hM⟩ := bnd hM
    refine ws_callS cx (rest := []) (st' := [.int q5.1]) (kX9_within l D b h6) mvX9_within lkX9_84 rfl ⟨by decide, by decide⟩ (Nat.le_of_ble_eq_true rfl) ⟨rfl, rfl⟩ (Or.inl ⟨rfl, rfl⟩) rfl rfl dX9_reading_10 ?_
    refine ws_if_ne cx dX9_reading_13 (tgt := 19) (by decide) (fun c7 => ?_) (fun c7 => ?_)
    · have hM := if_f hM c7
      refine ws_iload_n cx dX9_reading_19 rfl (j := 2) rfl ?_
      by_cases c8 : a1 = (0 : Int32)
      · have hM := if_t hM c8
        refine ws_tabIn cx dX9_reading_20 (tgt := 48) (by rw [c8]; decide) (by rw [c8]; decide) (by rw [c8]; rfl) (by decide) ?_
        refine ws_aload_n cx dX9_reading_48 rfl (j := 0) rfl ?_
        obtain ⟨v9, h10, hM⟩ := bnd hM
        refine ws_getR cx ffX9_33 h10 dX9_reading_49 ?_
        obtain ⟨v11, h12, hM⟩ := bnd hM
        refine ws_getR cx ffX9_130 h12 dX9_reading_52 ?_
        refine ws_iload_n cx dX9_reading_55 rfl (j := 1) rfl ?_
        obtain ⟨v13, h14, hM⟩ := bnd hM
        refine ws_iald cx h14 dX9_reading_56 ?_
        exact ws_iretM cx ex hM dX9_reading_57
      · have hM := if_f hM c8
        by_cases c15 : a1 = (1 : Int32)
        · have hM := if_t hM c15
          refine ws_tabIn cx dX9_reading_20 (tgt := 58) (by rw [c15]; decide) (by rw [c15]; decide) (by rw [c15]; rfl) (by decide) ?_
          refine ws_aload_n cx dX9_reading_58 rfl (j := 0) rfl ?_
          obtain ⟨v16, h17, hM⟩ := bnd hM
          refine ws_getR cx ffX9_33 h17 dX9_reading_59 ?_
          obtain ⟨v18, h19, hM⟩ := bnd hM
          refine ws_getR cx ffX9_133 h19 dX9_reading_62 ?_
          refine ws_iload_n cx dX9_reading_65 rfl (j := 1) rfl ?_
          obtain ⟨v20, h21, hM⟩ := bnd hM
          refine ws_iald cx h21 dX9_reading_66 ?_
          exact ws_iretM cx ex hM dX9_reading_67
        · have hM := if_f hM c15
          by_cases c22 : a1 = (2 : Int32)
          · have hM := if_t hM c22
            refine ws_tabIn cx dX9_reading_20 (tgt := 68) (by rw [c22]; decide) (by rw [c22]; decide) (by rw [c22]; rfl) (by decide) ?_
            refine ws_aload_n cx dX9_reading_68 rfl (j := 0) rfl ?_
            obtain ⟨v23, h24, hM⟩ := bnd hM
            refine ws_getR cx ffX9_33 h24 dX9_reading_69 ?_
            obtain ⟨v25, h26, hM⟩ := bnd hM
            refine ws_getR cx ffX9_123 h26 dX9_reading_72 ?_
            refine ws_aload_n cx dX9_reading_75 rfl (j := 0) rfl ?_
            obtain ⟨v27, h28, hM⟩ := bnd hM
            refine ws_getR cx ffX9_33 h28 dX9_reading_76 ?_
            obtain ⟨v29, h30, hM⟩ := bnd hM
            refine ws_getR cx ffX9_130 h30 dX9_reading_79 ?_
            refine ws_iload_n cx dX9_reading_82 rfl (j := 1) rfl ?_
            obtain ⟨v31, h32, hM⟩ := bnd hM
            refine ws_iald cx h32 dX9_reading_83 ?_
            obtain ⟨v33, h34, hM⟩ := bnd hM
            refine ws_iald cx h34 dX9_reading_84 ?_
            refine ws_aload_n cx dX9_reading_85 rfl (j := 0) rfl ?_
            obtain ⟨v35, h36, hM⟩ := bnd hM
            refine ws_getR cx ffX9_33 h36 dX9_reading_86 ?_
            obtain ⟨v37, h38, hM⟩ := bnd hM
            refine ws_getR cx ffX9_133 h38 dX9_reading_89 ?_
            refine ws_iload_n cx dX9_reading_92 rfl (j := 1) rfl ?_
            obtain ⟨v39, h40, hM⟩ := bnd hM
            refine ws_iald cx h40 dX9_reading_93 ?_
            obtain ⟨q41, h42, hM⟩ := bnd hM
            refine ws_callS cx (rest := []) (st' := [.int q41.1]) (kX9_timeOf l D b h42) mvX9_timeOf lkX9_136 rfl ⟨by decide, by decide⟩ (Nat.le_of_ble_eq_true rfl) ⟨rfl, rfl⟩ (Or.inl ⟨rfl, rfl⟩) rfl rfl dX9_reading_94 ?_
            exact ws_iretM cx ex hM dX9_reading_97
          · have hM := if_f hM c22
            refine ws_tabOut cx dX9_reading_20 (tgt := 98) (by have := lv_neT c8 (show ((0 : Int32)).toInt = 0 from rfl); have := lv_neT c15 (show ((1 : Int32)).toInt = 1 from rfl); have := lv_neT c22 (show ((2 : Int32)).toInt = 2 from rfl); omega) (by decide) ?_
            refine ws_aload_n cx dX9_reading_98 rfl (j := 0) rfl ?_
            obtain ⟨_, h45, hM⟩ := bnd hM
            obtain ⟨q43, h44, hM⟩ := bnd hM
            refine ws_callV cx (rest := []) (st' := []) (kX9_regroup l D b h44) mvX9_regroup (ck_k h45) (by decide) (q := (RX9, TX9, 11)) rfl seX9_regroup lkX9_140 rfl ⟨by decide, by decide⟩ (Nat.le_of_ble_eq_true rfl) ⟨rfl, rfl⟩ (Or.inl ⟨rfl, rfl⟩) rfl rfl dX9_reading_99 ?_
            refine ws_aload_n cx dX9_reading_102 rfl (j := 0) rfl ?_
            obtain ⟨v46, h47, hM⟩ := bnd hM
            refine ws_getR cx ffX9_62 h47 dX9_reading_103 ?_
            obtain ⟨v48, h49, hM⟩ := bnd hM
            refine ws_getR cx ffX9_143 h49 dX9_reading_106 ?_
            refine ws_iload_n cx dX9_reading_109 rfl (j := 1) rfl ?_
            obtain ⟨v50, h51, hM⟩ := bnd hM
            refine ws_iald cx h51 dX9_reading_110 ?_
            exact ws_iretM cx ex hM dX9_reading_111
    · have hM := if_t hM c7
      refine ws_sub [] (lv' := []) rfl ?_
      exact J16 _ hM

def mX4_push (S : SH) (me : ME) (o : Nat) (a0 : Nat) : Option (Unit × ME) :=
  (gR S 4 0 o).bind fun v1 =>
  (gI S me 4 1 o).bind fun v3 =>
  (aR S 14 v1 v3).bind fun v5 =>
  (ck S 2 v5).bind fun _ => (mX2_copy S me v5 a0).bind fun q7 =>
  (gI S q7.2 4 1 o).bind fun v10 =>
  (sI S q7.2 4 1 o ((v10 + (1 : Int32)) - (v10 + (1 : Int32)) / (10 : Int32) * (10 : Int32))).bind fun m13 =>
  (gI S m13 4 2 o).bind fun v14 =>
  (mJ9_min_7cf53 S m13 (v14 + (1 : Int32)) (10 : Int32)).bind fun q16 =>
  (sI S q16.2 4 2 o q16.1).bind fun m19 =>
  some ((), m19)
set_option maxRecDepth 100000 in
set_option maxHeartbeats 4000000 in
theorem kX4_push (l : Launch) (D : va_G) (b : Nat) {S : SH} {me : ME} {o : Nat} {a0 : Nat} {q : Unit × ME} (hM : mX4_push S me o a0 = some q) : Ct l D b yX4_push cX4_push 2 none 2 39 0 0 [.ref (b + o), .ref (b + a0)] S me S q.2 none := by
  refine ct_of (own := RX4) (nm := "push") (lv := [(0, .ref (b + o)), (1, .ref (b + a0))]) (plainFor_of_name (by decide)) rfl rfl (Nat.le_of_ble_eq_true rfl) rfl ⟨rfl, rfl⟩ (fun X cx ex hL => ?_)
  unfold mX4_push at hM
  refine ws_aload_n cx dX4_push_0 rfl (j := 0) rfl ?_
  obtain ⟨v1, h2, hM⟩ := bnd hM
  refine ws_getR cx ffX4_11 h2 dX4_push_1 ?_
  refine ws_aload_n cx dX4_push_4 rfl (j := 0) rfl ?_
  obtain ⟨v3, h4, hM⟩ := bnd hM
  refine ws_getI cx ffX4_18 h4 dX4_push_5 ?_
  obtain ⟨v5, h6, hM⟩ := bnd hM
  refine ws_aald cx (by decide) h6 dX4_push_8 ?_
  refine ws_aload_n cx dX4_push_9 rfl (j := 1) rfl ?_
  obtain ⟨_, h9, hM⟩ := bnd hM
  obtain ⟨q7, h8, hM⟩ := bnd hM
  refine ws_callV cx (rest := []) (st' := []) (kX2_copy l D b h8) mvX2_copy (ck_k h9) (by decide) (q := (RX2, TX2, 4)) rfl seX2_copy lkX4_22 rfl ⟨by decide, by decide⟩ (Nat.le_of_ble_eq_true rfl) ⟨rfl, rfl⟩ (Or.inl ⟨rfl, rfl⟩) rfl rfl dX4_push_10 ?_
  refine ws_aload_n cx dX4_push_13 rfl (j := 0) rfl ?_
  refine ws_aload_n cx dX4_push_14 rfl (j := 0) rfl ?_
  obtain ⟨v10, h11, hM⟩ := bnd hM
  refine ws_getI cx ffX4_18 h11 dX4_push_15 ?_
  refine ws_iconst cx dX4_push_18 (v := 1) (by decide) ?_
  refine ws_iadd cx dX4_push_19 ?_
  refine ws_bipush cx dX4_push_20 (v := 10) (by decide) ?_
  refine ws_irem cx (by decide) dX4_push_22 ?_
  obtain ⟨m13, h12, hM⟩ := bnd hM
  refine ws_putI cx ffX4_18 h12 dX4_push_23 ?_
  refine ws_aload_n cx dX4_push_26 rfl (j := 0) rfl ?_
  refine ws_aload_n cx dX4_push_27 rfl (j := 0) rfl ?_
  obtain ⟨v14, h15, hM⟩ := bnd hM
  refine ws_getI cx ffX4_26 h15 dX4_push_28 ?_
  refine ws_iconst cx dX4_push_31 (v := 1) (by decide) ?_
  refine ws_iadd cx dX4_push_32 ?_
  refine ws_bipush cx dX4_push_33 (v := 10) (by decide) ?_
  obtain ⟨q16, h17, hM⟩ := bnd hM
  refine ws_callS cx (rest := [.ref (b + o)]) (st' := [.int q16.1, .ref (b + o)]) (kJ9_min_7cf53 l D b h17) mvJ9_min_7cf53 lkX4_29 rfl ⟨by decide, by decide⟩ (Nat.le_of_ble_eq_true rfl) ⟨rfl, rfl⟩ (Or.inl ⟨rfl, rfl⟩) rfl rfl dX4_push_35 ?_
  obtain ⟨m19, h18, hM⟩ := bnd hM
  refine ws_putI cx ffX4_26 h18 dX4_push_38 ?_
  exact ws_vretM cx ex hM dX4_push_41

def mX9_hears_j17 (S : SH) (o : Nat) (a0 : Int32) (a1 : Int32) (me : ME) : Option (Int32 × ME) :=
  some ((-1 : Int32), me)
def mX9_hears (S : SH) (me : ME) (o : Nat) (a0 : Int32) (a1 : Int32) : Option (Int32 × ME) :=
  (ck S 9 o).bind fun _ => (mX9_hasStation S me o a0).bind fun q1 =>
  if q1.1 = 0 then
    mX9_hears_j17 S o a0 a1 q1.2
  else
    (mX9_within S q1.2 a1 (60 : Int32)).bind fun q5 =>
    if q5.1 = 0 then
      mX9_hears_j17 S o a0 a1 q5.2
    else
      (gR S 9 3 o).bind fun v8 =>
      (gI S q5.2 2 3 v8).bind fun v10 =>
      if v10 < (9 : Int32) then
        (gR S 9 4 o).bind fun v13 =>
        (gR S 9 3 o).bind fun v15 =>
        (ck S 4 v13).bind fun _ => (mX4_push S q5.2 v13 v15).bind fun q17 =>
        (gR S 9 3 o).bind fun v20 =>
        (ck S 2 v20).bind fun _ => (mX2_append S q17.2 v20 a0 a1).bind fun q22 =>
        (gR S 9 3 o).bind fun v25 =>
        (gI S q22.2 2 3 v25).bind fun v27 =>
        some (v27 - (1 : Int32), q22.2)
      else
        some ((-3 : Int32), q5.2)
set_option maxRecDepth 100000 in
set_option maxHeartbeats 4000000 in
theorem kX9_hears (l : Launch) (D : va_G) (b : Nat) {S : SH} {me : ME} {o : Nat} {a0 : Int32} {a1 : Int32} {q : Int32 × ME} (hM : mX9_hears S me o a0 a1 = some q) : Ct l D b yX9_hears cX9_hears 3 (some .int) 3 60 0 0 [.ref (b + o), .int a0, .int a1] S me S q.2 (some (.int q.1)) := by
  refine ct_of (own := RX9) (nm := "hears") (lv := [(0, .ref (b + o)), (1, .int a0), (2, .int a1)]) (plainFor_of_name (by decide)) rfl rfl (Nat.le_of_ble_eq_true rfl) rfl ⟨rfl, rfl⟩ (fun X cx ex hL => ?_)
  have J17 : ∀ (me : ME), mX9_hears_j17 S o a0 a1 me = some q → WS X b 3 S me 17 [] [] := by
    intro  me hM
    unfold mX9_hears_j17 at hM
    refine ws_iconst cx dX9_hears_17 (v := -1) (by decide) ?_
    exact ws_iretM cx ex hM dX9_hears_18
  unfold mX9_hears at hM
  refine ws_aload_n cx dX9_hears_0 rfl (j := 0) rfl ?_
  refine ws_iload_n cx dX9_hears_1 rfl (j := 1) rfl ?_
  obtain ⟨_, h3, hM⟩ := bnd hM
  obtain ⟨q1, h2, hM⟩ := bnd hM
  refine ws_callV cx (rest := []) (st' := [.int q1.1]) (kX9_hasStation l D b h2) mvX9_hasStation (ck_k h3) (by decide) (q := (RX9, TX9, 11)) rfl seX9_hasStation lkX9_113 rfl ⟨by decide, by decide⟩ (Nat.le_of_ble_eq_true rfl) ⟨rfl, rfl⟩ (Or.inl ⟨rfl, rfl⟩) rfl rfl dX9_hears_2 ?_
  refine ws_if_eq cx dX9_hears_5 (tgt := 17) (by decide) (fun c4 => ?_) (fun c4 => ?_)
  · have hM := if_t hM c4
    refine ws_sub [] (lv' := []) rfl ?_
    exact J17 _ hM
  · have hM := if_f hM c4
    refine ws_iload_n cx dX9_hears_8 rfl (j := 2) rfl ?_
    refine ws_bipush cx dX9_hears_9 (v := 60) (by decide) ?_
    obtain ⟨q5, h6, hM⟩ := bnd hM
    refine ws_callS cx (rest := []) (st' := [.int q5.1]) (kX9_within l D b h6) mvX9_within lkX9_84 rfl ⟨by decide, by decide⟩ (Nat.le_of_ble_eq_true rfl) ⟨rfl, rfl⟩ (Or.inl ⟨rfl, rfl⟩) rfl rfl dX9_hears_11 ?_
    refine ws_if_ne cx dX9_hears_14 (tgt := 19) (by decide) (fun c7 => ?_) (fun c7 => ?_)
    · have hM := if_f hM c7
      refine ws_aload_n cx dX9_hears_19 rfl (j := 0) rfl ?_
      obtain ⟨v8, h9, hM⟩ := bnd hM
      refine ws_getR cx ffX9_33 h9 dX9_hears_20 ?_
      obtain ⟨v10, h11, hM⟩ := bnd hM
      refine ws_getI cx ffX9_146 h11 dX9_hears_23 ?_
      refine ws_bipush cx dX9_hears_26 (v := 9) (by decide) ?_
      refine ws_icmp_lt cx dX9_hears_28 (tgt := 34) (by decide) (fun c12 => ?_) (fun c12 => ?_)
      · have hM := if_t hM c12
        refine ws_aload_n cx dX9_hears_34 rfl (j := 0) rfl ?_
        obtain ⟨v13, h14, hM⟩ := bnd hM
        refine ws_getR cx ffX9_40 h14 dX9_hears_35 ?_
        refine ws_aload_n cx dX9_hears_38 rfl (j := 0) rfl ?_
        obtain ⟨v15, h16, hM⟩ := bnd hM
        refine ws_getR cx ffX9_33 h16 dX9_hears_39 ?_
        obtain ⟨_, h19, hM⟩ := bnd hM
        obtain ⟨q17, h18, hM⟩ := bnd hM
        refine ws_callV cx (rest := []) (st' := []) (kX4_push l D b h18) mvX4_push (ck_k h19) (by decide) (q := (RX4, TX4, 3)) rfl seX4_push lkX9_147 rfl ⟨by decide, by decide⟩ (Nat.le_of_ble_eq_true rfl) ⟨rfl, rfl⟩ (Or.inl ⟨rfl, rfl⟩) rfl rfl dX9_hears_42 ?_
        refine ws_aload_n cx dX9_hears_45 rfl (j := 0) rfl ?_
        obtain ⟨v20, h21, hM⟩ := bnd hM
        refine ws_getR cx ffX9_33 h21 dX9_hears_46 ?_
        refine ws_iload_n cx dX9_hears_49 rfl (j := 1) rfl ?_
        refine ws_iload_n cx dX9_hears_50 rfl (j := 2) rfl ?_
        obtain ⟨_, h24, hM⟩ := bnd hM
        obtain ⟨q22, h23, hM⟩ := bnd hM
        refine ws_callV cx (rest := []) (st' := []) (kX2_append l D b h23) mvX2_append (ck_k h24) (by decide) (q := (RX2, TX2, 4)) rfl seX2_append lkX9_150 rfl ⟨by decide, by decide⟩ (Nat.le_of_ble_eq_true rfl) ⟨rfl, rfl⟩ (Or.inl ⟨rfl, rfl⟩) rfl rfl dX9_hears_51 ?_
        refine ws_aload_n cx dX9_hears_54 rfl (j := 0) rfl ?_
        obtain ⟨v25, h26, hM⟩ := bnd hM
        refine ws_getR cx ffX9_33 h26 dX9_hears_55 ?_
        obtain ⟨v27, h28, hM⟩ := bnd hM
        refine ws_getI cx ffX9_146 h28 dX9_hears_58 ?_
        refine ws_iconst cx dX9_hears_61 (v := 1) (by decide) ?_
        refine ws_isub cx dX9_hears_62 ?_
        exact ws_iretM cx ex hM dX9_hears_63
      · have hM := if_f hM c12
        refine ws_bipush cx dX9_hears_31 (v := -3) (by decide) ?_
        exact ws_iretM cx ex hM dX9_hears_33
    · have hM := if_t hM c7
      refine ws_sub [] (lv' := []) rfl ?_
      exact J17 _ hM

def mX2_remove_j46 (S : SH) (o : Nat) (a0 : Int32) (me : ME) : Option (Unit × ME) :=
  (gI S me 2 3 o).bind fun v1 =>
  (sI S me 2 3 o (v1 - (1 : Int32))).bind fun m4 =>
  some ((), m4)
def mX2_remove_L2 (S : SH) (o : Nat) (a0 : Int32) (k2 : (ME × Int32 → Option (Unit × ME))) : ME × Int32 → Option (Unit × ME)
  | (me, x2) =>
    (gI S me 2 3 o).bind fun v5 =>
    if (v5 - (1 : Int32)) ≤ x2 then
      mX2_remove_j46 S o a0 me
    else
      (gR S 2 0 o).bind fun v8 =>
      (gR S 2 0 o).bind fun v10 =>
      (aI S me 11 v10 (x2 + (1 : Int32))).bind fun v12 =>
      (uI S me v8 x2 v12).bind fun m15 =>
      (gR S 2 1 o).bind fun v16 =>
      (gR S 2 1 o).bind fun v18 =>
      (aI S m15 11 v18 (x2 + (1 : Int32))).bind fun v20 =>
      (uI S m15 v16 x2 v20).bind fun m23 =>
      k2 (m23, x2 + (1 : Int32))
def mX2_remove (S : SH) (me : ME) (o : Nat) (a0 : Int32) : Option (Unit × ME) :=
  lpn (mX2_remove_L2 S o a0) lpF (me, a0)
set_option maxRecDepth 100000 in
set_option maxHeartbeats 4000000 in
theorem kX2_remove (l : Launch) (D : va_G) (b : Nat) {S : SH} {me : ME} {o : Nat} {a0 : Int32} {q : Unit × ME} (hM : mX2_remove S me o a0 = some q) : Ct l D b yX2_remove cX2_remove 3 none 0 0 0 0 [.ref (b + o), .int a0] S me S q.2 none := by
  refine ct_of (own := RX2) (nm := "remove") (lv := [(0, .ref (b + o)), (1, .int a0)]) (plainFor_of_name (by decide)) rfl rfl (Nat.le_of_ble_eq_true rfl) rfl ⟨rfl, rfl⟩ (fun X cx ex hL => ?_)
  have J46 : ∀ (me : ME), mX2_remove_j46 S o a0 me = some q → WS X b 3 S me 46 [(0, .ref (b + o))] [] := by
    intro  me hM
    unfold mX2_remove_j46 at hM
    refine ws_aload_n cx dX2_remove_46 rfl (j := 0) rfl ?_
    refine ws_dup cx dX2_remove_47 rfl ?_
    obtain ⟨v1, h2, hM⟩ := bnd hM
    refine ws_getI cx ffX2_27 h2 dX2_remove_48 ?_
    refine ws_iconst cx dX2_remove_51 (v := 1) (by decide) ?_
    refine ws_isub cx dX2_remove_52 ?_
    obtain ⟨m4, h3, hM⟩ := bnd hM
    refine ws_putI cx ffX2_27 h3 dX2_remove_53 ?_
    exact ws_vretM cx ex hM dX2_remove_56
  have L2 : ∀ (n : Nat) (me : ME) (x2 : Int32), lpn (mX2_remove_L2 S o a0) n (me, x2) = some q → WS X b 3 S me 2 [(0, .ref (b + o)), (2, .int x2)] [] := by
    intro  n
    induction n with
    | zero => intro me x2 hM; exact absurd hM (by intro h; cases h)
    | succ n ih =>
      intro me x2 hM
      have hM : mX2_remove_L2 S o a0 (lpn (mX2_remove_L2 S o a0) n) (me, x2) = some q := hM
      unfold mX2_remove_L2 at hM
      refine ws_iload_n cx dX2_remove_2 rfl (j := 1) rfl ?_
      refine ws_aload_n cx dX2_remove_3 rfl (j := 0) rfl ?_
      obtain ⟨v5, h6, hM⟩ := bnd hM
      refine ws_getI cx ffX2_27 h6 dX2_remove_4 ?_
      refine ws_iconst cx dX2_remove_7 (v := 1) (by decide) ?_
      refine ws_isub cx dX2_remove_8 ?_
      refine ws_icmp_ge cx dX2_remove_9 (tgt := 46) (by decide) (fun c7 => ?_) (fun c7 => ?_)
      · have hM := if_t hM c7
        refine ws_sub [0] (lv' := [(0, .ref (b + o))]) rfl ?_
        exact J46 _ hM
      · have hM := if_f hM c7
        refine ws_aload_n cx dX2_remove_12 rfl (j := 0) rfl ?_
        obtain ⟨v8, h9, hM⟩ := bnd hM
        refine ws_getR cx ffX2_9 h9 dX2_remove_13 ?_
        refine ws_iload_n cx dX2_remove_16 rfl (j := 1) rfl ?_
        refine ws_aload_n cx dX2_remove_17 rfl (j := 0) rfl ?_
        obtain ⟨v10, h11, hM⟩ := bnd hM
        refine ws_getR cx ffX2_9 h11 dX2_remove_18 ?_
        refine ws_iload_n cx dX2_remove_21 rfl (j := 1) rfl ?_
        refine ws_iconst cx dX2_remove_22 (v := 1) (by decide) ?_
        refine ws_iadd cx dX2_remove_23 ?_
        obtain ⟨v12, h13, hM⟩ := bnd hM
        refine ws_iald cx h13 dX2_remove_24 ?_
        obtain ⟨m15, h14, hM⟩ := bnd hM
        refine ws_iast cx h14 dX2_remove_25 ?_
        refine ws_aload_n cx dX2_remove_26 rfl (j := 0) rfl ?_
        obtain ⟨v16, h17, hM⟩ := bnd hM
        refine ws_getR cx ffX2_15 h17 dX2_remove_27 ?_
        refine ws_iload_n cx dX2_remove_30 rfl (j := 1) rfl ?_
        refine ws_aload_n cx dX2_remove_31 rfl (j := 0) rfl ?_
        obtain ⟨v18, h19, hM⟩ := bnd hM
        refine ws_getR cx ffX2_15 h19 dX2_remove_32 ?_
        refine ws_iload_n cx dX2_remove_35 rfl (j := 1) rfl ?_
        refine ws_iconst cx dX2_remove_36 (v := 1) (by decide) ?_
        refine ws_iadd cx dX2_remove_37 ?_
        obtain ⟨v20, h21, hM⟩ := bnd hM
        refine ws_iald cx h21 dX2_remove_38 ?_
        obtain ⟨m23, h22, hM⟩ := bnd hM
        refine ws_iast cx h22 dX2_remove_39 ?_
        refine ws_iinc cx dX2_remove_40 (j := 1) rfl (v := x2 + (1 : Int32)) rfl (by decide) (lv' := [(2, .int (x2 + (1 : Int32))), (0, .ref (b + o))]) rfl ?_
        refine ws_goto cx dX2_remove_43 (tgt := 2) (by decide) ?_
        refine ws_sub [1, 0] (lv' := [(0, .ref (b + o)), (2, .int (x2 + (1 : Int32)))]) rfl ?_
        exact ih _ _ hM
  unfold mX2_remove at hM
  refine ws_iload_n cx dX2_remove_0 rfl (j := 1) rfl ?_
  refine ws_istore_n cx dX2_remove_1 rfl (by decide) (lv' := [(2, .int a0), (0, .ref (b + o)), (1, .int a0)]) rfl ?_
  refine ws_sub [1, 0] (lv' := [(0, .ref (b + o)), (2, .int a0)]) rfl ?_
  exact L2 _ _ _ hM
