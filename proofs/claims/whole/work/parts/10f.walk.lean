def mX0_strokeTime_j93 (S : SH) (o : Nat) (a0 : Int32) (a1 : Int32) (a2 : Int32) (me : ME) : Option (Int32 × ME) :=
  some ((-1 : Int32), me)
def mX0_strokeTime_j99 (S : SH) (o : Nat) (a0 : Int32) (a1 : Int32) (a2 : Int32) (k6 : (ME × Int32 × Int32 → Option (Int32 × ME))) (me : ME) (x4 : Int32) (x5 : Int32) : Option (Int32 × ME) :=
  k6 (me, x4, x5 + (1 : Int32))
def mX0_strokeTime_j95 (S : SH) (o : Nat) (a0 : Int32) (a1 : Int32) (a2 : Int32) (k6 : (ME × Int32 × Int32 → Option (Int32 × ME))) (me : ME) (x5 : Int32) (x7 : Int32) : Option (Int32 × ME) :=
  mX0_strokeTime_j99 S o a0 a1 a2 k6 me x7 x5
def mX0_strokeTime_j105 (S : SH) (o : Nat) (a0 : Int32) (a1 : Int32) (a2 : Int32) (me : ME) (x4 : Int32) : Option (Int32 × ME) :=
  some (x4, me)
def mX0_strokeTime_L6 (S : SH) (o : Nat) (a0 : Int32) (a1 : Int32) (a2 : Int32) (k6 : (ME × Int32 × Int32 → Option (Int32 × ME))) : ME × Int32 × Int32 → Option (Int32 × ME)
  | (me, x4, x5) =>
    (gR S 0 0 o).bind fun v1 =>
    (gI S me 5 4 v1).bind fun v3 =>
    if v3 ≤ x5 then
      mX0_strokeTime_j105 S o a0 a1 a2 me x4
    else
      (mX9_holds S me a0 x5).bind fun q6 =>
      if q6.1 = 0 then
        mX0_strokeTime_j99 S o a0 a1 a2 k6 q6.2 x4 x5
      else
        (gR S 0 0 o).bind fun v9 =>
        (gR S 5 1 v9).bind fun v11 =>
        (aI S q6.2 11 v11 x5).bind fun v13 =>
        (gR S 0 0 o).bind fun v15 =>
        (gR S 5 2 v15).bind fun v17 =>
        (aI S q6.2 11 v17 x5).bind fun v19 =>
        (mX9_wholeWay S q6.2 (a1 - v13) (a2 - v19)).bind fun q21 =>
        (gR S 0 0 o).bind fun v23 =>
        (gR S 5 3 v23).bind fun v25 =>
        (aI S q21.2 11 v25 x5).bind fun v27 =>
        if q21.1 < 0 then
          mX0_strokeTime_j93 S o a0 a1 a2 q21.2
        else
          if (v27 - q21.1) < 0 then
            mX0_strokeTime_j93 S o a0 a1 a2 q21.2
          else
            if x4 < 0 then
              mX0_strokeTime_j95 S o a0 a1 a2 k6 q21.2 x5 (v27 - q21.1)
            else
              if (v27 - q21.1) = x4 then
                mX0_strokeTime_j95 S o a0 a1 a2 k6 q21.2 x5 (v27 - q21.1)
              else
                mX0_strokeTime_j93 S o a0 a1 a2 q21.2
def mX0_strokeTime (S : SH) (me : ME) (o : Nat) (a0 : Int32) (a1 : Int32) (a2 : Int32) : Option (Int32 × ME) :=
  lpn (mX0_strokeTime_L6 S o a0 a1 a2) lpF (me, (-1 : Int32), (0 : Int32))
set_option maxRecDepth 100000 in
set_option maxHeartbeats 4000000 in
theorem kX0_strokeTime (l : Launch) (D : va_G) (b : Nat) {S : SH} {me : ME} {o : Nat} {a0 : Int32} {a1 : Int32} {a2 : Int32} {q : Int32 × ME} (hM : mX0_strokeTime S me o a0 a1 a2 = some q) : Ct l D b yX0_strokeTime cX0_strokeTime 8 (some .int) 1 23 0 0 [.ref (b + o), .int a0, .int a1, .int a2] S me S q.2 (some (.int q.1)) := by
  refine ct_of (own := RX0) (nm := "strokeTime") (lv := [(0, .ref (b + o)), (1, .int a0), (2, .int a1), (3, .int a2)]) (plainFor_of_name (by decide)) rfl rfl (Nat.le_of_ble_eq_true rfl) rfl ⟨rfl, rfl⟩ (fun X cx ex hL => ?_)
  have J93 : ∀ (me : ME), mX0_strokeTime_j93 S o a0 a1 a2 me = some q → WS X b 8 S me 93 [] [] := by
    intro  me hM
    unfold mX0_strokeTime_j93 at hM
    refine ws_iconst cx dX0_strokeTime_93 (v := -1) (by decide) ?_
    exact ws_iretM cx ex hM dX0_strokeTime_94
  have J99 : ∀ (k6 : (ME × Int32 × Int32 → Option (Int32 × ME))), (∀ (me : ME) (x4 : Int32) (x5 : Int32), k6 (me, x4, x5) = some q → WS X b 8 S me 6 [(0, .ref (b + o)), (1, .int a0), (2, .int a1), (3, .int a2), (4, .int x4), (5, .int x5)] []) → ∀ (me : ME) (x4 : Int32) (x5 : Int32), mX0_strokeTime_j99 S o a0 a1 a2 k6 me x4 x5 = some q → WS X b 8 S me 99 [(0, .ref (b + o)), (1, .int a0), (2, .int a1), (3, .int a2), (4, .int x4), (5, .int x5)] [] := by
    intro k6 hk6 me x4 x5 hM
    unfold mX0_strokeTime_j99 at hM
    refine ws_iinc cx dX0_strokeTime_99 (j := 5) rfl (v := x5 + (1 : Int32)) rfl (by decide) (lv' := [(5, .int (x5 + (1 : Int32))), (0, .ref (b + o)), (1, .int a0), (2, .int a1), (3, .int a2), (4, .int x4)]) rfl ?_
    refine ws_goto cx dX0_strokeTime_102 (tgt := 6) (by decide) ?_
    refine ws_sub [1, 2, 3, 4, 5, 0] (lv' := [(0, .ref (b + o)), (1, .int a0), (2, .int a1), (3, .int a2), (4, .int x4), (5, .int (x5 + (1 : Int32)))]) rfl ?_
    exact hk6 _ _ _ hM
  have J95 : ∀ (k6 : (ME × Int32 × Int32 → Option (Int32 × ME))), (∀ (me : ME) (x4 : Int32) (x5 : Int32), k6 (me, x4, x5) = some q → WS X b 8 S me 6 [(0, .ref (b + o)), (1, .int a0), (2, .int a1), (3, .int a2), (4, .int x4), (5, .int x5)] []) → ∀ (me : ME) (x5 : Int32) (x7 : Int32), mX0_strokeTime_j95 S o a0 a1 a2 k6 me x5 x7 = some q → WS X b 8 S me 95 [(0, .ref (b + o)), (1, .int a0), (2, .int a1), (3, .int a2), (5, .int x5), (7, .int x7)] [] := by
    intro k6 hk6 me x5 x7 hM
    unfold mX0_strokeTime_j95 at hM
    refine ws_iload cx dX0_strokeTime_95 (j := 5) rfl ?_
    refine ws_istore cx dX0_strokeTime_97 (by decide) (lv' := [(4, .int x7), (0, .ref (b + o)), (1, .int a0), (2, .int a1), (3, .int a2), (5, .int x5), (7, .int x7)]) rfl ?_
    refine ws_sub [1, 2, 3, 4, 0, 5] (lv' := [(0, .ref (b + o)), (1, .int a0), (2, .int a1), (3, .int a2), (4, .int x7), (5, .int x5)]) rfl ?_
    exact J99 _ hk6 _ _ _ hM
  have J105 : ∀ (me : ME) (x4 : Int32), mX0_strokeTime_j105 S o a0 a1 a2 me x4 = some q → WS X b 8 S me 105 [(4, .int x4)] [] := by
    intro  me x4 hM
    unfold mX0_strokeTime_j105 at hM
    refine ws_iload cx dX0_strokeTime_105 (j := 0) rfl ?_
    exact ws_iretM cx ex hM dX0_strokeTime_107
  have L6 : ∀ (n : Nat) (me : ME) (x4 : Int32) (x5 : Int32), lpn (mX0_strokeTime_L6 S o a0 a1 a2) n (me, x4, x5) = some q → WS X b 8 S me 6 [(0, .ref (b + o)), (1, .int a0), (2, .int a1), (3, .int a2), (4, .int x4), (5, .int x5)] [] := by
    intro  n
    induction n with
    | zero => intro me x4 x5 hM; exact absurd hM (by intro h; cases h)
    | succ n ih =>
      intro me x4 x5 hM
      have hM : mX0_strokeTime_L6 S o a0 a1 a2 (lpn (mX0_strokeTime_L6 S o a0 a1 a2) n) (me, x4, x5) = some q := hM
      unfold mX0_strokeTime_L6 at hM
      refine ws_iload cx dX0_strokeTime_6 (j := 5) rfl ?_
      refine ws_aload_n cx dX0_strokeTime_8 rfl (j := 0) rfl ?_
      obtain ⟨v1, h2, hM⟩ := bnd hM
      refine ws_getR cx ffX0_9 h2 dX0_strokeTime_9 ?_
      obtain ⟨v3, h4, hM⟩ := bnd hM
      refine ws_getI cx ffX0_55 h4 dX0_strokeTime_12 ?_
      refine ws_icmp_ge cx dX0_strokeTime_15 (tgt := 105) (by decide) (fun c5 => ?_) (fun c5 => ?_)
      · have hM := if_t hM c5
        refine ws_sub [4] (lv' := [(4, .int x4)]) rfl ?_
        exact J105 _ _ hM
      · have hM := if_f hM c5
        refine ws_iload_n cx dX0_strokeTime_18 rfl (j := 1) rfl ?_
        refine ws_iload cx dX0_strokeTime_19 (j := 5) rfl ?_
        obtain ⟨q6, h7, hM⟩ := bnd hM
        refine ws_callSN cx (rest := []) (st' := [.int q6.1]) (kX9_holds l D b h7) mvX9_holds lnX0_60 rfl ⟨by decide, by decide⟩ (Nat.le_of_ble_eq_true rfl) ⟨rfl, rfl⟩ (Or.inl ⟨rfl, rfl⟩) rfl rfl dX0_strokeTime_21 ?_
        refine ws_if_eq cx dX0_strokeTime_24 (tgt := 99) (by decide) (fun c8 => ?_) (fun c8 => ?_)
        · have hM := if_t hM c8
          refine ws_sub [0, 1, 2, 3, 4, 5] (lv' := [(0, .ref (b + o)), (1, .int a0), (2, .int a1), (3, .int a2), (4, .int x4), (5, .int x5)]) rfl ?_
          exact J99 _ ih _ _ _ hM
        · have hM := if_f hM c8
          refine ws_iload_n cx dX0_strokeTime_27 rfl (j := 2) rfl ?_
          refine ws_aload_n cx dX0_strokeTime_28 rfl (j := 0) rfl ?_
          obtain ⟨v9, h10, hM⟩ := bnd hM
          refine ws_getR cx ffX0_9 h10 dX0_strokeTime_29 ?_
          obtain ⟨v11, h12, hM⟩ := bnd hM
          refine ws_getR cx ffX0_100 h12 dX0_strokeTime_32 ?_
          refine ws_iload cx dX0_strokeTime_35 (j := 5) rfl ?_
          obtain ⟨v13, h14, hM⟩ := bnd hM
          refine ws_iald cx h14 dX0_strokeTime_37 ?_
          refine ws_isub cx dX0_strokeTime_38 ?_
          refine ws_iload_n cx dX0_strokeTime_39 rfl (j := 3) rfl ?_
          refine ws_aload_n cx dX0_strokeTime_40 rfl (j := 0) rfl ?_
          obtain ⟨v15, h16, hM⟩ := bnd hM
          refine ws_getR cx ffX0_9 h16 dX0_strokeTime_41 ?_
          obtain ⟨v17, h18, hM⟩ := bnd hM
          refine ws_getR cx ffX0_104 h18 dX0_strokeTime_44 ?_
          refine ws_iload cx dX0_strokeTime_47 (j := 5) rfl ?_
          obtain ⟨v19, h20, hM⟩ := bnd hM
          refine ws_iald cx h20 dX0_strokeTime_49 ?_
          refine ws_isub cx dX0_strokeTime_50 ?_
          obtain ⟨q21, h22, hM⟩ := bnd hM
          refine ws_callSN cx (rest := []) (st' := [.int q21.1]) (kX9_wholeWay l D b h22) mvX9_wholeWay lnX0_107 rfl ⟨by decide, by decide⟩ (Nat.le_of_ble_eq_true rfl) ⟨rfl, rfl⟩ (Or.inl ⟨rfl, rfl⟩) rfl rfl dX0_strokeTime_51 ?_
          refine ws_istore cx dX0_strokeTime_54 (by decide) (lv' := [(6, .int q21.1), (0, .ref (b + o)), (1, .int a0), (2, .int a1), (3, .int a2), (4, .int x4), (5, .int x5)]) rfl ?_
          refine ws_aload_n cx dX0_strokeTime_56 rfl (j := 1) rfl ?_
          obtain ⟨v23, h24, hM⟩ := bnd hM
          refine ws_getR cx ffX0_9 h24 dX0_strokeTime_57 ?_
          obtain ⟨v25, h26, hM⟩ := bnd hM
          refine ws_getR cx ffX0_111 h26 dX0_strokeTime_60 ?_
          refine ws_iload cx dX0_strokeTime_63 (j := 6) rfl ?_
          obtain ⟨v27, h28, hM⟩ := bnd hM
          refine ws_iald cx h28 dX0_strokeTime_65 ?_
          refine ws_iload cx dX0_strokeTime_66 (j := 0) rfl ?_
          refine ws_isub cx dX0_strokeTime_68 ?_
          refine ws_istore cx dX0_strokeTime_69 (by decide) (lv' := [(7, .int (v27 - q21.1)), (6, .int q21.1), (0, .ref (b + o)), (1, .int a0), (2, .int a1), (3, .int a2), (4, .int x4), (5, .int x5)]) rfl ?_
          refine ws_iload cx dX0_strokeTime_71 (j := 1) rfl ?_
          refine ws_if_lt cx dX0_strokeTime_73 (tgt := 93) (by decide) (fun c29 => ?_) (fun c29 => ?_)
          · have hM := if_t hM c29
            refine ws_sub [] (lv' := []) rfl ?_
            exact J93 _ hM
          · have hM := if_f hM c29
            refine ws_iload cx dX0_strokeTime_76 (j := 0) rfl ?_
            refine ws_if_lt cx dX0_strokeTime_78 (tgt := 93) (by decide) (fun c30 => ?_) (fun c30 => ?_)
            · have hM := if_t hM c30
              refine ws_sub [] (lv' := []) rfl ?_
              exact J93 _ hM
            · have hM := if_f hM c30
              refine ws_iload cx dX0_strokeTime_81 (j := 6) rfl ?_
              refine ws_if_lt cx dX0_strokeTime_83 (tgt := 95) (by decide) (fun c31 => ?_) (fun c31 => ?_)
              · have hM := if_t hM c31
                refine ws_sub [2, 3, 4, 5, 7, 0] (lv' := [(0, .ref (b + o)), (1, .int a0), (2, .int a1), (3, .int a2), (5, .int x5), (7, .int (v27 - q21.1))]) rfl ?_
                exact J95 _ ih _ _ _ hM
              · have hM := if_f hM c31
                refine ws_iload cx dX0_strokeTime_86 (j := 0) rfl ?_
                refine ws_iload cx dX0_strokeTime_88 (j := 6) rfl ?_
                refine ws_icmp_eq cx dX0_strokeTime_90 (tgt := 95) (by decide) (fun c32 => ?_) (fun c32 => ?_)
                · have hM := if_t hM c32
                  refine ws_sub [2, 3, 4, 5, 7, 0] (lv' := [(0, .ref (b + o)), (1, .int a0), (2, .int a1), (3, .int a2), (5, .int x5), (7, .int (v27 - q21.1))]) rfl ?_
                  exact J95 _ ih _ _ _ hM
                · have hM := if_f hM c32
                  refine ws_sub [] (lv' := []) rfl ?_
                  exact J93 _ hM
  unfold mX0_strokeTime at hM
  refine ws_iconst cx dX0_strokeTime_0 (v := -1) (by decide) ?_
  refine ws_istore cx dX0_strokeTime_1 (by decide) (lv' := [(4, .int (-1 : Int32)), (0, .ref (b + o)), (1, .int a0), (2, .int a1), (3, .int a2)]) rfl ?_
  refine ws_iconst cx dX0_strokeTime_3 (v := 0) (by decide) ?_
  refine ws_istore cx dX0_strokeTime_4 (by decide) (lv' := [(5, .int (0 : Int32)), (4, .int (-1 : Int32)), (0, .ref (b + o)), (1, .int a0), (2, .int a1), (3, .int a2)]) rfl ?_
  refine ws_sub [2, 3, 4, 5, 1, 0] (lv' := [(0, .ref (b + o)), (1, .int a0), (2, .int a1), (3, .int a2), (4, .int (-1 : Int32)), (5, .int (0 : Int32))]) rfl ?_
  exact L6 _ _ _ _ hM

def mX0_seekPlaces_j80 (S : SH) (o : Nat) (a0 : Int32) (k13 : (ME × Int32 → Option (Unit × ME))) (k21 : (ME × Int32 × Int32 → Option (Unit × ME))) (me : ME) (x2 : Int32) (x3 : Int32) : Option (Unit × ME) :=
  k21 (me, x2, x3 + (1 : Int32))
def mX0_seekPlaces_j70 (S : SH) (o : Nat) (a0 : Int32) (k13 : (ME × Int32 → Option (Unit × ME))) (k21 : (ME × Int32 × Int32 → Option (Unit × ME))) (me : ME) (x2 : Int32) (x3 : Int32) : Option (Unit × ME) :=
  (gI S me 0 4 o).bind fun v1 =>
  (sI S me 0 4 o (v1 + (1 : Int32))).bind fun m4 =>
  mX0_seekPlaces_j80 S o a0 k13 k21 m4 x2 x3
def mX0_seekPlaces_j86 (S : SH) (o : Nat) (a0 : Int32) (k13 : (ME × Int32 → Option (Unit × ME))) (me : ME) (x2 : Int32) : Option (Unit × ME) :=
  k13 (me, x2 + (1 : Int32))
def mX0_seekPlaces_L21 (S : SH) (o : Nat) (a0 : Int32) (k13 : (ME × Int32 → Option (Unit × ME))) (k21 : (ME × Int32 × Int32 → Option (Unit × ME))) : ME × Int32 × Int32 → Option (Unit × ME)
  | (me, x2, x3) =>
    if (29 : Int32) < x3 then
      mX0_seekPlaces_j86 S o a0 k13 me x2
    else
      (ck S 0 o).bind fun _ => (mX0_strokeTime S me o a0 x2 x3).bind fun q6 =>
      (mX9_within S q6.2 q6.1 (60 : Int32)).bind fun q9 =>
      if q9.1 = 0 then
        mX0_seekPlaces_j80 S o a0 k13 k21 q9.2 x2 x3
      else
        (gI S q9.2 0 4 o).bind fun v12 =>
        if v12 = 0 then
          (sI S q9.2 0 5 o ((((10000 : Int32) * x2) + ((100 : Int32) * x3)) + q6.1)).bind fun m16 =>
          mX0_seekPlaces_j70 S o a0 k13 k21 m16 x2 x3
        else
          mX0_seekPlaces_j70 S o a0 k13 k21 q9.2 x2 x3
def mX0_seekPlaces_j92 (S : SH) (o : Nat) (a0 : Int32) (me : ME) : Option (Unit × ME) :=
  some ((), me)
def mX0_seekPlaces_L13 (S : SH) (o : Nat) (a0 : Int32) (k13 : (ME × Int32 → Option (Unit × ME))) : ME × Int32 → Option (Unit × ME)
  | (me, x2) =>
    if (29 : Int32) < x2 then
      mX0_seekPlaces_j92 S o a0 me
    else
      lpn (mX0_seekPlaces_L21 S o a0 k13) lpF (me, x2, (0 : Int32))
def mX0_seekPlaces (S : SH) (me : ME) (o : Nat) (a0 : Int32) : Option (Unit × ME) :=
  (sI S me 0 4 o (0 : Int32)).bind fun m19 =>
  (sI S m19 0 5 o (-9 : Int32)).bind fun m21 =>
  lpn (mX0_seekPlaces_L13 S o a0) lpF (m21, (0 : Int32))
set_option maxRecDepth 100000 in
set_option maxHeartbeats 4000000 in
theorem kX0_seekPlaces (l : Launch) (D : va_G) (b : Nat) {S : SH} {me : ME} {o : Nat} {a0 : Int32} {q : Unit × ME} (hM : mX0_seekPlaces S me o a0 = some q) : Ct l D b yX0_seekPlaces cX0_seekPlaces 5 none 2 50 0 0 [.ref (b + o), .int a0] S me S q.2 none := by
  refine ct_of (own := RX0) (nm := "seekPlaces") (lv := [(0, .ref (b + o)), (1, .int a0)]) (plainFor_of_name (by decide)) rfl rfl (Nat.le_of_ble_eq_true rfl) rfl ⟨rfl, rfl⟩ (fun X cx ex hL => ?_)
  have J80 : ∀ (k13 : (ME × Int32 → Option (Unit × ME))), (∀ (me : ME) (x2 : Int32), k13 (me, x2) = some q → WS X b 5 S me 13 [(0, .ref (b + o)), (1, .int a0), (2, .int x2)] []) → ∀ (k21 : (ME × Int32 × Int32 → Option (Unit × ME))), (∀ (me : ME) (x2 : Int32) (x3 : Int32), k21 (me, x2, x3) = some q → WS X b 5 S me 21 [(0, .ref (b + o)), (1, .int a0), (2, .int x2), (3, .int x3)] []) → ∀ (me : ME) (x2 : Int32) (x3 : Int32), mX0_seekPlaces_j80 S o a0 k13 k21 me x2 x3 = some q → WS X b 5 S me 80 [(0, .ref (b + o)), (1, .int a0), (2, .int x2), (3, .int x3)] [] := by
    intro k13 hk13 k21 hk21 me x2 x3 hM
    unfold mX0_seekPlaces_j80 at hM
    refine ws_iinc cx dX0_seekPlaces_80 (j := 3) rfl (v := x3 + (1 : Int32)) rfl (by decide) (lv' := [(3, .int (x3 + (1 : Int32))), (0, .ref (b + o)), (1, .int a0), (2, .int x2)]) rfl ?_
    refine ws_goto cx dX0_seekPlaces_83 (tgt := 21) (by decide) ?_
    refine ws_sub [1, 2, 3, 0] (lv' := [(0, .ref (b + o)), (1, .int a0), (2, .int x2), (3, .int (x3 + (1 : Int32)))]) rfl ?_
    exact hk21 _ _ _ hM
  have J70 : ∀ (k13 : (ME × Int32 → Option (Unit × ME))), (∀ (me : ME) (x2 : Int32), k13 (me, x2) = some q → WS X b 5 S me 13 [(0, .ref (b + o)), (1, .int a0), (2, .int x2)] []) → ∀ (k21 : (ME × Int32 × Int32 → Option (Unit × ME))), (∀ (me : ME) (x2 : Int32) (x3 : Int32), k21 (me, x2, x3) = some q → WS X b 5 S me 21 [(0, .ref (b + o)), (1, .int a0), (2, .int x2), (3, .int x3)] []) → ∀ (me : ME) (x2 : Int32) (x3 : Int32), mX0_seekPlaces_j70 S o a0 k13 k21 me x2 x3 = some q → WS X b 5 S me 70 [(0, .ref (b + o)), (1, .int a0), (2, .int x2), (3, .int x3)] [] := by
    intro k13 hk13 k21 hk21 me x2 x3 hM
    unfold mX0_seekPlaces_j70 at hM
    refine ws_aload_n cx dX0_seekPlaces_70 rfl (j := 0) rfl ?_
    refine ws_dup cx dX0_seekPlaces_71 rfl ?_
    obtain ⟨v1, h2, hM⟩ := bnd hM
    refine ws_getI cx ffX0_87 h2 dX0_seekPlaces_72 ?_
    refine ws_iconst cx dX0_seekPlaces_75 (v := 1) (by decide) ?_
    refine ws_iadd cx dX0_seekPlaces_76 ?_
    obtain ⟨m4, h3, hM⟩ := bnd hM
    refine ws_putI cx ffX0_87 h3 dX0_seekPlaces_77 ?_
    refine ws_sub [0, 1, 2, 3] (lv' := [(0, .ref (b + o)), (1, .int a0), (2, .int x2), (3, .int x3)]) rfl ?_
    exact J80 _ hk13 _ hk21 _ _ _ hM
  have J86 : ∀ (k13 : (ME × Int32 → Option (Unit × ME))), (∀ (me : ME) (x2 : Int32), k13 (me, x2) = some q → WS X b 5 S me 13 [(0, .ref (b + o)), (1, .int a0), (2, .int x2)] []) → ∀ (me : ME) (x2 : Int32), mX0_seekPlaces_j86 S o a0 k13 me x2 = some q → WS X b 5 S me 86 [(0, .ref (b + o)), (1, .int a0), (2, .int x2)] [] := by
    intro k13 hk13 me x2 hM
    unfold mX0_seekPlaces_j86 at hM
    refine ws_iinc cx dX0_seekPlaces_86 (j := 2) rfl (v := x2 + (1 : Int32)) rfl (by decide) (lv' := [(2, .int (x2 + (1 : Int32))), (0, .ref (b + o)), (1, .int a0)]) rfl ?_
    refine ws_goto cx dX0_seekPlaces_89 (tgt := 13) (by decide) ?_
    refine ws_sub [1, 2, 0] (lv' := [(0, .ref (b + o)), (1, .int a0), (2, .int (x2 + (1 : Int32)))]) rfl ?_
    exact hk13 _ _ hM
  have L21 : ∀ (k13 : (ME × Int32 → Option (Unit × ME))), (∀ (me : ME) (x2 : Int32), k13 (me, x2) = some q → WS X b 5 S me 13 [(0, .ref (b + o)), (1, .int a0), (2, .int x2)] []) → ∀ (n : Nat) (me : ME) (x2 : Int32) (x3 : Int32), lpn (mX0_seekPlaces_L21 S o a0 k13) n (me, x2, x3) = some q → WS X b 5 S me 21 [(0, .ref (b + o)), (1, .int a0), (2, .int x2), (3, .int x3)] [] := by
    intro k13 hk13 n
    induction n with
    | zero => intro me x2 x3 hM; exact absurd hM (by intro h; cases h)
    | succ n ih =>
      intro me x2 x3 hM
      have hM : mX0_seekPlaces_L21 S o a0 k13 (lpn (mX0_seekPlaces_L21 S o a0 k13) n) (me, x2, x3) = some q := hM
      unfold mX0_seekPlaces_L21 at hM
      refine ws_iload_n cx dX0_seekPlaces_21 rfl (j := 3) rfl ?_
      refine ws_bipush cx dX0_seekPlaces_22 (v := 29) (by decide) ?_
      refine ws_icmp_gt cx dX0_seekPlaces_24 (tgt := 86) (by decide) (fun c5 => ?_) (fun c5 => ?_)
      · have hM := if_t hM c5
        refine ws_sub [0, 1, 2] (lv' := [(0, .ref (b + o)), (1, .int a0), (2, .int x2)]) rfl ?_
        exact J86 _ hk13 _ _ hM
      · have hM := if_f hM c5
        refine ws_aload_n cx dX0_seekPlaces_27 rfl (j := 0) rfl ?_
        refine ws_iload_n cx dX0_seekPlaces_28 rfl (j := 1) rfl ?_
        refine ws_iload_n cx dX0_seekPlaces_29 rfl (j := 2) rfl ?_
        refine ws_iload_n cx dX0_seekPlaces_30 rfl (j := 3) rfl ?_
        obtain ⟨_, h8, hM⟩ := bnd hM
        obtain ⟨q6, h7, hM⟩ := bnd hM
        refine ws_callV cx (rest := []) (st' := [.int q6.1]) (kX0_strokeTime l D b h7) mvX0_strokeTime (ck_k h8) (by decide) (q := (RX0, TX0, 6)) rfl seX0_strokeTime lkX0_93 rfl ⟨by decide, by decide⟩ (Nat.le_of_ble_eq_true rfl) ⟨rfl, rfl⟩ (Or.inl ⟨rfl, rfl⟩) rfl rfl dX0_seekPlaces_31 ?_
        refine ws_istore cx dX0_seekPlaces_34 (by decide) (lv' := [(4, .int q6.1), (0, .ref (b + o)), (1, .int a0), (2, .int x2), (3, .int x3)]) rfl ?_
        refine ws_iload cx dX0_seekPlaces_36 (j := 0) rfl ?_
        refine ws_bipush cx dX0_seekPlaces_38 (v := 60) (by decide) ?_
        obtain ⟨q9, h10, hM⟩ := bnd hM
        refine ws_callSN cx (rest := []) (st' := [.int q9.1]) (kX9_within l D b h10) mvX9_within lnX0_97 rfl ⟨by decide, by decide⟩ (Nat.le_of_ble_eq_true rfl) ⟨rfl, rfl⟩ (Or.inl ⟨rfl, rfl⟩) rfl rfl dX0_seekPlaces_40 ?_
        refine ws_if_eq cx dX0_seekPlaces_43 (tgt := 80) (by decide) (fun c11 => ?_) (fun c11 => ?_)
        · have hM := if_t hM c11
          refine ws_sub [1, 2, 3, 4] (lv' := [(0, .ref (b + o)), (1, .int a0), (2, .int x2), (3, .int x3)]) rfl ?_
          exact J80 _ hk13 _ ih _ _ _ hM
        · have hM := if_f hM c11
          refine ws_aload_n cx dX0_seekPlaces_46 rfl (j := 1) rfl ?_
          obtain ⟨v12, h13, hM⟩ := bnd hM
          refine ws_getI cx ffX0_87 h13 dX0_seekPlaces_47 ?_
          refine ws_if_ne cx dX0_seekPlaces_50 (tgt := 70) (by decide) (fun c14 => ?_) (fun c14 => ?_)
          · have hM := if_f hM c14
            refine ws_sub [1, 2, 3, 4] (lv' := [(0, .ref (b + o)), (1, .int a0), (2, .int x2), (3, .int x3)]) rfl ?_
            exact J70 _ hk13 _ ih _ _ _ hM
          · have hM := if_t hM c14
            refine ws_aload_n cx dX0_seekPlaces_53 rfl (j := 1) rfl ?_
            refine ws_sipush cx dX0_seekPlaces_54 (v := 10000) (by decide) ?_
            refine ws_iload_n cx dX0_seekPlaces_57 rfl (j := 3) rfl ?_
            refine ws_imul cx dX0_seekPlaces_58 ?_
            refine ws_bipush cx dX0_seekPlaces_59 (v := 100) (by decide) ?_
            refine ws_iload_n cx dX0_seekPlaces_61 rfl (j := 4) rfl ?_
            refine ws_imul cx dX0_seekPlaces_62 ?_
            refine ws_iadd cx dX0_seekPlaces_63 ?_
            refine ws_iload cx dX0_seekPlaces_64 (j := 0) rfl ?_
            refine ws_iadd cx dX0_seekPlaces_66 ?_
            obtain ⟨m16, h15, hM⟩ := bnd hM
            refine ws_putI cx ffX0_90 h15 dX0_seekPlaces_67 ?_
            refine ws_sub [1, 2, 3, 4] (lv' := [(0, .ref (b + o)), (1, .int a0), (2, .int x2), (3, .int x3)]) rfl ?_
            exact J70 _ hk13 _ ih _ _ _ hM
  have J92 : ∀ (me : ME), mX0_seekPlaces_j92 S o a0 me = some q → WS X b 5 S me 92 [] [] := by
    intro  me hM
    unfold mX0_seekPlaces_j92 at hM
    exact ws_vretM cx ex hM dX0_seekPlaces_92
  have L13 : ∀ (n : Nat) (me : ME) (x2 : Int32), lpn (mX0_seekPlaces_L13 S o a0) n (me, x2) = some q → WS X b 5 S me 13 [(0, .ref (b + o)), (1, .int a0), (2, .int x2)] [] := by
    intro  n
    induction n with
    | zero => intro me x2 hM; exact absurd hM (by intro h; cases h)
    | succ n ih =>
      intro me x2 hM
      have hM : mX0_seekPlaces_L13 S o a0 (lpn (mX0_seekPlaces_L13 S o a0) n) (me, x2) = some q := hM
      unfold mX0_seekPlaces_L13 at hM
      refine ws_iload_n cx dX0_seekPlaces_13 rfl (j := 2) rfl ?_
      refine ws_bipush cx dX0_seekPlaces_14 (v := 29) (by decide) ?_
      refine ws_icmp_gt cx dX0_seekPlaces_16 (tgt := 92) (by decide) (fun c17 => ?_) (fun c17 => ?_)
      · have hM := if_t hM c17
        refine ws_sub [] (lv' := []) rfl ?_
        exact J92 _ hM
      · have hM := if_f hM c17
        refine ws_iconst cx dX0_seekPlaces_19 (v := 0) (by decide) ?_
        refine ws_istore_n cx dX0_seekPlaces_20 rfl (by decide) (lv' := [(3, .int (0 : Int32)), (0, .ref (b + o)), (1, .int a0), (2, .int x2)]) rfl ?_
        refine ws_sub [1, 2, 3, 0] (lv' := [(0, .ref (b + o)), (1, .int a0), (2, .int x2), (3, .int (0 : Int32))]) rfl ?_
        exact L21 _ ih _ _ _ _ hM
  unfold mX0_seekPlaces at hM
  refine ws_aload_n cx dX0_seekPlaces_0 rfl (j := 0) rfl ?_
  refine ws_iconst cx dX0_seekPlaces_1 (v := 0) (by decide) ?_
  obtain ⟨m19, h18, hM⟩ := bnd hM
  refine ws_putI cx ffX0_87 h18 dX0_seekPlaces_2 ?_
  refine ws_aload_n cx dX0_seekPlaces_5 rfl (j := 0) rfl ?_
  refine ws_bipush cx dX0_seekPlaces_6 (v := -9) (by decide) ?_
  obtain ⟨m21, h20, hM⟩ := bnd hM
  refine ws_putI cx ffX0_90 h20 dX0_seekPlaces_8 ?_
  refine ws_iconst cx dX0_seekPlaces_11 (v := 0) (by decide) ?_
  refine ws_istore_n cx dX0_seekPlaces_12 rfl (by decide) (lv' := [(2, .int (0 : Int32)), (0, .ref (b + o)), (1, .int a0)]) rfl ?_
  refine ws_sub [1, 2, 0] (lv' := [(0, .ref (b + o)), (1, .int a0), (2, .int (0 : Int32))]) rfl ?_
  exact L13 _ _ _ hM

def mX9_group_j29 (S : SH) (o : Nat) (a0 : Int32) (a1 : Int32) (me : ME) : Option (Int32 × ME) :=
  some ((-1 : Int32), me)
def mX9_group (S : SH) (me : ME) (o : Nat) (a0 : Int32) (a1 : Int32) : Option (Int32 × ME) :=
  (ck S 9 o).bind fun _ => (mX9_regroup S me o).bind fun q1 =>
  (gR S 9 8 o).bind fun v4 =>
  (gI S q1.2 1 2 v4).bind fun v6 =>
  (mX9_within S q1.2 a0 (v6 - (1 : Int32))).bind fun q8 =>
  if q8.1 = 0 then
    mX9_group_j29 S o a0 a1 q8.2
  else
    (mX9_within S q8.2 a1 (7 : Int32)).bind fun q11 =>
    if q11.1 = 0 then
      mX9_group_j29 S o a0 a1 q11.2
    else
      (gR S 9 8 o).bind fun v14 =>
      (gR S 1 0 v14).bind fun v16 =>
      (aI S q11.2 11 v16 a0).bind fun v18 =>
      if a1 = (0 : Int32) then
        some (v18, q11.2)
      else
      if a1 = (1 : Int32) then
        (gR S 9 9 o).bind fun v22 =>
        (ck S 7 v22).bind fun _ => (mX7_solve S q11.2 v22 v18).bind fun q24 =>
        (gR S 9 9 o).bind fun v27 =>
        (gI S q24.2 7 3 v27).bind fun v29 =>
        some (v29, q24.2)
      else
      if a1 = (2 : Int32) then
        (gR S 9 9 o).bind fun v32 =>
        (ck S 7 v32).bind fun _ => (mX7_judge S q11.2 v32 v18).bind fun q34 =>
        some (q34.1, q34.2)
      else
      if a1 = (3 : Int32) then
        (gR S 9 10 o).bind fun v38 =>
        (ck S 0 v38).bind fun _ => (mX0_leastOut S q11.2 v38 v18).bind fun q40 =>
        some (q40.1, q40.2)
      else
      if a1 = (4 : Int32) then
        (gR S 9 10 o).bind fun v44 =>
        (ck S 0 v44).bind fun _ => (mX0_seekFour S q11.2 v44 v18).bind fun q46 =>
        (gR S 9 10 o).bind fun v49 =>
        (gI S q46.2 0 2 v49).bind fun v51 =>
        some (v51, q46.2)
      else
      if a1 = (5 : Int32) then
        (gR S 9 10 o).bind fun v54 =>
        (ck S 0 v54).bind fun _ => (mX0_seekFour S q11.2 v54 v18).bind fun q56 =>
        (gR S 9 10 o).bind fun v59 =>
        (gI S q56.2 0 3 v59).bind fun v61 =>
        some (v61, q56.2)
      else
      if a1 = (6 : Int32) then
        (gR S 9 10 o).bind fun v64 =>
        (ck S 0 v64).bind fun _ => (mX0_seekPlaces S q11.2 v64 v18).bind fun q66 =>
        (gR S 9 10 o).bind fun v69 =>
        (gI S q66.2 0 4 v69).bind fun v71 =>
        some (v71, q66.2)
      else
      (gR S 9 10 o).bind fun v73 =>
      (ck S 0 v73).bind fun _ => (mX0_seekPlaces S q11.2 v73 v18).bind fun q75 =>
      (gR S 9 10 o).bind fun v78 =>
      (gI S q75.2 0 5 v78).bind fun v80 =>
      some (v80, q75.2)
set_option maxRecDepth 100000 in
set_option maxHeartbeats 4000000 in
theorem kX9_group (l : Launch) (D : va_G) (b : Nat) {S : SH} {me : ME} {o : Nat} {a0 : Int32} {a1 : Int32} {q : Int32 × ME} (hM : mX9_group S me o a0 a1 = some q) : Ct l D b yX9_group cX9_group 4 (some .int) 6 136 0 0 [.ref (b + o), .int a0, .int a1] S me S q.2 (some (.int q.1)) := by
  refine ct_of (own := RX9) (nm := "group") (lv := [(0, .ref (b + o)), (1, .int a0), (2, .int a1)]) (plainFor_of_name (by decide)) rfl rfl (Nat.le_of_ble_eq_true rfl) rfl ⟨rfl, rfl⟩ (fun X cx ex hL => ?_)
  have J29 : ∀ (me : ME), mX9_group_j29 S o a0 a1 me = some q → WS X b 4 S me 29 [] [] := by
    intro  me hM
    unfold mX9_group_j29 at hM
    refine ws_iconst cx dX9_group_29 (v := -1) (by decide) ?_
    exact ws_iretM cx ex hM dX9_group_30
  unfold mX9_group at hM
  refine ws_aload_n cx dX9_group_0 rfl (j := 0) rfl ?_
  obtain ⟨_, h3, hM⟩ := bnd hM
  obtain ⟨q1, h2, hM⟩ := bnd hM
  refine ws_callV cx (rest := []) (st' := []) (kX9_regroup l D b h2) mvX9_regroup (ck_k h3) (by decide) (q := (RX9, TX9, 11)) rfl seX9_regroup lkX9_140 rfl ⟨by decide, by decide⟩ (Nat.le_of_ble_eq_true rfl) ⟨rfl, rfl⟩ (Or.inl ⟨rfl, rfl⟩) rfl rfl dX9_group_1 ?_
  refine ws_iload_n cx dX9_group_4 rfl (j := 1) rfl ?_
  refine ws_aload_n cx dX9_group_5 rfl (j := 0) rfl ?_
  obtain ⟨v4, h5, hM⟩ := bnd hM
  refine ws_getR cx ffX9_62 h5 dX9_group_6 ?_
  obtain ⟨v6, h7, hM⟩ := bnd hM
  refine ws_getI cx ffX9_160 h7 dX9_group_9 ?_
  refine ws_iconst cx dX9_group_12 (v := 1) (by decide) ?_
  refine ws_isub cx dX9_group_13 ?_
  obtain ⟨q8, h9, hM⟩ := bnd hM
  refine ws_callS cx (rest := []) (st' := [.int q8.1]) (kX9_within l D b h9) mvX9_within lkX9_84 rfl ⟨by decide, by decide⟩ (Nat.le_of_ble_eq_true rfl) ⟨rfl, rfl⟩ (Or.inl ⟨rfl, rfl⟩) rfl rfl dX9_group_14 ?_
  refine ws_if_eq cx dX9_group_17 (tgt := 29) (by decide) (fun c10 => ?_) (fun c10 => ?_)
  · have hM := if_t hM c10
    refine ws_sub [] (lv' := []) rfl ?_
    exact J29 _ hM
  · have hM := if_f hM c10
    refine ws_iload_n cx dX9_group_20 rfl (j := 2) rfl ?_
    refine ws_bipush cx dX9_group_21 (v := 7) (by decide) ?_
    obtain ⟨q11, h12, hM⟩ := bnd hM
    refine ws_callS cx (rest := []) (st' := [.int q11.1]) (kX9_within l D b h12) mvX9_within lkX9_84 rfl ⟨by decide, by decide⟩ (Nat.le_of_ble_eq_true rfl) ⟨rfl, rfl⟩ (Or.inl ⟨rfl, rfl⟩) rfl rfl dX9_group_23 ?_
    refine ws_if_ne cx dX9_group_26 (tgt := 31) (by decide) (fun c13 => ?_) (fun c13 => ?_)
    · have hM := if_f hM c13
      refine ws_aload_n cx dX9_group_31 rfl (j := 0) rfl ?_
      obtain ⟨v14, h15, hM⟩ := bnd hM
      refine ws_getR cx ffX9_62 h15 dX9_group_32 ?_
      obtain ⟨v16, h17, hM⟩ := bnd hM
      refine ws_getR cx ffX9_161 h17 dX9_group_35 ?_
      refine ws_iload_n cx dX9_group_38 rfl (j := 1) rfl ?_
      obtain ⟨v18, h19, hM⟩ := bnd hM
      refine ws_iald cx h19 dX9_group_39 ?_
      refine ws_istore_n cx dX9_group_40 rfl (by decide) (lv' := [(3, .int v18), (0, .ref (b + o)), (1, .int a0), (2, .int a1)]) rfl ?_
      refine ws_iload_n cx dX9_group_41 rfl (j := 3) rfl ?_
      by_cases c20 : a1 = (0 : Int32)
      · have hM := if_t hM c20
        refine ws_tabIn cx dX9_group_42 (tgt := 84) (by rw [c20]; decide) (by rw [c20]; decide) (by rw [c20]; rfl) (by decide) ?_
        refine ws_iload_n cx dX9_group_84 rfl (j := 0) rfl ?_
        exact ws_iretM cx ex hM dX9_group_85
      · have hM := if_f hM c20
        by_cases c21 : a1 = (1 : Int32)
        · have hM := if_t hM c21
          refine ws_tabIn cx dX9_group_42 (tgt := 86) (by rw [c21]; decide) (by rw [c21]; decide) (by rw [c21]; rfl) (by decide) ?_
          refine ws_aload_n cx dX9_group_86 rfl (j := 1) rfl ?_
          obtain ⟨v22, h23, hM⟩ := bnd hM
          refine ws_getR cx ffX9_71 h23 dX9_group_87 ?_
          refine ws_iload_n cx dX9_group_90 rfl (j := 0) rfl ?_
          obtain ⟨_, h26, hM⟩ := bnd hM
          obtain ⟨q24, h25, hM⟩ := bnd hM
          refine ws_callV cx (rest := []) (st' := []) (kX7_solve l D b h25) mvX7_solve (ck_k h26) (by decide) (q := (RX7, TX7, 8)) rfl seX7_solve lkX9_164 rfl ⟨by decide, by decide⟩ (Nat.le_of_ble_eq_true rfl) ⟨rfl, rfl⟩ (Or.inl ⟨rfl, rfl⟩) rfl rfl dX9_group_91 ?_
          refine ws_aload_n cx dX9_group_94 rfl (j := 1) rfl ?_
          obtain ⟨v27, h28, hM⟩ := bnd hM
          refine ws_getR cx ffX9_71 h28 dX9_group_95 ?_
          obtain ⟨v29, h30, hM⟩ := bnd hM
          refine ws_getI cx ffX9_167 h30 dX9_group_98 ?_
          exact ws_iretM cx ex hM dX9_group_101
        · have hM := if_f hM c21
          by_cases c31 : a1 = (2 : Int32)
          · have hM := if_t hM c31
            refine ws_tabIn cx dX9_group_42 (tgt := 102) (by rw [c31]; decide) (by rw [c31]; decide) (by rw [c31]; rfl) (by decide) ?_
            refine ws_aload_n cx dX9_group_102 rfl (j := 1) rfl ?_
            obtain ⟨v32, h33, hM⟩ := bnd hM
            refine ws_getR cx ffX9_71 h33 dX9_group_103 ?_
            refine ws_iload_n cx dX9_group_106 rfl (j := 0) rfl ?_
            obtain ⟨_, h36, hM⟩ := bnd hM
            obtain ⟨q34, h35, hM⟩ := bnd hM
            refine ws_callV cx (rest := []) (st' := [.int q34.1]) (kX7_judge l D b h35) mvX7_judge (ck_k h36) (by decide) (q := (RX7, TX7, 8)) rfl seX7_judge lkX9_170 rfl ⟨by decide, by decide⟩ (Nat.le_of_ble_eq_true rfl) ⟨rfl, rfl⟩ (Or.inl ⟨rfl, rfl⟩) rfl rfl dX9_group_107 ?_
            exact ws_iretM cx ex hM dX9_group_110
          · have hM := if_f hM c31
            by_cases c37 : a1 = (3 : Int32)
            · have hM := if_t hM c37
              refine ws_tabIn cx dX9_group_42 (tgt := 111) (by rw [c37]; decide) (by rw [c37]; decide) (by rw [c37]; rfl) (by decide) ?_
              refine ws_aload_n cx dX9_group_111 rfl (j := 1) rfl ?_
              obtain ⟨v38, h39, hM⟩ := bnd hM
              refine ws_getR cx ffX9_80 h39 dX9_group_112 ?_
              refine ws_iload_n cx dX9_group_115 rfl (j := 0) rfl ?_
              obtain ⟨_, h42, hM⟩ := bnd hM
              obtain ⟨q40, h41, hM⟩ := bnd hM
              refine ws_callV cx (rest := []) (st' := [.int q40.1]) (kX0_leastOut l D b h41) mvX0_leastOut (ck_k h42) (by decide) (q := (RX0, TX0, 6)) rfl seX0_leastOut lkX9_174 rfl ⟨by decide, by decide⟩ (Nat.le_of_ble_eq_true rfl) ⟨rfl, rfl⟩ (Or.inl ⟨rfl, rfl⟩) rfl rfl dX9_group_116 ?_
              exact ws_iretM cx ex hM dX9_group_119
            · have hM := if_f hM c37
              by_cases c43 : a1 = (4 : Int32)
              · have hM := if_t hM c43
                refine ws_tabIn cx dX9_group_42 (tgt := 120) (by rw [c43]; decide) (by rw [c43]; decide) (by rw [c43]; rfl) (by decide) ?_
                refine ws_aload_n cx dX9_group_120 rfl (j := 1) rfl ?_
                obtain ⟨v44, h45, hM⟩ := bnd hM
                refine ws_getR cx ffX9_80 h45 dX9_group_121 ?_
                refine ws_iload_n cx dX9_group_124 rfl (j := 0) rfl ?_
                obtain ⟨_, h48, hM⟩ := bnd hM
                obtain ⟨q46, h47, hM⟩ := bnd hM
                refine ws_callV cx (rest := []) (st' := []) (kX0_seekFour l D b h47) mvX0_seekFour (ck_k h48) (by decide) (q := (RX0, TX0, 6)) rfl seX0_seekFour lkX9_177 rfl ⟨by decide, by decide⟩ (Nat.le_of_ble_eq_true rfl) ⟨rfl, rfl⟩ (Or.inl ⟨rfl, rfl⟩) rfl rfl dX9_group_125 ?_
                refine ws_aload_n cx dX9_group_128 rfl (j := 1) rfl ?_
                obtain ⟨v49, h50, hM⟩ := bnd hM
                refine ws_getR cx ffX9_80 h50 dX9_group_129 ?_
                obtain ⟨v51, h52, hM⟩ := bnd hM
                refine ws_getI cx ffX9_180 h52 dX9_group_132 ?_
                exact ws_iretM cx ex hM dX9_group_135
              · have hM := if_f hM c43
                by_cases c53 : a1 = (5 : Int32)
                · have hM := if_t hM c53
                  refine ws_tabIn cx dX9_group_42 (tgt := 136) (by rw [c53]; decide) (by rw [c53]; decide) (by rw [c53]; rfl) (by decide) ?_
                  refine ws_aload_n cx dX9_group_136 rfl (j := 1) rfl ?_
                  obtain ⟨v54, h55, hM⟩ := bnd hM
                  refine ws_getR cx ffX9_80 h55 dX9_group_137 ?_
                  refine ws_iload_n cx dX9_group_140 rfl (j := 0) rfl ?_
                  obtain ⟨_, h58, hM⟩ := bnd hM
                  obtain ⟨q56, h57, hM⟩ := bnd hM
                  refine ws_callV cx (rest := []) (st' := []) (kX0_seekFour l D b h57) mvX0_seekFour (ck_k h58) (by decide) (q := (RX0, TX0, 6)) rfl seX0_seekFour lkX9_177 rfl ⟨by decide, by decide⟩ (Nat.le_of_ble_eq_true rfl) ⟨rfl, rfl⟩ (Or.inl ⟨rfl, rfl⟩) rfl rfl dX9_group_141 ?_
                  refine ws_aload_n cx dX9_group_144 rfl (j := 1) rfl ?_
                  obtain ⟨v59, h60, hM⟩ := bnd hM
                  refine ws_getR cx ffX9_80 h60 dX9_group_145 ?_
                  obtain ⟨v61, h62, hM⟩ := bnd hM
                  refine ws_getI cx ffX9_183 h62 dX9_group_148 ?_
                  exact ws_iretM cx ex hM dX9_group_151
                · have hM := if_f hM c53
                  by_cases c63 : a1 = (6 : Int32)
                  · have hM := if_t hM c63
                    refine ws_tabIn cx dX9_group_42 (tgt := 152) (by rw [c63]; decide) (by rw [c63]; decide) (by rw [c63]; rfl) (by decide) ?_
                    refine ws_aload_n cx dX9_group_152 rfl (j := 1) rfl ?_
                    obtain ⟨v64, h65, hM⟩ := bnd hM
                    refine ws_getR cx ffX9_80 h65 dX9_group_153 ?_
                    refine ws_iload_n cx dX9_group_156 rfl (j := 0) rfl ?_
                    obtain ⟨_, h68, hM⟩ := bnd hM
                    obtain ⟨q66, h67, hM⟩ := bnd hM
                    refine ws_callV cx (rest := []) (st' := []) (kX0_seekPlaces l D b h67) mvX0_seekPlaces (ck_k h68) (by decide) (q := (RX0, TX0, 6)) rfl seX0_seekPlaces lkX9_186 rfl ⟨by decide, by decide⟩ (Nat.le_of_ble_eq_true rfl) ⟨rfl, rfl⟩ (Or.inl ⟨rfl, rfl⟩) rfl rfl dX9_group_157 ?_
                    refine ws_aload_n cx dX9_group_160 rfl (j := 1) rfl ?_
                    obtain ⟨v69, h70, hM⟩ := bnd hM
                    refine ws_getR cx ffX9_80 h70 dX9_group_161 ?_
                    obtain ⟨v71, h72, hM⟩ := bnd hM
                    refine ws_getI cx ffX9_189 h72 dX9_group_164 ?_
                    exact ws_iretM cx ex hM dX9_group_167
                  · have hM := if_f hM c63
                    refine ws_tabOut cx dX9_group_42 (tgt := 168) (by have := lv_neT c20 (show ((0 : Int32)).toInt = 0 from rfl); have := lv_neT c21 (show ((1 : Int32)).toInt = 1 from rfl); have := lv_neT c31 (show ((2 : Int32)).toInt = 2 from rfl); have := lv_neT c37 (show ((3 : Int32)).toInt = 3 from rfl); have := lv_neT c43 (show ((4 : Int32)).toInt = 4 from rfl); have := lv_neT c53 (show ((5 : Int32)).toInt = 5 from rfl); have := lv_neT c63 (show ((6 : Int32)).toInt = 6 from rfl); omega) (by decide) ?_
                    refine ws_aload_n cx dX9_group_168 rfl (j := 1) rfl ?_
                    obtain ⟨v73, h74, hM⟩ := bnd hM
                    refine ws_getR cx ffX9_80 h74 dX9_group_169 ?_
                    refine ws_iload_n cx dX9_group_172 rfl (j := 0) rfl ?_
                    obtain ⟨_, h77, hM⟩ := bnd hM
                    obtain ⟨q75, h76, hM⟩ := bnd hM
                    refine ws_callV cx (rest := []) (st' := []) (kX0_seekPlaces l D b h76) mvX0_seekPlaces (ck_k h77) (by decide) (q := (RX0, TX0, 6)) rfl seX0_seekPlaces lkX9_186 rfl ⟨by decide, by decide⟩ (Nat.le_of_ble_eq_true rfl) ⟨rfl, rfl⟩ (Or.inl ⟨rfl, rfl⟩) rfl rfl dX9_group_173 ?_
                    refine ws_aload_n cx dX9_group_176 rfl (j := 1) rfl ?_
                    obtain ⟨v78, h79, hM⟩ := bnd hM
                    refine ws_getR cx ffX9_80 h79 dX9_group_177 ?_
                    obtain ⟨v80, h81, hM⟩ := bnd hM
                    refine ws_getI cx ffX9_192 h81 dX9_group_180 ?_
                    exact ws_iretM cx ex hM dX9_group_183
    · have hM := if_t hM c13
      refine ws_sub [] (lv' := []) rfl ?_
      exact J29 _ hM

def mX9_commonDivisor_j50 (S : SH) (a0 : Int64) (a1 : Int64) (me : ME) (x4 : Int64) : Option (Int64 × ME) :=
  some (x4, me)
def mX9_commonDivisor_L15 (S : SH) (a0 : Int64) (a1 : Int64) (k15 : (ME × Int64 × Int64 × Int32 → Option (Int64 × ME))) : ME × Int64 × Int64 × Int32 → Option (Int64 × ME)
  | (me, x4, x6, x8) =>
    if (100 : Int32) ≤ x8 then
      mX9_commonDivisor_j50 S a0 a1 me x4
    else
      if (lg_cmp x6 (0 : Int64)) = 0 then
        mX9_commonDivisor_j50 S a0 a1 me x4
      else
        if x6 = 0 then none else
        k15 (me, x6, x4 - x4 / x6 * x6, x8 + (1 : Int32))
def mX9_commonDivisor (S : SH) (me : ME) (a0 : Int64) (a1 : Int64) : Option (Int64 × ME) :=
  (mJ9_abs_067f4 S me a0).bind fun q4 =>
  (mJ9_abs_067f4 S q4.2 a1).bind fun q6 =>
  lpn (mX9_commonDivisor_L15 S a0 a1) lpF (q6.2, q4.1, q6.1, (0 : Int32))
set_option maxRecDepth 100000 in
set_option maxHeartbeats 4000000 in
theorem kX9_commonDivisor (l : Launch) (D : va_G) (b : Nat) {S : SH} {me : ME} {a0 : Int64} {a1 : Int64} {q : Int64 × ME} (hM : mX9_commonDivisor S me a0 a1 = some q) : Ct l D b yX9_commonDivisor cX9_commonDivisor 11 (some .long) 1 21 0 0 [.long a0, .long a1] S me S q.2 (some (.long q.1)) := by
  refine ct_of (own := RX9) (nm := "commonDivisor") (lv := [(0, .long a0), (2, .long a1)]) (plainFor_of_name (by decide)) rfl rfl (Nat.le_of_ble_eq_true rfl) rfl ⟨rfl, rfl⟩ (fun X cx ex hL => ?_)
  have J50 : ∀ (me : ME) (x4 : Int64), mX9_commonDivisor_j50 S a0 a1 me x4 = some q → WS X b 11 S me 50 [(4, .long x4)] [] := by
    intro  me x4 hM
    unfold mX9_commonDivisor_j50 at hM
    refine ws_lload cx dX9_commonDivisor_50 (j := 0) rfl ?_
    exact ws_lretM cx ex hM dX9_commonDivisor_52
  have L15 : ∀ (n : Nat) (me : ME) (x4 : Int64) (x6 : Int64) (x8 : Int32), lpn (mX9_commonDivisor_L15 S a0 a1) n (me, x4, x6, x8) = some q → WS X b 11 S me 15 [(4, .long x4), (6, .long x6), (8, .int x8)] [] := by
    intro  n
    induction n with
    | zero => intro me x4 x6 x8 hM; exact absurd hM (by intro h; cases h)
    | succ n ih =>
      intro me x4 x6 x8 hM
      have hM : mX9_commonDivisor_L15 S a0 a1 (lpn (mX9_commonDivisor_L15 S a0 a1) n) (me, x4, x6, x8) = some q := hM
      unfold mX9_commonDivisor_L15 at hM
      refine ws_iload cx dX9_commonDivisor_15 (j := 2) rfl ?_
      refine ws_bipush cx dX9_commonDivisor_17 (v := 100) (by decide) ?_
      refine ws_icmp_ge cx dX9_commonDivisor_19 (tgt := 50) (by decide) (fun c1 => ?_) (fun c1 => ?_)
      · have hM := if_t hM c1
        refine ws_sub [0] (lv' := [(4, .long x4)]) rfl ?_
        exact J50 _ _ hM
      · have hM := if_f hM c1
        refine ws_lload cx dX9_commonDivisor_22 (j := 1) rfl ?_
        refine ws_lconst cx dX9_commonDivisor_24 (v := 0) (by decide) ?_
        refine ws_lcmp cx dX9_commonDivisor_25 ?_
        refine ws_if_eq cx dX9_commonDivisor_26 (tgt := 50) (by decide) (fun c2 => ?_) (fun c2 => ?_)
        · have hM := if_t hM c2
          refine ws_sub [0] (lv' := [(4, .long x4)]) rfl ?_
          exact J50 _ _ hM
        · have hM := if_f hM c2
          refine ws_lload cx dX9_commonDivisor_29 (j := 0) rfl ?_
          refine ws_lload cx dX9_commonDivisor_31 (j := 1) rfl ?_
          obtain ⟨h3, hM⟩ := if_n hM
          refine ws_lrem cx h3 dX9_commonDivisor_33 ?_
          refine ws_lstore cx dX9_commonDivisor_34 (by decide) (lv' := [(9, .long (x4 - x4 / x6 * x6)), (4, .long x4), (6, .long x6), (8, .int x8)]) rfl ?_
          refine ws_lload cx dX9_commonDivisor_36 (j := 2) rfl ?_
          refine ws_lstore cx dX9_commonDivisor_38 (by decide) (lv' := [(4, .long x6), (9, .long (x4 - x4 / x6 * x6)), (6, .long x6), (8, .int x8)]) rfl ?_
          refine ws_lload cx dX9_commonDivisor_40 (j := 1) rfl ?_
          refine ws_lstore cx dX9_commonDivisor_42 (by decide) (lv' := [(6, .long (x4 - x4 / x6 * x6)), (4, .long x6), (9, .long (x4 - x4 / x6 * x6)), (8, .int x8)]) rfl ?_
          refine ws_iinc cx dX9_commonDivisor_44 (j := 3) rfl (v := x8 + (1 : Int32)) rfl (by decide) (lv' := [(8, .int (x8 + (1 : Int32))), (6, .long (x4 - x4 / x6 * x6)), (4, .long x6), (9, .long (x4 - x4 / x6 * x6))]) rfl ?_
          refine ws_goto cx dX9_commonDivisor_47 (tgt := 15) (by decide) ?_
          refine ws_sub [2, 1, 0] (lv' := [(4, .long x6), (6, .long (x4 - x4 / x6 * x6)), (8, .int (x8 + (1 : Int32)))]) rfl ?_
          exact ih _ _ _ _ hM
  unfold mX9_commonDivisor at hM
  refine ws_lload_n cx dX9_commonDivisor_0 rfl (j := 0) rfl ?_
  obtain ⟨q4, h5, hM⟩ := bnd hM
  refine ws_callS cx (rest := []) (st' := [.long q4.1]) (kJ9_abs_067f4 l D b h5) mvJ9_abs_067f4 lkX9_242 rfl ⟨by decide, by decide⟩ (Nat.le_of_ble_eq_true rfl) ⟨rfl, rfl⟩ (Or.inl ⟨rfl, rfl⟩) rfl rfl dX9_commonDivisor_1 ?_
  refine ws_lstore cx dX9_commonDivisor_4 (by decide) (lv' := [(4, .long q4.1), (0, .long a0), (2, .long a1)]) rfl ?_
  refine ws_lload_n cx dX9_commonDivisor_6 rfl (j := 2) rfl ?_
  obtain ⟨q6, h7, hM⟩ := bnd hM
  refine ws_callS cx (rest := []) (st' := [.long q6.1]) (kJ9_abs_067f4 l D b h7) mvJ9_abs_067f4 lkX9_242 rfl ⟨by decide, by decide⟩ (Nat.le_of_ble_eq_true rfl) ⟨rfl, rfl⟩ (Or.inl ⟨rfl, rfl⟩) rfl rfl dX9_commonDivisor_7 ?_
  refine ws_lstore cx dX9_commonDivisor_10 (by decide) (lv' := [(6, .long q6.1), (4, .long q4.1), (0, .long a0), (2, .long a1)]) rfl ?_
  refine ws_iconst cx dX9_commonDivisor_12 (v := 0) (by decide) ?_
  refine ws_istore cx dX9_commonDivisor_13 (by decide) (lv' := [(8, .int (0 : Int32)), (6, .long q6.1), (4, .long q4.1), (0, .long a0), (2, .long a1)]) rfl ?_
  refine ws_sub [2, 1, 0] (lv' := [(4, .long q4.1), (6, .long q6.1), (8, .int (0 : Int32))]) rfl ?_
  exact L15 _ _ _ _ _ hM

def mX9_upper_j23 (S : SH) (a0 : Int64) (a1 : Int64) (me : ME) (y0 : Int32) : Option (Int32 × ME) :=
  some (y0, me)
def mX9_upper (S : SH) (me : ME) (a0 : Int64) (a1 : Int64) : Option (Int32 × ME) :=
  (mX9_commonDivisor S me a0 a1).bind fun q1 =>
  if (lg_cmp q1.1 (0 : Int64)) = 0 then
    mX9_upper_j23 S a0 a1 q1.2 (0 : Int32)
  else
    if q1.1 = 0 then none else
    mX9_upper_j23 S a0 a1 q1.2 ((a0 / q1.1).toInt32)
set_option maxRecDepth 100000 in
set_option maxHeartbeats 4000000 in
theorem kX9_upper (l : Launch) (D : va_G) (b : Nat) {S : SH} {me : ME} {a0 : Int64} {a1 : Int64} {q : Int32 × ME} (hM : mX9_upper S me a0 a1 = some q) : Ct l D b yX9_upper cX9_upper 6 (some .int) 2 51 0 0 [.long a0, .long a1] S me S q.2 (some (.int q.1)) := by
  refine ct_of (own := RX9) (nm := "upper") (lv := [(0, .long a0), (2, .long a1)]) (plainFor_of_name (by decide)) rfl rfl (Nat.le_of_ble_eq_true rfl) rfl ⟨rfl, rfl⟩ (fun X cx ex hL => ?_)
  have J23 : ∀ (me : ME) (y0 : Int32), mX9_upper_j23 S a0 a1 me y0 = some q → WS X b 6 S me 23 [] [.int y0] := by
    intro  me y0 hM
    unfold mX9_upper_j23 at hM
    exact ws_iretM cx ex hM dX9_upper_23
  unfold mX9_upper at hM
  refine ws_lload_n cx dX9_upper_0 rfl (j := 0) rfl ?_
  refine ws_lload_n cx dX9_upper_1 rfl (j := 1) rfl ?_
  obtain ⟨q1, h2, hM⟩ := bnd hM
  refine ws_callS cx (rest := []) (st' := [.long q1.1]) (kX9_commonDivisor l D b h2) mvX9_commonDivisor lkX9_248 rfl ⟨by decide, by decide⟩ (Nat.le_of_ble_eq_true rfl) ⟨rfl, rfl⟩ (Or.inl ⟨rfl, rfl⟩) rfl rfl dX9_upper_2 ?_
  refine ws_lstore cx dX9_upper_5 (by decide) (lv' := [(4, .long q1.1), (0, .long a0), (2, .long a1)]) rfl ?_
  refine ws_lload cx dX9_upper_7 (j := 0) rfl ?_
  refine ws_lconst cx dX9_upper_9 (v := 0) (by decide) ?_
  refine ws_lcmp cx dX9_upper_10 ?_
  refine ws_if_ne cx dX9_upper_11 (tgt := 18) (by decide) (fun c3 => ?_) (fun c3 => ?_)
  · have hM := if_f hM c3
    refine ws_lload_n cx dX9_upper_18 rfl (j := 1) rfl ?_
    refine ws_lload cx dX9_upper_19 (j := 0) rfl ?_
    obtain ⟨h4, hM⟩ := if_n hM
    refine ws_ldiv cx h4 dX9_upper_21 ?_
    refine ws_l2i cx dX9_upper_22 ?_
    refine ws_sub [] (lv' := []) rfl ?_
    exact J23 _ _ hM
  · have hM := if_t hM c3
    refine ws_iconst cx dX9_upper_14 (v := 0) (by decide) ?_
    refine ws_goto cx dX9_upper_15 (tgt := 23) (by decide) ?_
    refine ws_sub [] (lv' := []) rfl ?_
    exact J23 _ _ hM

def mX9_lower_j23 (S : SH) (a0 : Int64) (a1 : Int64) (me : ME) (y0 : Int32) : Option (Int32 × ME) :=
  some (y0, me)
def mX9_lower (S : SH) (me : ME) (a0 : Int64) (a1 : Int64) : Option (Int32 × ME) :=
  (mX9_commonDivisor S me a0 a1).bind fun q1 =>
  if (lg_cmp q1.1 (0 : Int64)) = 0 then
    mX9_lower_j23 S a0 a1 q1.2 (1 : Int32)
  else
    if q1.1 = 0 then none else
    mX9_lower_j23 S a0 a1 q1.2 ((a1 / q1.1).toInt32)
set_option maxRecDepth 100000 in
set_option maxHeartbeats 4000000 in
theorem kX9_lower (l : Launch) (D : va_G) (b : Nat) {S : SH} {me : ME} {a0 : Int64} {a1 : Int64} {q : Int32 × ME} (hM : mX9_lower S me a0 a1 = some q) : Ct l D b yX9_lower cX9_lower 6 (some .int) 2 51 0 0 [.long a0, .long a1] S me S q.2 (some (.int q.1)) := by
  refine ct_of (own := RX9) (nm := "lower") (lv := [(0, .long a0), (2, .long a1)]) (plainFor_of_name (by decide)) rfl rfl (Nat.le_of_ble_eq_true rfl) rfl ⟨rfl, rfl⟩ (fun X cx ex hL => ?_)
  have J23 : ∀ (me : ME) (y0 : Int32), mX9_lower_j23 S a0 a1 me y0 = some q → WS X b 6 S me 23 [] [.int y0] := by
    intro  me y0 hM
    unfold mX9_lower_j23 at hM
    exact ws_iretM cx ex hM dX9_lower_23
  unfold mX9_lower at hM
  refine ws_lload_n cx dX9_lower_0 rfl (j := 0) rfl ?_
  refine ws_lload_n cx dX9_lower_1 rfl (j := 1) rfl ?_
  obtain ⟨q1, h2, hM⟩ := bnd hM
  refine ws_callS cx (rest := []) (st' := [.long q1.1]) (kX9_commonDivisor l D b h2) mvX9_commonDivisor lkX9_248 rfl ⟨by decide, by decide⟩ (Nat.le_of_ble_eq_true rfl) ⟨rfl, rfl⟩ (Or.inl ⟨rfl, rfl⟩) rfl rfl dX9_lower_2 ?_
  refine ws_lstore cx dX9_lower_5 (by decide) (lv' := [(4, .long q1.1), (0, .long a0), (2, .long a1)]) rfl ?_
  refine ws_lload cx dX9_lower_7 (j := 0) rfl ?_
  refine ws_lconst cx dX9_lower_9 (v := 0) (by decide) ?_
  refine ws_lcmp cx dX9_lower_10 ?_
  refine ws_if_ne cx dX9_lower_11 (tgt := 18) (by decide) (fun c3 => ?_) (fun c3 => ?_)
  · have hM := if_f hM c3
    refine ws_lload_n cx dX9_lower_18 rfl (j := 2) rfl ?_
    refine ws_lload cx dX9_lower_19 (j := 0) rfl ?_
    obtain ⟨h4, hM⟩ := if_n hM
    refine ws_ldiv cx h4 dX9_lower_21 ?_
    refine ws_l2i cx dX9_lower_22 ?_
    refine ws_sub [] (lv' := []) rfl ?_
    exact J23 _ _ hM
  · have hM := if_t hM c3
    refine ws_iconst cx dX9_lower_14 (v := 1) (by decide) ?_
    refine ws_goto cx dX9_lower_15 (tgt := 23) (by decide) ?_
    refine ws_sub [] (lv' := []) rfl ?_
    exact J23 _ _ hM

def mX9_place_j28 (S : SH) (o : Nat) (a0 : Int32) (a1 : Int32) (me : ME) : Option (Int32 × ME) :=
  some ((-1000000000 : Int32), me)
def mX9_place (S : SH) (me : ME) (o : Nat) (a0 : Int32) (a1 : Int32) : Option (Int32 × ME) :=
  (ck S 9 o).bind fun _ => (mX9_regroup S me o).bind fun q1 =>
  (gR S 9 8 o).bind fun v4 =>
  (gI S q1.2 1 2 v4).bind fun v6 =>
  (mX9_within S q1.2 a0 (v6 - (1 : Int32))).bind fun q8 =>
  if q8.1 = 0 then
    mX9_place_j28 S o a0 a1 q8.2
  else
    (mX9_within S q8.2 a1 (5 : Int32)).bind fun q11 =>
    if q11.1 = 0 then
      mX9_place_j28 S o a0 a1 q11.2
    else
      (gR S 9 9 o).bind fun v14 =>
      (gR S 9 8 o).bind fun v16 =>
      (gR S 1 0 v16).bind fun v18 =>
      (aI S q11.2 11 v18 a0).bind fun v20 =>
      (ck S 7 v14).bind fun _ => (mX7_judge S q11.2 v14 v20).bind fun q22 =>
      if q22.1 = 0 then
        if a1 = (0 : Int32) then
          (gR S 9 9 o).bind fun v27 =>
          (gJ S q22.2 7 4 v27).bind fun v29 =>
          (gR S 9 9 o).bind fun v31 =>
          (gJ S q22.2 7 7 v31).bind fun v33 =>
          (mX9_upper S q22.2 v29 v33).bind fun q35 =>
          some (q35.1, q35.2)
        else
        if a1 = (1 : Int32) then
          (gR S 9 9 o).bind fun v38 =>
          (gJ S q22.2 7 4 v38).bind fun v40 =>
          (gR S 9 9 o).bind fun v42 =>
          (gJ S q22.2 7 7 v42).bind fun v44 =>
          (mX9_lower S q22.2 v40 v44).bind fun q46 =>
          some (q46.1, q46.2)
        else
        if a1 = (2 : Int32) then
          (gR S 9 9 o).bind fun v49 =>
          (gJ S q22.2 7 5 v49).bind fun v51 =>
          (gR S 9 9 o).bind fun v53 =>
          (gJ S q22.2 7 7 v53).bind fun v55 =>
          (mX9_upper S q22.2 v51 v55).bind fun q57 =>
          some (q57.1, q57.2)
        else
        if a1 = (3 : Int32) then
          (gR S 9 9 o).bind fun v60 =>
          (gJ S q22.2 7 5 v60).bind fun v62 =>
          (gR S 9 9 o).bind fun v64 =>
          (gJ S q22.2 7 7 v64).bind fun v66 =>
          (mX9_lower S q22.2 v62 v66).bind fun q68 =>
          some (q68.1, q68.2)
        else
        if a1 = (4 : Int32) then
          (gR S 9 9 o).bind fun v71 =>
          (gJ S q22.2 7 6 v71).bind fun v73 =>
          (gR S 9 9 o).bind fun v75 =>
          (gJ S q22.2 7 7 v75).bind fun v77 =>
          (mX9_upper S q22.2 v73 v77).bind fun q79 =>
          some (q79.1, q79.2)
        else
        (gR S 9 9 o).bind fun v81 =>
        (gJ S q22.2 7 6 v81).bind fun v83 =>
        (gR S 9 9 o).bind fun v85 =>
        (gJ S q22.2 7 7 v85).bind fun v87 =>
        (mX9_lower S q22.2 v83 v87).bind fun q89 =>
        some (q89.1, q89.2)
      else
        some ((-1000000000 : Int32), q22.2)
set_option maxRecDepth 100000 in
set_option maxHeartbeats 4000000 in
theorem kX9_place (l : Launch) (D : va_G) (b : Nat) {S : SH} {me : ME} {o : Nat} {a0 : Int32} {a1 : Int32} {q : Int32 × ME} (hM : mX9_place S me o a0 a1 = some q) : Ct l D b yX9_place cX9_place 3 (some .int) 5 116 0 0 [.ref (b + o), .int a0, .int a1] S me S q.2 (some (.int q.1)) := by
  refine ct_of (own := RX9) (nm := "place") (lv := [(0, .ref (b + o)), (1, .int a0), (2, .int a1)]) (plainFor_of_name (by decide)) rfl rfl (Nat.le_of_ble_eq_true rfl) rfl ⟨rfl, rfl⟩ (fun X cx ex hL => ?_)
  have J28 : ∀ (me : ME), mX9_place_j28 S o a0 a1 me = some q → WS X b 3 S me 28 [] [] := by
    intro  me hM
    unfold mX9_place_j28 at hM
    refine ws_ldc cx cwX9_129 dX9_place_28 ?_
    exact ws_iretM cx ex hM dX9_place_30
  unfold mX9_place at hM
  refine ws_aload_n cx dX9_place_0 rfl (j := 0) rfl ?_
  obtain ⟨_, h3, hM⟩ := bnd hM
  obtain ⟨q1, h2, hM⟩ := bnd hM
  refine ws_callV cx (rest := []) (st' := []) (kX9_regroup l D b h2) mvX9_regroup (ck_k h3) (by decide) (q := (RX9, TX9, 11)) rfl seX9_regroup lkX9_140 rfl ⟨by decide, by decide⟩ (Nat.le_of_ble_eq_true rfl) ⟨rfl, rfl⟩ (Or.inl ⟨rfl, rfl⟩) rfl rfl dX9_place_1 ?_
  refine ws_iload_n cx dX9_place_4 rfl (j := 1) rfl ?_
  refine ws_aload_n cx dX9_place_5 rfl (j := 0) rfl ?_
  obtain ⟨v4, h5, hM⟩ := bnd hM
  refine ws_getR cx ffX9_62 h5 dX9_place_6 ?_
  obtain ⟨v6, h7, hM⟩ := bnd hM
  refine ws_getI cx ffX9_160 h7 dX9_place_9 ?_
  refine ws_iconst cx dX9_place_12 (v := 1) (by decide) ?_
  refine ws_isub cx dX9_place_13 ?_
  obtain ⟨q8, h9, hM⟩ := bnd hM
  refine ws_callS cx (rest := []) (st' := [.int q8.1]) (kX9_within l D b h9) mvX9_within lkX9_84 rfl ⟨by decide, by decide⟩ (Nat.le_of_ble_eq_true rfl) ⟨rfl, rfl⟩ (Or.inl ⟨rfl, rfl⟩) rfl rfl dX9_place_14 ?_
  refine ws_if_eq cx dX9_place_17 (tgt := 28) (by decide) (fun c10 => ?_) (fun c10 => ?_)
  · have hM := if_t hM c10
    refine ws_sub [] (lv' := []) rfl ?_
    exact J28 _ hM
  · have hM := if_f hM c10
    refine ws_iload_n cx dX9_place_20 rfl (j := 2) rfl ?_
    refine ws_iconst cx dX9_place_21 (v := 5) (by decide) ?_
    obtain ⟨q11, h12, hM⟩ := bnd hM
    refine ws_callS cx (rest := []) (st' := [.int q11.1]) (kX9_within l D b h12) mvX9_within lkX9_84 rfl ⟨by decide, by decide⟩ (Nat.le_of_ble_eq_true rfl) ⟨rfl, rfl⟩ (Or.inl ⟨rfl, rfl⟩) rfl rfl dX9_place_22 ?_
    refine ws_if_ne cx dX9_place_25 (tgt := 31) (by decide) (fun c13 => ?_) (fun c13 => ?_)
    · have hM := if_f hM c13
      refine ws_aload_n cx dX9_place_31 rfl (j := 0) rfl ?_
      obtain ⟨v14, h15, hM⟩ := bnd hM
      refine ws_getR cx ffX9_71 h15 dX9_place_32 ?_
      refine ws_aload_n cx dX9_place_35 rfl (j := 0) rfl ?_
      obtain ⟨v16, h17, hM⟩ := bnd hM
      refine ws_getR cx ffX9_62 h17 dX9_place_36 ?_
      obtain ⟨v18, h19, hM⟩ := bnd hM
      refine ws_getR cx ffX9_161 h19 dX9_place_39 ?_
      refine ws_iload_n cx dX9_place_42 rfl (j := 1) rfl ?_
      obtain ⟨v20, h21, hM⟩ := bnd hM
      refine ws_iald cx h21 dX9_place_43 ?_
      obtain ⟨_, h24, hM⟩ := bnd hM
      obtain ⟨q22, h23, hM⟩ := bnd hM
      refine ws_callV cx (rest := []) (st' := [.int q22.1]) (kX7_judge l D b h23) mvX7_judge (ck_k h24) (by decide) (q := (RX7, TX7, 8)) rfl seX7_judge lkX9_170 rfl ⟨by decide, by decide⟩ (Nat.le_of_ble_eq_true rfl) ⟨rfl, rfl⟩ (Or.inl ⟨rfl, rfl⟩) rfl rfl dX9_place_44 ?_
      refine ws_if_eq cx dX9_place_47 (tgt := 53) (by decide) (fun c25 => ?_) (fun c25 => ?_)
      · have hM := if_t hM c25
        refine ws_iload_n cx dX9_place_53 rfl (j := 2) rfl ?_
        by_cases c26 : a1 = (0 : Int32)
        · have hM := if_t hM c26
          refine ws_tabIn cx dX9_place_54 (tgt := 88) (by rw [c26]; decide) (by rw [c26]; decide) (by rw [c26]; rfl) (by decide) ?_
          refine ws_aload_n cx dX9_place_88 rfl (j := 0) rfl ?_
          obtain ⟨v27, h28, hM⟩ := bnd hM
          refine ws_getR cx ffX9_71 h28 dX9_place_89 ?_
          obtain ⟨v29, h30, hM⟩ := bnd hM
          refine ws_getJ cx ffX9_195 h30 dX9_place_92 ?_
          refine ws_aload_n cx dX9_place_95 rfl (j := 0) rfl ?_
          obtain ⟨v31, h32, hM⟩ := bnd hM
          refine ws_getR cx ffX9_71 h32 dX9_place_96 ?_
          obtain ⟨v33, h34, hM⟩ := bnd hM
          refine ws_getJ cx ffX9_198 h34 dX9_place_99 ?_
          obtain ⟨q35, h36, hM⟩ := bnd hM
          refine ws_callS cx (rest := []) (st' := [.int q35.1]) (kX9_upper l D b h36) mvX9_upper lkX9_201 rfl ⟨by decide, by decide⟩ (Nat.le_of_ble_eq_true rfl) ⟨rfl, rfl⟩ (Or.inl ⟨rfl, rfl⟩) rfl rfl dX9_place_102 ?_
          exact ws_iretM cx ex hM dX9_place_105
        · have hM := if_f hM c26
          by_cases c37 : a1 = (1 : Int32)
          · have hM := if_t hM c37
            refine ws_tabIn cx dX9_place_54 (tgt := 106) (by rw [c37]; decide) (by rw [c37]; decide) (by rw [c37]; rfl) (by decide) ?_
            refine ws_aload_n cx dX9_place_106 rfl (j := 0) rfl ?_
            obtain ⟨v38, h39, hM⟩ := bnd hM
            refine ws_getR cx ffX9_71 h39 dX9_place_107 ?_
            obtain ⟨v40, h41, hM⟩ := bnd hM
            refine ws_getJ cx ffX9_195 h41 dX9_place_110 ?_
            refine ws_aload_n cx dX9_place_113 rfl (j := 0) rfl ?_
            obtain ⟨v42, h43, hM⟩ := bnd hM
            refine ws_getR cx ffX9_71 h43 dX9_place_114 ?_
            obtain ⟨v44, h45, hM⟩ := bnd hM
            refine ws_getJ cx ffX9_198 h45 dX9_place_117 ?_
            obtain ⟨q46, h47, hM⟩ := bnd hM
            refine ws_callS cx (rest := []) (st' := [.int q46.1]) (kX9_lower l D b h47) mvX9_lower lkX9_205 rfl ⟨by decide, by decide⟩ (Nat.le_of_ble_eq_true rfl) ⟨rfl, rfl⟩ (Or.inl ⟨rfl, rfl⟩) rfl rfl dX9_place_120 ?_
            exact ws_iretM cx ex hM dX9_place_123
          · have hM := if_f hM c37
            by_cases c48 : a1 = (2 : Int32)
            · have hM := if_t hM c48
              refine ws_tabIn cx dX9_place_54 (tgt := 124) (by rw [c48]; decide) (by rw [c48]; decide) (by rw [c48]; rfl) (by decide) ?_
              refine ws_aload_n cx dX9_place_124 rfl (j := 0) rfl ?_
              obtain ⟨v49, h50, hM⟩ := bnd hM
              refine ws_getR cx ffX9_71 h50 dX9_place_125 ?_
              obtain ⟨v51, h52, hM⟩ := bnd hM
              refine ws_getJ cx ffX9_207 h52 dX9_place_128 ?_
              refine ws_aload_n cx dX9_place_131 rfl (j := 0) rfl ?_
              obtain ⟨v53, h54, hM⟩ := bnd hM
              refine ws_getR cx ffX9_71 h54 dX9_place_132 ?_
              obtain ⟨v55, h56, hM⟩ := bnd hM
              refine ws_getJ cx ffX9_198 h56 dX9_place_135 ?_
              obtain ⟨q57, h58, hM⟩ := bnd hM
              refine ws_callS cx (rest := []) (st' := [.int q57.1]) (kX9_upper l D b h58) mvX9_upper lkX9_201 rfl ⟨by decide, by decide⟩ (Nat.le_of_ble_eq_true rfl) ⟨rfl, rfl⟩ (Or.inl ⟨rfl, rfl⟩) rfl rfl dX9_place_138 ?_
              exact ws_iretM cx ex hM dX9_place_141
            · have hM := if_f hM c48
              by_cases c59 : a1 = (3 : Int32)
              · have hM := if_t hM c59
                refine ws_tabIn cx dX9_place_54 (tgt := 142) (by rw [c59]; decide) (by rw [c59]; decide) (by rw [c59]; rfl) (by decide) ?_
                refine ws_aload_n cx dX9_place_142 rfl (j := 0) rfl ?_
                obtain ⟨v60, h61, hM⟩ := bnd hM
                refine ws_getR cx ffX9_71 h61 dX9_place_143 ?_
                obtain ⟨v62, h63, hM⟩ := bnd hM
                refine ws_getJ cx ffX9_207 h63 dX9_place_146 ?_
                refine ws_aload_n cx dX9_place_149 rfl (j := 0) rfl ?_
                obtain ⟨v64, h65, hM⟩ := bnd hM
                refine ws_getR cx ffX9_71 h65 dX9_place_150 ?_
                obtain ⟨v66, h67, hM⟩ := bnd hM
                refine ws_getJ cx ffX9_198 h67 dX9_place_153 ?_
                obtain ⟨q68, h69, hM⟩ := bnd hM
                refine ws_callS cx (rest := []) (st' := [.int q68.1]) (kX9_lower l D b h69) mvX9_lower lkX9_205 rfl ⟨by decide, by decide⟩ (Nat.le_of_ble_eq_true rfl) ⟨rfl, rfl⟩ (Or.inl ⟨rfl, rfl⟩) rfl rfl dX9_place_156 ?_
                exact ws_iretM cx ex hM dX9_place_159
              · have hM := if_f hM c59
                by_cases c70 : a1 = (4 : Int32)
                · have hM := if_t hM c70
                  refine ws_tabIn cx dX9_place_54 (tgt := 160) (by rw [c70]; decide) (by rw [c70]; decide) (by rw [c70]; rfl) (by decide) ?_
                  refine ws_aload_n cx dX9_place_160 rfl (j := 0) rfl ?_
                  obtain ⟨v71, h72, hM⟩ := bnd hM
                  refine ws_getR cx ffX9_71 h72 dX9_place_161 ?_
                  obtain ⟨v73, h74, hM⟩ := bnd hM
                  refine ws_getJ cx ffX9_209 h74 dX9_place_164 ?_
                  refine ws_aload_n cx dX9_place_167 rfl (j := 0) rfl ?_
                  obtain ⟨v75, h76, hM⟩ := bnd hM
                  refine ws_getR cx ffX9_71 h76 dX9_place_168 ?_
                  obtain ⟨v77, h78, hM⟩ := bnd hM
                  refine ws_getJ cx ffX9_198 h78 dX9_place_171 ?_
                  obtain ⟨q79, h80, hM⟩ := bnd hM
                  refine ws_callS cx (rest := []) (st' := [.int q79.1]) (kX9_upper l D b h80) mvX9_upper lkX9_201 rfl ⟨by decide, by decide⟩ (Nat.le_of_ble_eq_true rfl) ⟨rfl, rfl⟩ (Or.inl ⟨rfl, rfl⟩) rfl rfl dX9_place_174 ?_
                  exact ws_iretM cx ex hM dX9_place_177
                · have hM := if_f hM c70
                  refine ws_tabOut cx dX9_place_54 (tgt := 178) (by have := lv_neT c26 (show ((0 : Int32)).toInt = 0 from rfl); have := lv_neT c37 (show ((1 : Int32)).toInt = 1 from rfl); have := lv_neT c48 (show ((2 : Int32)).toInt = 2 from rfl); have := lv_neT c59 (show ((3 : Int32)).toInt = 3 from rfl); have := lv_neT c70 (show ((4 : Int32)).toInt = 4 from rfl); omega) (by decide) ?_
                  refine ws_aload_n cx dX9_place_178 rfl (j := 0) rfl ?_
                  obtain ⟨v81, h82, hM⟩ := bnd hM
                  refine ws_getR cx ffX9_71 h82 dX9_place_179 ?_
                  obtain ⟨v83, h84, hM⟩ := bnd hM
                  refine ws_getJ cx ffX9_209 h84 dX9_place_182 ?_
                  refine ws_aload_n cx dX9_place_185 rfl (j := 0) rfl ?_
                  obtain ⟨v85, h86, hM⟩ := bnd hM
                  refine ws_getR cx ffX9_71 h86 dX9_place_186 ?_
                  obtain ⟨v87, h88, hM⟩ := bnd hM
                  refine ws_getJ cx ffX9_198 h88 dX9_place_189 ?_
                  obtain ⟨q89, h90, hM⟩ := bnd hM
                  refine ws_callS cx (rest := []) (st' := [.int q89.1]) (kX9_lower l D b h90) mvX9_lower lkX9_205 rfl ⟨by decide, by decide⟩ (Nat.le_of_ble_eq_true rfl) ⟨rfl, rfl⟩ (Or.inl ⟨rfl, rfl⟩) rfl rfl dX9_place_192 ?_
                  exact ws_iretM cx ex hM dX9_place_195
      · have hM := if_f hM c25
        refine ws_ldc cx cwX9_129 dX9_place_50 ?_
        exact ws_iretM cx ex hM dX9_place_52
    · have hM := if_t hM c13
      refine ws_sub [] (lv' := []) rfl ?_
      exact J28 _ hM

def mX9_verdict_j18 (S : SH) (o : Nat) (a0 : Int32) (me : ME) : Option (Int32 × ME) :=
  some ((-1 : Int32), me)
def mX9_verdict (S : SH) (me : ME) (o : Nat) (a0 : Int32) : Option (Int32 × ME) :=
  if a0 < (1 : Int32) then
    mX9_verdict_j18 S o a0 me
  else
    (gR S 9 3 o).bind fun v2 =>
    (gI S me 2 3 v2).bind fun v4 =>
    if a0 < ((1 : Int32) <<< (v4 &&& 31)) then
      (gR S 9 7 o).bind fun v7 =>
      (gR S 9 2 o).bind fun v9 =>
      (gR S 9 3 o).bind fun v11 =>
      (ck S 5 v7).bind fun _ => (mX5_take S me v7 v9 v11).bind fun q13 =>
      (gR S 9 9 o).bind fun v16 =>
      (ck S 7 v16).bind fun _ => (mX7_judge S q13.2 v16 a0).bind fun q18 =>
      some (q18.1, q18.2)
    else
      mX9_verdict_j18 S o a0 me
set_option maxRecDepth 100000 in
set_option maxHeartbeats 4000000 in
theorem kX9_verdict (l : Launch) (D : va_G) (b : Nat) {S : SH} {me : ME} {o : Nat} {a0 : Int32} {q : Int32 × ME} (hM : mX9_verdict S me o a0 = some q) : Ct l D b yX9_verdict cX9_verdict 2 (some .int) 5 113 0 0 [.ref (b + o), .int a0] S me S q.2 (some (.int q.1)) := by
  refine ct_of (own := RX9) (nm := "verdict") (lv := [(0, .ref (b + o)), (1, .int a0)]) (plainFor_of_name (by decide)) rfl rfl (Nat.le_of_ble_eq_true rfl) rfl ⟨rfl, rfl⟩ (fun X cx ex hL => ?_)
  have J18 : ∀ (me : ME), mX9_verdict_j18 S o a0 me = some q → WS X b 2 S me 18 [] [] := by
    intro  me hM
    unfold mX9_verdict_j18 at hM
    refine ws_iconst cx dX9_verdict_18 (v := -1) (by decide) ?_
    exact ws_iretM cx ex hM dX9_verdict_19
  unfold mX9_verdict at hM
  refine ws_iload_n cx dX9_verdict_0 rfl (j := 1) rfl ?_
  refine ws_iconst cx dX9_verdict_1 (v := 1) (by decide) ?_
  refine ws_icmp_lt cx dX9_verdict_2 (tgt := 18) (by decide) (fun c1 => ?_) (fun c1 => ?_)
  · have hM := if_t hM c1
    refine ws_sub [] (lv' := []) rfl ?_
    exact J18 _ hM
  · have hM := if_f hM c1
    refine ws_iload_n cx dX9_verdict_5 rfl (j := 1) rfl ?_
    refine ws_iconst cx dX9_verdict_6 (v := 1) (by decide) ?_
    refine ws_aload_n cx dX9_verdict_7 rfl (j := 0) rfl ?_
    obtain ⟨v2, h3, hM⟩ := bnd hM
    refine ws_getR cx ffX9_33 h3 dX9_verdict_8 ?_
    obtain ⟨v4, h5, hM⟩ := bnd hM
    refine ws_getI cx ffX9_146 h5 dX9_verdict_11 ?_
    refine ws_ishl cx dX9_verdict_14 ?_
    refine ws_icmp_lt cx dX9_verdict_15 (tgt := 20) (by decide) (fun c6 => ?_) (fun c6 => ?_)
    · have hM := if_t hM c6
      refine ws_aload_n cx dX9_verdict_20 rfl (j := 0) rfl ?_
      obtain ⟨v7, h8, hM⟩ := bnd hM
      refine ws_getR cx ffX9_55 h8 dX9_verdict_21 ?_
      refine ws_aload_n cx dX9_verdict_24 rfl (j := 0) rfl ?_
      obtain ⟨v9, h10, hM⟩ := bnd hM
      refine ws_getR cx ffX9_26 h10 dX9_verdict_25 ?_
      refine ws_aload_n cx dX9_verdict_28 rfl (j := 0) rfl ?_
      obtain ⟨v11, h12, hM⟩ := bnd hM
      refine ws_getR cx ffX9_33 h12 dX9_verdict_29 ?_
      obtain ⟨_, h15, hM⟩ := bnd hM
      obtain ⟨q13, h14, hM⟩ := bnd hM
      refine ws_callV cx (rest := []) (st' := []) (kX5_take l D b h14) mvX5_take (ck_k h15) (by decide) (q := (RX5, TX5, 5)) rfl seX5_take lkX9_212 rfl ⟨by decide, by decide⟩ (Nat.le_of_ble_eq_true rfl) ⟨rfl, rfl⟩ (Or.inl ⟨rfl, rfl⟩) rfl rfl dX9_verdict_32 ?_
      refine ws_aload_n cx dX9_verdict_35 rfl (j := 0) rfl ?_
      obtain ⟨v16, h17, hM⟩ := bnd hM
      refine ws_getR cx ffX9_71 h17 dX9_verdict_36 ?_
      refine ws_iload_n cx dX9_verdict_39 rfl (j := 1) rfl ?_
      obtain ⟨_, h20, hM⟩ := bnd hM
      obtain ⟨q18, h19, hM⟩ := bnd hM
      refine ws_callV cx (rest := []) (st' := [.int q18.1]) (kX7_judge l D b h19) mvX7_judge (ck_k h20) (by decide) (q := (RX7, TX7, 8)) rfl seX7_judge lkX9_170 rfl ⟨by decide, by decide⟩ (Nat.le_of_ble_eq_true rfl) ⟨rfl, rfl⟩ (Or.inl ⟨rfl, rfl⟩) rfl rfl dX9_verdict_40 ?_
      exact ws_iretM cx ex hM dX9_verdict_43
    · have hM := if_f hM c6
      refine ws_sub [] (lv' := []) rfl ?_
      exact J18 _ hM

def mX9_toldAt (S : SH) (me : ME) (a0 : Int32) (a1 : Int32) : Option (Int32 × ME) :=
  if a0 = (1 : Int32) then
    some (a1 + (3 : Int32), me)
  else
  if a0 = (2 : Int32) then
    some (a1 - (3 : Int32), me)
  else
  if a0 = (3 : Int32) then
    some ((2 : Int32) * a1, me)
  else
  if a0 = (4 : Int32) then
    some ((60 : Int32) - a1, me)
  else
  some (a1, me)
set_option maxRecDepth 100000 in
set_option maxHeartbeats 4000000 in
theorem kX9_toldAt (l : Launch) (D : va_G) (b : Nat) {S : SH} {me : ME} {a0 : Int32} {a1 : Int32} {q : Int32 × ME} (hM : mX9_toldAt S me a0 a1 = some q) : Ct l D b yX9_toldAt cX9_toldAt 2 (some .int) 0 0 0 0 [.int a0, .int a1] S me S q.2 (some (.int q.1)) := by
  refine ct_of (own := RX9) (nm := "toldAt") (lv := [(0, .int a0), (1, .int a1)]) (plainFor_of_name (by decide)) rfl rfl (Nat.le_of_ble_eq_true rfl) rfl ⟨rfl, rfl⟩ (fun X cx ex hL => ?_)
  unfold mX9_toldAt at hM
  refine ws_iload_n cx dX9_toldAt_0 rfl (j := 0) rfl ?_
  by_cases c1 : a0 = (1 : Int32)
  · have hM := if_t hM c1
    refine ws_tabIn cx dX9_toldAt_1 (tgt := 32) (by rw [c1]; decide) (by rw [c1]; decide) (by rw [c1]; rfl) (by decide) ?_
    refine ws_iload_n cx dX9_toldAt_32 rfl (j := 1) rfl ?_
    refine ws_iconst cx dX9_toldAt_33 (v := 3) (by decide) ?_
    refine ws_iadd cx dX9_toldAt_34 ?_
    exact ws_iretM cx ex hM dX9_toldAt_35
  · have hM := if_f hM c1
    by_cases c2 : a0 = (2 : Int32)
    · have hM := if_t hM c2
      refine ws_tabIn cx dX9_toldAt_1 (tgt := 36) (by rw [c2]; decide) (by rw [c2]; decide) (by rw [c2]; rfl) (by decide) ?_
      refine ws_iload_n cx dX9_toldAt_36 rfl (j := 1) rfl ?_
      refine ws_iconst cx dX9_toldAt_37 (v := 3) (by decide) ?_
      refine ws_isub cx dX9_toldAt_38 ?_
      exact ws_iretM cx ex hM dX9_toldAt_39
    · have hM := if_f hM c2
      by_cases c3 : a0 = (3 : Int32)
      · have hM := if_t hM c3
        refine ws_tabIn cx dX9_toldAt_1 (tgt := 40) (by rw [c3]; decide) (by rw [c3]; decide) (by rw [c3]; rfl) (by decide) ?_
        refine ws_iconst cx dX9_toldAt_40 (v := 2) (by decide) ?_
        refine ws_iload_n cx dX9_toldAt_41 rfl (j := 1) rfl ?_
        refine ws_imul cx dX9_toldAt_42 ?_
        exact ws_iretM cx ex hM dX9_toldAt_43
      · have hM := if_f hM c3
        by_cases c4 : a0 = (4 : Int32)
        · have hM := if_t hM c4
          refine ws_tabIn cx dX9_toldAt_1 (tgt := 44) (by rw [c4]; decide) (by rw [c4]; decide) (by rw [c4]; rfl) (by decide) ?_
          refine ws_bipush cx dX9_toldAt_44 (v := 60) (by decide) ?_
          refine ws_iload_n cx dX9_toldAt_46 rfl (j := 1) rfl ?_
          refine ws_isub cx dX9_toldAt_47 ?_
          exact ws_iretM cx ex hM dX9_toldAt_48
        · have hM := if_f hM c4
          refine ws_tabOut cx dX9_toldAt_1 (tgt := 49) (by have := lv_neT c1 (show ((1 : Int32)).toInt = 1 from rfl); have := lv_neT c2 (show ((2 : Int32)).toInt = 2 from rfl); have := lv_neT c3 (show ((3 : Int32)).toInt = 3 from rfl); have := lv_neT c4 (show ((4 : Int32)).toInt = 4 from rfl); omega) (by decide) ?_
          refine ws_iload_n cx dX9_toldAt_49 rfl (j := 1) rfl ?_
          exact ws_iretM cx ex hM dX9_toldAt_50

def mX9_due_j26 (S : SH) (o : Nat) (a0 : Int32) (a1 : Int32) (a2 : Int32) (a3 : Int32) (a4 : Int32) (me : ME) : Option (Int32 × ME) :=
  some ((-1 : Int32), me)
def mX9_due_j47 (S : SH) (o : Nat) (a0 : Int32) (a1 : Int32) (a2 : Int32) (a3 : Int32) (a4 : Int32) (me : ME) : Option (Int32 × ME) :=
  some ((-1 : Int32), me)
def mX9_due_j131 (S : SH) (o : Nat) (a0 : Int32) (a1 : Int32) (a2 : Int32) (a3 : Int32) (a4 : Int32) (me : ME) (y0 : Int32) : Option (Int32 × ME) :=
  some (y0, me)
def mX9_due (S : SH) (me : ME) (o : Nat) (a0 : Int32) (a1 : Int32) (a2 : Int32) (a3 : Int32) (a4 : Int32) : Option (Int32 × ME) :=
  (ck S 9 o).bind fun _ => (mX9_hasStation S me o a0).bind fun q1 =>
  if q1.1 = 0 then
    mX9_due_j26 S o a0 a1 a2 a3 a4 q1.2
  else
    (mX9_within S q1.2 a1 (29 : Int32)).bind fun q5 =>
    if q5.1 = 0 then
      mX9_due_j26 S o a0 a1 a2 a3 a4 q5.2
    else
      (mX9_within S q5.2 a2 (29 : Int32)).bind fun q8 =>
      if q8.1 = 0 then
        mX9_due_j26 S o a0 a1 a2 a3 a4 q8.2
      else
        (mX9_within S q8.2 a3 (60 : Int32)).bind fun q11 =>
        if q11.1 = 0 then
          mX9_due_j47 S o a0 a1 a2 a3 a4 q11.2
        else
          (mX9_within S q11.2 a4 (1 : Int32)).bind fun q14 =>
          if q14.1 = 0 then
            mX9_due_j47 S o a0 a1 a2 a3 a4 q14.2
          else
            (gR S 9 2 o).bind fun v17 =>
            (gR S 6 0 v17).bind fun v19 =>
            (aI S q14.2 11 v19 a0).bind fun v21 =>
            (gR S 9 2 o).bind fun v23 =>
            (gR S 6 1 v23).bind fun v25 =>
            (aI S q14.2 11 v25 a0).bind fun v27 =>
            (mX9_wholeWay S q14.2 (a1 - v21) (a2 - v27)).bind fun q29 =>
            if 0 ≤ q29.1 then
              if a4 = 0 then
                some (a3 + q29.1, q29.2)
              else
                (gR S 9 3 o).bind fun v33 =>
                (gR S 2 2 v33).bind fun v35 =>
                (aI S q29.2 11 v35 a0).bind fun v37 =>
                (mX9_toldAt S q29.2 v37 (a3 + q29.1)).bind fun q39 =>
                (mX9_within S q39.2 q39.1 (60 : Int32)).bind fun q41 =>
                if q41.1 = 0 then
                  mX9_due_j131 S o a0 a1 a2 a3 a4 q41.2 (-9 : Int32)
                else
                  mX9_due_j131 S o a0 a1 a2 a3 a4 q41.2 q39.1
            else
              some ((-9 : Int32), q29.2)
set_option maxRecDepth 100000 in
set_option maxHeartbeats 4000000 in
theorem kX9_due (l : Launch) (D : va_G) (b : Nat) {S : SH} {me : ME} {o : Nat} {a0 : Int32} {a1 : Int32} {a2 : Int32} {a3 : Int32} {a4 : Int32} {q : Int32 × ME} (hM : mX9_due S me o a0 a1 a2 a3 a4 = some q) : Ct l D b yX9_due cX9_due 8 (some .int) 2 42 0 0 [.ref (b + o), .int a0, .int a1, .int a2, .int a3, .int a4] S me S q.2 (some (.int q.1)) := by
  refine ct_of (own := RX9) (nm := "due") (lv := [(0, .ref (b + o)), (1, .int a0), (2, .int a1), (3, .int a2), (4, .int a3), (5, .int a4)]) (plainFor_of_name (by decide)) rfl rfl (Nat.le_of_ble_eq_true rfl) rfl ⟨rfl, rfl⟩ (fun X cx ex hL => ?_)
  have J26 : ∀ (me : ME), mX9_due_j26 S o a0 a1 a2 a3 a4 me = some q → WS X b 8 S me 26 [] [] := by
    intro  me hM
    unfold mX9_due_j26 at hM
    refine ws_iconst cx dX9_due_26 (v := -1) (by decide) ?_
    exact ws_iretM cx ex hM dX9_due_27
  have J47 : ∀ (me : ME), mX9_due_j47 S o a0 a1 a2 a3 a4 me = some q → WS X b 8 S me 47 [] [] := by
    intro  me hM
    unfold mX9_due_j47 at hM
    refine ws_iconst cx dX9_due_47 (v := -1) (by decide) ?_
    exact ws_iretM cx ex hM dX9_due_48
  have J131 : ∀ (me : ME) (y0 : Int32), mX9_due_j131 S o a0 a1 a2 a3 a4 me y0 = some q → WS X b 8 S me 131 [] [.int y0] := by
    intro  me y0 hM
    unfold mX9_due_j131 at hM
    exact ws_iretM cx ex hM dX9_due_131
  unfold mX9_due at hM
  refine ws_aload_n cx dX9_due_0 rfl (j := 0) rfl ?_
  refine ws_iload_n cx dX9_due_1 rfl (j := 1) rfl ?_
  obtain ⟨_, h3, hM⟩ := bnd hM
  obtain ⟨q1, h2, hM⟩ := bnd hM
  refine ws_callV cx (rest := []) (st' := [.int q1.1]) (kX9_hasStation l D b h2) mvX9_hasStation (ck_k h3) (by decide) (q := (RX9, TX9, 11)) rfl seX9_hasStation lkX9_113 rfl ⟨by decide, by decide⟩ (Nat.le_of_ble_eq_true rfl) ⟨rfl, rfl⟩ (Or.inl ⟨rfl, rfl⟩) rfl rfl dX9_due_2 ?_
  refine ws_if_eq cx dX9_due_5 (tgt := 26) (by decide) (fun c4 => ?_) (fun c4 => ?_)
  · have hM := if_t hM c4
    refine ws_sub [] (lv' := []) rfl ?_
    exact J26 _ hM
  · have hM := if_f hM c4
    refine ws_iload_n cx dX9_due_8 rfl (j := 2) rfl ?_
    refine ws_bipush cx dX9_due_9 (v := 29) (by decide) ?_
    obtain ⟨q5, h6, hM⟩ := bnd hM
    refine ws_callS cx (rest := []) (st' := [.int q5.1]) (kX9_within l D b h6) mvX9_within lkX9_84 rfl ⟨by decide, by decide⟩ (Nat.le_of_ble_eq_true rfl) ⟨rfl, rfl⟩ (Or.inl ⟨rfl, rfl⟩) rfl rfl dX9_due_11 ?_
    refine ws_if_eq cx dX9_due_14 (tgt := 26) (by decide) (fun c7 => ?_) (fun c7 => ?_)
    · have hM := if_t hM c7
      refine ws_sub [] (lv' := []) rfl ?_
      exact J26 _ hM
    · have hM := if_f hM c7
      refine ws_iload_n cx dX9_due_17 rfl (j := 3) rfl ?_
      refine ws_bipush cx dX9_due_18 (v := 29) (by decide) ?_
      obtain ⟨q8, h9, hM⟩ := bnd hM
      refine ws_callS cx (rest := []) (st' := [.int q8.1]) (kX9_within l D b h9) mvX9_within lkX9_84 rfl ⟨by decide, by decide⟩ (Nat.le_of_ble_eq_true rfl) ⟨rfl, rfl⟩ (Or.inl ⟨rfl, rfl⟩) rfl rfl dX9_due_20 ?_
      refine ws_if_ne cx dX9_due_23 (tgt := 28) (by decide) (fun c10 => ?_) (fun c10 => ?_)
      · have hM := if_f hM c10
        refine ws_iload cx dX9_due_28 (j := 4) rfl ?_
        refine ws_bipush cx dX9_due_30 (v := 60) (by decide) ?_
        obtain ⟨q11, h12, hM⟩ := bnd hM
        refine ws_callS cx (rest := []) (st' := [.int q11.1]) (kX9_within l D b h12) mvX9_within lkX9_84 rfl ⟨by decide, by decide⟩ (Nat.le_of_ble_eq_true rfl) ⟨rfl, rfl⟩ (Or.inl ⟨rfl, rfl⟩) rfl rfl dX9_due_32 ?_
        refine ws_if_eq cx dX9_due_35 (tgt := 47) (by decide) (fun c13 => ?_) (fun c13 => ?_)
        · have hM := if_t hM c13
          refine ws_sub [] (lv' := []) rfl ?_
          exact J47 _ hM
        · have hM := if_f hM c13
          refine ws_iload cx dX9_due_38 (j := 5) rfl ?_
          refine ws_iconst cx dX9_due_40 (v := 1) (by decide) ?_
          obtain ⟨q14, h15, hM⟩ := bnd hM
          refine ws_callS cx (rest := []) (st' := [.int q14.1]) (kX9_within l D b h15) mvX9_within lkX9_84 rfl ⟨by decide, by decide⟩ (Nat.le_of_ble_eq_true rfl) ⟨rfl, rfl⟩ (Or.inl ⟨rfl, rfl⟩) rfl rfl dX9_due_41 ?_
          refine ws_if_ne cx dX9_due_44 (tgt := 49) (by decide) (fun c16 => ?_) (fun c16 => ?_)
          · have hM := if_f hM c16
            refine ws_iload_n cx dX9_due_49 rfl (j := 2) rfl ?_
            refine ws_aload_n cx dX9_due_50 rfl (j := 0) rfl ?_
            obtain ⟨v17, h18, hM⟩ := bnd hM
            refine ws_getR cx ffX9_26 h18 dX9_due_51 ?_
            obtain ⟨v19, h20, hM⟩ := bnd hM
            refine ws_getR cx ffX9_116 h20 dX9_due_54 ?_
            refine ws_iload_n cx dX9_due_57 rfl (j := 1) rfl ?_
            obtain ⟨v21, h22, hM⟩ := bnd hM
            refine ws_iald cx h22 dX9_due_58 ?_
            refine ws_isub cx dX9_due_59 ?_
            refine ws_iload_n cx dX9_due_60 rfl (j := 3) rfl ?_
            refine ws_aload_n cx dX9_due_61 rfl (j := 0) rfl ?_
            obtain ⟨v23, h24, hM⟩ := bnd hM
            refine ws_getR cx ffX9_26 h24 dX9_due_62 ?_
            obtain ⟨v25, h26, hM⟩ := bnd hM
            refine ws_getR cx ffX9_120 h26 dX9_due_65 ?_
            refine ws_iload_n cx dX9_due_68 rfl (j := 1) rfl ?_
            obtain ⟨v27, h28, hM⟩ := bnd hM
            refine ws_iald cx h28 dX9_due_69 ?_
            refine ws_isub cx dX9_due_70 ?_
            obtain ⟨q29, h30, hM⟩ := bnd hM
            refine ws_callS cx (rest := []) (st' := [.int q29.1]) (kX9_wholeWay l D b h30) mvX9_wholeWay lkX9_216 rfl ⟨by decide, by decide⟩ (Nat.le_of_ble_eq_true rfl) ⟨rfl, rfl⟩ (Or.inl ⟨rfl, rfl⟩) rfl rfl dX9_due_71 ?_
            refine ws_istore cx dX9_due_74 (by decide) (lv' := [(6, .int q29.1), (0, .ref (b + o)), (1, .int a0), (2, .int a1), (3, .int a2), (4, .int a3), (5, .int a4)]) rfl ?_
            refine ws_iload cx dX9_due_76 (j := 0) rfl ?_
            refine ws_if_ge cx dX9_due_78 (tgt := 84) (by decide) (fun c31 => ?_) (fun c31 => ?_)
            · have hM := if_t hM c31
              refine ws_iload cx dX9_due_84 (j := 6) rfl ?_
              refine ws_if_ne cx dX9_due_86 (tgt := 95) (by decide) (fun c32 => ?_) (fun c32 => ?_)
              · have hM := if_f hM c32
                refine ws_aload_n cx dX9_due_95 rfl (j := 1) rfl ?_
                obtain ⟨v33, h34, hM⟩ := bnd hM
                refine ws_getR cx ffX9_33 h34 dX9_due_96 ?_
                obtain ⟨v35, h36, hM⟩ := bnd hM
                refine ws_getR cx ffX9_123 h36 dX9_due_99 ?_
                refine ws_iload_n cx dX9_due_102 rfl (j := 2) rfl ?_
                obtain ⟨v37, h38, hM⟩ := bnd hM
                refine ws_iald cx h38 dX9_due_103 ?_
                refine ws_iload cx dX9_due_104 (j := 5) rfl ?_
                refine ws_iload cx dX9_due_106 (j := 0) rfl ?_
                refine ws_iadd cx dX9_due_108 ?_
                obtain ⟨q39, h40, hM⟩ := bnd hM
                refine ws_callS cx (rest := []) (st' := [.int q39.1]) (kX9_toldAt l D b h40) mvX9_toldAt lkX9_219 rfl ⟨by decide, by decide⟩ (Nat.le_of_ble_eq_true rfl) ⟨rfl, rfl⟩ (Or.inl ⟨rfl, rfl⟩) rfl rfl dX9_due_109 ?_
                refine ws_istore cx dX9_due_112 (by decide) (lv' := [(7, .int q39.1), (6, .int q29.1), (0, .ref (b + o)), (1, .int a0), (2, .int a1), (3, .int a2), (4, .int a3), (5, .int a4)]) rfl ?_
                refine ws_iload cx dX9_due_114 (j := 0) rfl ?_
                refine ws_bipush cx dX9_due_116 (v := 60) (by decide) ?_
                obtain ⟨q41, h42, hM⟩ := bnd hM
                refine ws_callS cx (rest := []) (st' := [.int q41.1]) (kX9_within l D b h42) mvX9_within lkX9_84 rfl ⟨by decide, by decide⟩ (Nat.le_of_ble_eq_true rfl) ⟨rfl, rfl⟩ (Or.inl ⟨rfl, rfl⟩) rfl rfl dX9_due_118 ?_
                refine ws_if_eq cx dX9_due_121 (tgt := 129) (by decide) (fun c43 => ?_) (fun c43 => ?_)
                · have hM := if_t hM c43
                  refine ws_bipush cx dX9_due_129 (v := -9) (by decide) ?_
                  refine ws_sub [] (lv' := []) rfl ?_
                  exact J131 _ _ hM
                · have hM := if_f hM c43
                  refine ws_iload cx dX9_due_124 (j := 0) rfl ?_
                  refine ws_goto cx dX9_due_126 (tgt := 131) (by decide) ?_
                  refine ws_sub [] (lv' := []) rfl ?_
                  exact J131 _ _ hM
              · have hM := if_t hM c32
                refine ws_iload cx dX9_due_89 (j := 5) rfl ?_
                refine ws_iload cx dX9_due_91 (j := 0) rfl ?_
                refine ws_iadd cx dX9_due_93 ?_
                exact ws_iretM cx ex hM dX9_due_94
            · have hM := if_f hM c31
              refine ws_bipush cx dX9_due_81 (v := -9) (by decide) ?_
              exact ws_iretM cx ex hM dX9_due_83
          · have hM := if_t hM c16
            refine ws_sub [] (lv' := []) rfl ?_
            exact J47 _ hM
      · have hM := if_t hM c10
        refine ws_sub [] (lv' := []) rfl ?_
        exact J26 _ hM

def mX9_power_j22 (S : SH) (a0 : Int32) (a1 : Int32) (me : ME) (x2 : Int64) : Option (Int64 × ME) :=
  some (x2, me)
def mX9_power_L5 (S : SH) (a0 : Int32) (a1 : Int32) (k5 : (ME × Int64 × Int32 → Option (Int64 × ME))) : ME × Int64 × Int32 → Option (Int64 × ME)
  | (me, x2, x4) =>
    if a1 ≤ x4 then
      mX9_power_j22 S a0 a1 me x2
    else
      k5 (me, x2 * a0.toInt64, x4 + (1 : Int32))
def mX9_power (S : SH) (me : ME) (a0 : Int32) (a1 : Int32) : Option (Int64 × ME) :=
  lpn (mX9_power_L5 S a0 a1) lpF (me, (1 : Int64), (0 : Int32))
set_option maxRecDepth 100000 in
set_option maxHeartbeats 4000000 in
theorem kX9_power (l : Launch) (D : va_G) (b : Nat) {S : SH} {me : ME} {a0 : Int32} {a1 : Int32} {q : Int64 × ME} (hM : mX9_power S me a0 a1 = some q) : Ct l D b yX9_power cX9_power 5 (some .long) 0 0 0 0 [.int a0, .int a1] S me S q.2 (some (.long q.1)) := by
  refine ct_of (own := RX9) (nm := "power") (lv := [(0, .int a0), (1, .int a1)]) (plainFor_of_name (by decide)) rfl rfl (Nat.le_of_ble_eq_true rfl) rfl ⟨rfl, rfl⟩ (fun X cx ex hL => ?_)
  have J22 : ∀ (me : ME) (x2 : Int64), mX9_power_j22 S a0 a1 me x2 = some q → WS X b 5 S me 22 [(2, .long x2)] [] := by
    intro  me x2 hM
    unfold mX9_power_j22 at hM
    refine ws_lload_n cx dX9_power_22 rfl (j := 0) rfl ?_
    exact ws_lretM cx ex hM dX9_power_23
  have L5 : ∀ (n : Nat) (me : ME) (x2 : Int64) (x4 : Int32), lpn (mX9_power_L5 S a0 a1) n (me, x2, x4) = some q → WS X b 5 S me 5 [(0, .int a0), (1, .int a1), (2, .long x2), (4, .int x4)] [] := by
    intro  n
    induction n with
    | zero => intro me x2 x4 hM; exact absurd hM (by intro h; cases h)
    | succ n ih =>
      intro me x2 x4 hM
      have hM : mX9_power_L5 S a0 a1 (lpn (mX9_power_L5 S a0 a1) n) (me, x2, x4) = some q := hM
      unfold mX9_power_L5 at hM
      refine ws_iload cx dX9_power_5 (j := 3) rfl ?_
      refine ws_iload_n cx dX9_power_7 rfl (j := 1) rfl ?_
      refine ws_icmp_ge cx dX9_power_8 (tgt := 22) (by decide) (fun c1 => ?_) (fun c1 => ?_)
      · have hM := if_t hM c1
        refine ws_sub [2] (lv' := [(2, .long x2)]) rfl ?_
        exact J22 _ _ hM
      · have hM := if_f hM c1
        refine ws_lload_n cx dX9_power_11 rfl (j := 2) rfl ?_
        refine ws_iload_n cx dX9_power_12 rfl (j := 0) rfl ?_
        refine ws_i2l cx dX9_power_13 ?_
        refine ws_lmul cx dX9_power_14 ?_
        refine ws_lstore_n cx dX9_power_15 rfl (by decide) (lv' := [(2, .long (x2 * a0.toInt64)), (0, .int a0), (1, .int a1), (4, .int x4)]) rfl ?_
        refine ws_iinc cx dX9_power_16 (j := 3) rfl (v := x4 + (1 : Int32)) rfl (by decide) (lv' := [(4, .int (x4 + (1 : Int32))), (2, .long (x2 * a0.toInt64)), (0, .int a0), (1, .int a1)]) rfl ?_
        refine ws_goto cx dX9_power_19 (tgt := 5) (by decide) ?_
        refine ws_sub [2, 3, 1, 0] (lv' := [(0, .int a0), (1, .int a1), (2, .long (x2 * a0.toInt64)), (4, .int (x4 + (1 : Int32)))]) rfl ?_
        exact ih _ _ _ hM
  unfold mX9_power at hM
  refine ws_lconst cx dX9_power_0 (v := 1) (by decide) ?_
  refine ws_lstore_n cx dX9_power_1 rfl (by decide) (lv' := [(2, .long (1 : Int64)), (0, .int a0), (1, .int a1)]) rfl ?_
  refine ws_iconst cx dX9_power_2 (v := 0) (by decide) ?_
  refine ws_istore cx dX9_power_3 (by decide) (lv' := [(4, .int (0 : Int32)), (2, .long (1 : Int64)), (0, .int a0), (1, .int a1)]) rfl ?_
  refine ws_sub [2, 3, 1, 0] (lv' := [(0, .int a0), (1, .int a1), (2, .long (1 : Int64)), (4, .int (0 : Int32))]) rfl ?_
  exact L5 _ _ _ _ hM
