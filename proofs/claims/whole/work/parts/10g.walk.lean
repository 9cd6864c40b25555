def mX0_sureCases_j76 (S : SH) (o : Nat) (a0 : Int32) (a1 : Int32) (k11 : (ME × Int32 × Int64 × Int32 → Option (Int64 × ME))) (me : ME) (x3 : Int32) (x4 : Int64) (x6 : Int32) : Option (Int64 × ME) :=
  k11 (me, x3, x4, x6 + (1 : Int32))
def mX0_sureCases_j82 (S : SH) (o : Nat) (a0 : Int32) (a1 : Int32) (me : ME) (x4 : Int64) : Option (Int64 × ME) :=
  some (x4, me)
def mX0_sureCases_L11 (S : SH) (o : Nat) (a0 : Int32) (a1 : Int32) (k11 : (ME × Int32 × Int64 × Int32 → Option (Int64 × ME))) : ME × Int32 × Int64 × Int32 → Option (Int64 × ME)
  | (me, x3, x4, x6) =>
    if (512 : Int32) ≤ x6 then
      mX0_sureCases_j82 S o a0 a1 me x4
    else
      (mJ6_bitCount_0f7a4 S me x6).bind fun q2 =>
      if q2.1 < (4 : Int32) then
        mX0_sureCases_j76 S o a0 a1 k11 q2.2 x3 x4 x6
      else
        if (x6 &&& (a0 ^^^ (-1 : Int32))) = 0 then
          (gR S 0 1 o).bind fun v6 =>
          (ck S 7 v6).bind fun _ => (mX7_judge S q2.2 v6 x6).bind fun q8 =>
          if q8.1 = 0 then
            (mX9_power S q8.2 ((10 : Int32) - a1) q2.1).bind fun q12 =>
            (mX9_power S q12.2 a1 (x3 - q2.1)).bind fun q14 =>
            mX0_sureCases_j76 S o a0 a1 k11 q14.2 x3 (x4 + (q12.1 * q14.1)) x6
          else
            mX0_sureCases_j76 S o a0 a1 k11 q8.2 x3 x4 x6
        else
          mX0_sureCases_j76 S o a0 a1 k11 q2.2 x3 x4 x6
def mX0_sureCases (S : SH) (me : ME) (o : Nat) (a0 : Int32) (a1 : Int32) : Option (Int64 × ME) :=
  (mJ6_bitCount_0f7a4 S me a0).bind fun q16 =>
  lpn (mX0_sureCases_L11 S o a0 a1) lpF (q16.2, q16.1, (0 : Int64), (0 : Int32))
set_option maxRecDepth 100000 in
set_option maxHeartbeats 4000000 in
theorem kX0_sureCases (l : Launch) (D : va_G) (b : Nat) {S : SH} {me : ME} {o : Nat} {a0 : Int32} {a1 : Int32} {q : Int64 × ME} (hM : mX0_sureCases S me o a0 a1 = some q) : Ct l D b yX0_sureCases cX0_sureCases 8 (some .long) 5 113 0 0 [.ref (b + o), .int a0, .int a1] S me S q.2 (some (.long q.1)) := by
  refine ct_of (own := RX0) (nm := "sureCases") (lv := [(0, .ref (b + o)), (1, .int a0), (2, .int a1)]) (plainFor_of_name (by decide)) rfl rfl (Nat.le_of_ble_eq_true rfl) rfl ⟨rfl, rfl⟩ (fun X cx ex hL => ?_)
  have J76 : ∀ (k11 : (ME × Int32 × Int64 × Int32 → Option (Int64 × ME))), (∀ (me : ME) (x3 : Int32) (x4 : Int64) (x6 : Int32), k11 (me, x3, x4, x6) = some q → WS X b 8 S me 11 [(0, .ref (b + o)), (1, .int a0), (2, .int a1), (3, .int x3), (4, .long x4), (6, .int x6)] []) → ∀ (me : ME) (x3 : Int32) (x4 : Int64) (x6 : Int32), mX0_sureCases_j76 S o a0 a1 k11 me x3 x4 x6 = some q → WS X b 8 S me 76 [(0, .ref (b + o)), (1, .int a0), (2, .int a1), (3, .int x3), (4, .long x4), (6, .int x6)] [] := by
    intro k11 hk11 me x3 x4 x6 hM
    unfold mX0_sureCases_j76 at hM
    refine ws_iinc cx dX0_sureCases_76 (j := 5) rfl (v := x6 + (1 : Int32)) rfl (by decide) (lv' := [(6, .int (x6 + (1 : Int32))), (0, .ref (b + o)), (1, .int a0), (2, .int a1), (3, .int x3), (4, .long x4)]) rfl ?_
    refine ws_goto cx dX0_sureCases_79 (tgt := 11) (by decide) ?_
    refine ws_sub [1, 2, 3, 4, 5, 0] (lv' := [(0, .ref (b + o)), (1, .int a0), (2, .int a1), (3, .int x3), (4, .long x4), (6, .int (x6 + (1 : Int32)))]) rfl ?_
    exact hk11 _ _ _ _ hM
  have J82 : ∀ (me : ME) (x4 : Int64), mX0_sureCases_j82 S o a0 a1 me x4 = some q → WS X b 8 S me 82 [(4, .long x4)] [] := by
    intro  me x4 hM
    unfold mX0_sureCases_j82 at hM
    refine ws_lload cx dX0_sureCases_82 (j := 0) rfl ?_
    exact ws_lretM cx ex hM dX0_sureCases_84
  have L11 : ∀ (n : Nat) (me : ME) (x3 : Int32) (x4 : Int64) (x6 : Int32), lpn (mX0_sureCases_L11 S o a0 a1) n (me, x3, x4, x6) = some q → WS X b 8 S me 11 [(0, .ref (b + o)), (1, .int a0), (2, .int a1), (3, .int x3), (4, .long x4), (6, .int x6)] [] := by
    intro  n
    induction n with
    | zero => intro me x3 x4 x6 hM; exact absurd hM (by intro h; cases h)
    | succ n ih =>
      intro me x3 x4 x6 hM
      have hM : mX0_sureCases_L11 S o a0 a1 (lpn (mX0_sureCases_L11 S o a0 a1) n) (me, x3, x4, x6) = some q := hM
      unfold mX0_sureCases_L11 at hM
      refine ws_iload cx dX0_sureCases_11 (j := 5) rfl ?_
      refine ws_sipush cx dX0_sureCases_13 (v := 512) (by decide) ?_
      refine ws_icmp_ge cx dX0_sureCases_16 (tgt := 82) (by decide) (fun c1 => ?_) (fun c1 => ?_)
      · have hM := if_t hM c1
        refine ws_sub [4] (lv' := [(4, .long x4)]) rfl ?_
        exact J82 _ _ hM
      · have hM := if_f hM c1
        refine ws_iload cx dX0_sureCases_19 (j := 5) rfl ?_
        obtain ⟨q2, h3, hM⟩ := bnd hM
        refine ws_callS cx (rest := []) (st' := [.int q2.1]) (kJ6_bitCount_0f7a4 l D b h3) mvJ6_bitCount_0f7a4 lkX0_29 rfl ⟨by decide, by decide⟩ (Nat.le_of_ble_eq_true rfl) ⟨rfl, rfl⟩ (Or.inl ⟨rfl, rfl⟩) rfl rfl dX0_sureCases_21 ?_
        refine ws_istore cx dX0_sureCases_24 (by decide) (lv' := [(7, .int q2.1), (0, .ref (b + o)), (1, .int a0), (2, .int a1), (3, .int x3), (4, .long x4), (6, .int x6)]) rfl ?_
        refine ws_iload cx dX0_sureCases_26 (j := 0) rfl ?_
        refine ws_iconst cx dX0_sureCases_28 (v := 4) (by decide) ?_
        refine ws_icmp_lt cx dX0_sureCases_29 (tgt := 76) (by decide) (fun c4 => ?_) (fun c4 => ?_)
        · have hM := if_t hM c4
          refine ws_sub [1, 2, 3, 4, 5, 6] (lv' := [(0, .ref (b + o)), (1, .int a0), (2, .int a1), (3, .int x3), (4, .long x4), (6, .int x6)]) rfl ?_
          exact J76 _ ih _ _ _ _ hM
        · have hM := if_f hM c4
          refine ws_iload cx dX0_sureCases_32 (j := 6) rfl ?_
          refine ws_iload_n cx dX0_sureCases_34 rfl (j := 2) rfl ?_
          refine ws_iconst cx dX0_sureCases_35 (v := -1) (by decide) ?_
          refine ws_ixor cx dX0_sureCases_36 ?_
          refine ws_iand cx dX0_sureCases_37 ?_
          refine ws_if_ne cx dX0_sureCases_38 (tgt := 76) (by decide) (fun c5 => ?_) (fun c5 => ?_)
          · have hM := if_f hM c5
            refine ws_sub [1, 2, 3, 4, 5, 6] (lv' := [(0, .ref (b + o)), (1, .int a0), (2, .int a1), (3, .int x3), (4, .long x4), (6, .int x6)]) rfl ?_
            exact J76 _ ih _ _ _ _ hM
          · have hM := if_t hM c5
            refine ws_aload_n cx dX0_sureCases_41 rfl (j := 1) rfl ?_
            obtain ⟨v6, h7, hM⟩ := bnd hM
            refine ws_getR cx ffX0_15 h7 dX0_sureCases_42 ?_
            refine ws_iload cx dX0_sureCases_45 (j := 6) rfl ?_
            obtain ⟨_, h10, hM⟩ := bnd hM
            obtain ⟨q8, h9, hM⟩ := bnd hM
            refine ws_callV cx (rest := []) (st' := [.int q8.1]) (kX7_judge l D b h9) mvX7_judge (ck_k h10) (by decide) (q := (RX7, TX7, 8)) rfl seX7_judge lkX0_23 rfl ⟨by decide, by decide⟩ (Nat.le_of_ble_eq_true rfl) ⟨rfl, rfl⟩ (Or.inl ⟨rfl, rfl⟩) rfl rfl dX0_sureCases_47 ?_
            refine ws_if_ne cx dX0_sureCases_50 (tgt := 76) (by decide) (fun c11 => ?_) (fun c11 => ?_)
            · have hM := if_f hM c11
              refine ws_sub [1, 2, 3, 4, 5, 6] (lv' := [(0, .ref (b + o)), (1, .int a0), (2, .int a1), (3, .int x3), (4, .long x4), (6, .int x6)]) rfl ?_
              exact J76 _ ih _ _ _ _ hM
            · have hM := if_t hM c11
              refine ws_lload cx dX0_sureCases_53 (j := 5) rfl ?_
              refine ws_bipush cx dX0_sureCases_55 (v := 10) (by decide) ?_
              refine ws_iload_n cx dX0_sureCases_57 rfl (j := 3) rfl ?_
              refine ws_isub cx dX0_sureCases_58 ?_
              refine ws_iload cx dX0_sureCases_59 (j := 0) rfl ?_
              obtain ⟨q12, h13, hM⟩ := bnd hM
              refine ws_callSN cx (rest := [.long x4]) (st' := [.long q12.1, .long x4]) (kX9_power l D b h13) mvX9_power lnX0_114 rfl ⟨by decide, by decide⟩ (Nat.le_of_ble_eq_true rfl) ⟨rfl, rfl⟩ (Or.inl ⟨rfl, rfl⟩) rfl rfl dX0_sureCases_61 ?_
              refine ws_iload_n cx dX0_sureCases_64 rfl (j := 3) rfl ?_
              refine ws_iload_n cx dX0_sureCases_65 rfl (j := 4) rfl ?_
              refine ws_iload cx dX0_sureCases_66 (j := 0) rfl ?_
              refine ws_isub cx dX0_sureCases_68 ?_
              obtain ⟨q14, h15, hM⟩ := bnd hM
              refine ws_callSN cx (rest := [.long q12.1, .long x4]) (st' := [.long q14.1, .long q12.1, .long x4]) (kX9_power l D b h15) mvX9_power lnX0_114 rfl ⟨by decide, by decide⟩ (Nat.le_of_ble_eq_true rfl) ⟨rfl, rfl⟩ (Or.inl ⟨rfl, rfl⟩) rfl rfl dX0_sureCases_69 ?_
              refine ws_lmul cx dX0_sureCases_72 ?_
              refine ws_ladd cx dX0_sureCases_73 ?_
              refine ws_lstore cx dX0_sureCases_74 (by decide) (lv' := [(4, .long (x4 + (q12.1 * q14.1))), (7, .int q2.1), (0, .ref (b + o)), (1, .int a0), (2, .int a1), (3, .int x3), (6, .int x6)]) rfl ?_
              refine ws_sub [2, 3, 4, 5, 0, 6] (lv' := [(0, .ref (b + o)), (1, .int a0), (2, .int a1), (3, .int x3), (4, .long (x4 + (q12.1 * q14.1))), (6, .int x6)]) rfl ?_
              exact J76 _ ih _ _ _ _ hM
  unfold mX0_sureCases at hM
  refine ws_iload_n cx dX0_sureCases_0 rfl (j := 1) rfl ?_
  obtain ⟨q16, h17, hM⟩ := bnd hM
  refine ws_callS cx (rest := []) (st' := [.int q16.1]) (kJ6_bitCount_0f7a4 l D b h17) mvJ6_bitCount_0f7a4 lkX0_29 rfl ⟨by decide, by decide⟩ (Nat.le_of_ble_eq_true rfl) ⟨rfl, rfl⟩ (Or.inl ⟨rfl, rfl⟩) rfl rfl dX0_sureCases_1 ?_
  refine ws_istore_n cx dX0_sureCases_4 rfl (by decide) (lv' := [(3, .int q16.1), (0, .ref (b + o)), (1, .int a0), (2, .int a1)]) rfl ?_
  refine ws_lconst cx dX0_sureCases_5 (v := 0) (by decide) ?_
  refine ws_lstore cx dX0_sureCases_6 (by decide) (lv' := [(4, .long (0 : Int64)), (3, .int q16.1), (0, .ref (b + o)), (1, .int a0), (2, .int a1)]) rfl ?_
  refine ws_iconst cx dX0_sureCases_8 (v := 0) (by decide) ?_
  refine ws_istore cx dX0_sureCases_9 (by decide) (lv' := [(6, .int (0 : Int32)), (4, .long (0 : Int64)), (3, .int q16.1), (0, .ref (b + o)), (1, .int a0), (2, .int a1)]) rfl ?_
  refine ws_sub [3, 4, 5, 2, 1, 0] (lv' := [(0, .ref (b + o)), (1, .int a0), (2, .int a1), (3, .int q16.1), (4, .long (0 : Int64)), (6, .int (0 : Int32))]) rfl ?_
  exact L11 _ _ _ _ _ hM

def mX9_odds_j37 (S : SH) (o : Nat) (a0 : Int32) (a1 : Int32) (a2 : Int32) (me : ME) : Option (Int32 × ME) :=
  some ((-1 : Int32), me)
def mX9_odds_j95 (S : SH) (o : Nat) (a0 : Int32) (a1 : Int32) (a2 : Int32) (me : ME) (y0 : Int32) : Option (Int32 × ME) :=
  some (y0, me)
def mX9_odds (S : SH) (me : ME) (o : Nat) (a0 : Int32) (a1 : Int32) (a2 : Int32) : Option (Int32 × ME) :=
  (ck S 9 o).bind fun _ => (mX9_regroup S me o).bind fun q1 =>
  (gR S 9 8 o).bind fun v4 =>
  (gI S q1.2 1 2 v4).bind fun v6 =>
  (mX9_within S q1.2 a0 (v6 - (1 : Int32))).bind fun q8 =>
  if q8.1 = 0 then
    mX9_odds_j37 S o a0 a1 a2 q8.2
  else
    (mX9_within S q8.2 a1 (10 : Int32)).bind fun q11 =>
    if q11.1 = 0 then
      mX9_odds_j37 S o a0 a1 a2 q11.2
    else
      (mX9_within S q11.2 a2 (1 : Int32)).bind fun q14 =>
      if q14.1 = 0 then
        mX9_odds_j37 S o a0 a1 a2 q14.2
      else
        (gR S 9 8 o).bind fun v17 =>
        (gR S 1 0 v17).bind fun v19 =>
        (aI S q14.2 11 v19 a0).bind fun v21 =>
        (mJ6_bitCount_0f7a4 S q14.2 v21).bind fun q23 =>
        (mX9_power S q23.2 (10 : Int32) q23.1).bind fun q25 =>
        (gR S 9 10 o).bind fun v27 =>
        (ck S 0 v27).bind fun _ => (mX0_sureCases S q25.2 v27 v21 a1).bind fun q29 =>
        if a2 = 0 then
          (mX9_upper S q29.2 q29.1 q25.1).bind fun q35 =>
          mX9_odds_j95 S o a0 a1 a2 q35.2 q35.1
        else
          (mX9_lower S q29.2 q29.1 q25.1).bind fun q33 =>
          mX9_odds_j95 S o a0 a1 a2 q33.2 q33.1
set_option maxRecDepth 100000 in
set_option maxHeartbeats 4000000 in
theorem kX9_odds (l : Launch) (D : va_G) (b : Nat) {S : SH} {me : ME} {o : Nat} {a0 : Int32} {a1 : Int32} {a2 : Int32} {q : Int32 × ME} (hM : mX9_odds S me o a0 a1 a2 = some q) : Ct l D b yX9_odds cX9_odds 9 (some .int) 6 140 0 0 [.ref (b + o), .int a0, .int a1, .int a2] S me S q.2 (some (.int q.1)) := by
  refine ct_of (own := RX9) (nm := "odds") (lv := [(0, .ref (b + o)), (1, .int a0), (2, .int a1), (3, .int a2)]) (plainFor_of_name (by decide)) rfl rfl (Nat.le_of_ble_eq_true rfl) rfl ⟨rfl, rfl⟩ (fun X cx ex hL => ?_)
  have J37 : ∀ (me : ME), mX9_odds_j37 S o a0 a1 a2 me = some q → WS X b 9 S me 37 [] [] := by
    intro  me hM
    unfold mX9_odds_j37 at hM
    refine ws_iconst cx dX9_odds_37 (v := -1) (by decide) ?_
    exact ws_iretM cx ex hM dX9_odds_38
  have J95 : ∀ (me : ME) (y0 : Int32), mX9_odds_j95 S o a0 a1 a2 me y0 = some q → WS X b 9 S me 95 [] [.int y0] := by
    intro  me y0 hM
    unfold mX9_odds_j95 at hM
    exact ws_iretM cx ex hM dX9_odds_95
  unfold mX9_odds at hM
  refine ws_aload_n cx dX9_odds_0 rfl (j := 0) rfl ?_
  obtain ⟨_, h3, hM⟩ := bnd hM
  obtain ⟨q1, h2, hM⟩ := bnd hM
  refine ws_callV cx (rest := []) (st' := []) (kX9_regroup l D b h2) mvX9_regroup (ck_k h3) (by decide) (q := (RX9, TX9, 11)) rfl seX9_regroup lkX9_140 rfl ⟨by decide, by decide⟩ (Nat.le_of_ble_eq_true rfl) ⟨rfl, rfl⟩ (Or.inl ⟨rfl, rfl⟩) rfl rfl dX9_odds_1 ?_
  refine ws_iload_n cx dX9_odds_4 rfl (j := 1) rfl ?_
  refine ws_aload_n cx dX9_odds_5 rfl (j := 0) rfl ?_
  obtain ⟨v4, h5, hM⟩ := bnd hM
  refine ws_getR cx ffX9_62 h5 dX9_odds_6 ?_
  obtain ⟨v6, h7, hM⟩ := bnd hM
  refine ws_getI cx ffX9_160 h7 dX9_odds_9 ?_
  refine ws_iconst cx dX9_odds_12 (v := 1) (by decide) ?_
  refine ws_isub cx dX9_odds_13 ?_
  obtain ⟨q8, h9, hM⟩ := bnd hM
  refine ws_callS cx (rest := []) (st' := [.int q8.1]) (kX9_within l D b h9) mvX9_within lkX9_84 rfl ⟨by decide, by decide⟩ (Nat.le_of_ble_eq_true rfl) ⟨rfl, rfl⟩ (Or.inl ⟨rfl, rfl⟩) rfl rfl dX9_odds_14 ?_
  refine ws_if_eq cx dX9_odds_17 (tgt := 37) (by decide) (fun c10 => ?_) (fun c10 => ?_)
  · have hM := if_t hM c10
    refine ws_sub [] (lv' := []) rfl ?_
    exact J37 _ hM
  · have hM := if_f hM c10
    refine ws_iload_n cx dX9_odds_20 rfl (j := 2) rfl ?_
    refine ws_bipush cx dX9_odds_21 (v := 10) (by decide) ?_
    obtain ⟨q11, h12, hM⟩ := bnd hM
    refine ws_callS cx (rest := []) (st' := [.int q11.1]) (kX9_within l D b h12) mvX9_within lkX9_84 rfl ⟨by decide, by decide⟩ (Nat.le_of_ble_eq_true rfl) ⟨rfl, rfl⟩ (Or.inl ⟨rfl, rfl⟩) rfl rfl dX9_odds_23 ?_
    refine ws_if_eq cx dX9_odds_26 (tgt := 37) (by decide) (fun c13 => ?_) (fun c13 => ?_)
    · have hM := if_t hM c13
      refine ws_sub [] (lv' := []) rfl ?_
      exact J37 _ hM
    · have hM := if_f hM c13
      refine ws_iload_n cx dX9_odds_29 rfl (j := 3) rfl ?_
      refine ws_iconst cx dX9_odds_30 (v := 1) (by decide) ?_
      obtain ⟨q14, h15, hM⟩ := bnd hM
      refine ws_callS cx (rest := []) (st' := [.int q14.1]) (kX9_within l D b h15) mvX9_within lkX9_84 rfl ⟨by decide, by decide⟩ (Nat.le_of_ble_eq_true rfl) ⟨rfl, rfl⟩ (Or.inl ⟨rfl, rfl⟩) rfl rfl dX9_odds_31 ?_
      refine ws_if_ne cx dX9_odds_34 (tgt := 39) (by decide) (fun c16 => ?_) (fun c16 => ?_)
      · have hM := if_f hM c16
        refine ws_aload_n cx dX9_odds_39 rfl (j := 0) rfl ?_
        obtain ⟨v17, h18, hM⟩ := bnd hM
        refine ws_getR cx ffX9_62 h18 dX9_odds_40 ?_
        obtain ⟨v19, h20, hM⟩ := bnd hM
        refine ws_getR cx ffX9_161 h20 dX9_odds_43 ?_
        refine ws_iload_n cx dX9_odds_46 rfl (j := 1) rfl ?_
        obtain ⟨v21, h22, hM⟩ := bnd hM
        refine ws_iald cx h22 dX9_odds_47 ?_
        refine ws_istore cx dX9_odds_48 (by decide) (lv' := [(4, .int v21), (0, .ref (b + o)), (1, .int a0), (2, .int a1), (3, .int a2)]) rfl ?_
        refine ws_bipush cx dX9_odds_50 (v := 10) (by decide) ?_
        refine ws_iload cx dX9_odds_52 (j := 0) rfl ?_
        obtain ⟨q23, h24, hM⟩ := bnd hM
        refine ws_callS cx (rest := [.int (10 : Int32)]) (st' := [.int q23.1, .int (10 : Int32)]) (kJ6_bitCount_0f7a4 l D b h24) mvJ6_bitCount_0f7a4 lkX9_222 rfl ⟨by decide, by decide⟩ (Nat.le_of_ble_eq_true rfl) ⟨rfl, rfl⟩ (Or.inl ⟨rfl, rfl⟩) rfl rfl dX9_odds_54 ?_
        obtain ⟨q25, h26, hM⟩ := bnd hM
        refine ws_callS cx (rest := []) (st' := [.long q25.1]) (kX9_power l D b h26) mvX9_power lkX9_227 rfl ⟨by decide, by decide⟩ (Nat.le_of_ble_eq_true rfl) ⟨rfl, rfl⟩ (Or.inl ⟨rfl, rfl⟩) rfl rfl dX9_odds_57 ?_
        refine ws_lstore cx dX9_odds_60 (by decide) (lv' := [(5, .long q25.1), (4, .int v21), (0, .ref (b + o)), (1, .int a0), (2, .int a1), (3, .int a2)]) rfl ?_
        refine ws_aload_n cx dX9_odds_62 rfl (j := 2) rfl ?_
        obtain ⟨v27, h28, hM⟩ := bnd hM
        refine ws_getR cx ffX9_80 h28 dX9_odds_63 ?_
        refine ws_iload cx dX9_odds_66 (j := 1) rfl ?_
        refine ws_iload_n cx dX9_odds_68 rfl (j := 4) rfl ?_
        obtain ⟨_, h31, hM⟩ := bnd hM
        obtain ⟨q29, h30, hM⟩ := bnd hM
        refine ws_callV cx (rest := []) (st' := [.long q29.1]) (kX0_sureCases l D b h30) mvX0_sureCases (ck_k h31) (by decide) (q := (RX0, TX0, 6)) rfl seX0_sureCases lkX9_231 rfl ⟨by decide, by decide⟩ (Nat.le_of_ble_eq_true rfl) ⟨rfl, rfl⟩ (Or.inl ⟨rfl, rfl⟩) rfl rfl dX9_odds_69 ?_
        refine ws_lstore cx dX9_odds_72 (by decide) (lv' := [(7, .long q29.1), (5, .long q25.1), (4, .int v21), (0, .ref (b + o)), (1, .int a0), (2, .int a1), (3, .int a2)]) rfl ?_
        refine ws_iload_n cx dX9_odds_74 rfl (j := 6) rfl ?_
        refine ws_if_ne cx dX9_odds_75 (tgt := 88) (by decide) (fun c32 => ?_) (fun c32 => ?_)
        · have hM := if_f hM c32
          refine ws_lload cx dX9_odds_88 (j := 0) rfl ?_
          refine ws_lload cx dX9_odds_90 (j := 1) rfl ?_
          obtain ⟨q33, h34, hM⟩ := bnd hM
          refine ws_callS cx (rest := []) (st' := [.int q33.1]) (kX9_lower l D b h34) mvX9_lower lkX9_205 rfl ⟨by decide, by decide⟩ (Nat.le_of_ble_eq_true rfl) ⟨rfl, rfl⟩ (Or.inl ⟨rfl, rfl⟩) rfl rfl dX9_odds_92 ?_
          refine ws_sub [] (lv' := []) rfl ?_
          exact J95 _ _ hM
        · have hM := if_t hM c32
          refine ws_lload cx dX9_odds_78 (j := 0) rfl ?_
          refine ws_lload cx dX9_odds_80 (j := 1) rfl ?_
          obtain ⟨q35, h36, hM⟩ := bnd hM
          refine ws_callS cx (rest := []) (st' := [.int q35.1]) (kX9_upper l D b h36) mvX9_upper lkX9_201 rfl ⟨by decide, by decide⟩ (Nat.le_of_ble_eq_true rfl) ⟨rfl, rfl⟩ (Or.inl ⟨rfl, rfl⟩) rfl rfl dX9_odds_82 ?_
          refine ws_goto cx dX9_odds_85 (tgt := 95) (by decide) ?_
          refine ws_sub [] (lv' := []) rfl ?_
          exact J95 _ _ hM
      · have hM := if_t hM c16
        refine ws_sub [] (lv' := []) rfl ?_
        exact J37 _ hM

def mX9_keep (S : SH) (me : ME) (o : Nat) (a0 : Int32) : Option (Int32 × ME) :=
  (mX9_within S me a0 (1 : Int32)).bind fun q1 =>
  if q1.1 = 0 then
    some ((-1 : Int32), q1.2)
  else
    (gR S 9 5 o).bind fun v4 =>
    (aR S 14 v4 a0).bind fun v6 =>
    (gR S 9 3 o).bind fun v8 =>
    (ck S 2 v6).bind fun _ => (mX2_copy S q1.2 v6 v8).bind fun q10 =>
    (gR S 9 6 o).bind fun v13 =>
    (uZ S q10.2 v13 a0 (1 : Int32)).bind fun m16 =>
    (gR S 9 3 o).bind fun v17 =>
    (gI S m16 2 3 v17).bind fun v19 =>
    some (v19, m16)
set_option maxRecDepth 100000 in
set_option maxHeartbeats 4000000 in
theorem kX9_keep (l : Launch) (D : va_G) (b : Nat) {S : SH} {me : ME} {o : Nat} {a0 : Int32} {q : Int32 × ME} (hM : mX9_keep S me o a0 = some q) : Ct l D b yX9_keep cX9_keep 2 (some .int) 2 39 0 0 [.ref (b + o), .int a0] S me S q.2 (some (.int q.1)) := by
  refine ct_of (own := RX9) (nm := "keep") (lv := [(0, .ref (b + o)), (1, .int a0)]) (plainFor_of_name (by decide)) rfl rfl (Nat.le_of_ble_eq_true rfl) rfl ⟨rfl, rfl⟩ (fun X cx ex hL => ?_)
  unfold mX9_keep at hM
  refine ws_iload_n cx dX9_keep_0 rfl (j := 1) rfl ?_
  refine ws_iconst cx dX9_keep_1 (v := 1) (by decide) ?_
  obtain ⟨q1, h2, hM⟩ := bnd hM
  refine ws_callS cx (rest := []) (st' := [.int q1.1]) (kX9_within l D b h2) mvX9_within lkX9_84 rfl ⟨by decide, by decide⟩ (Nat.le_of_ble_eq_true rfl) ⟨rfl, rfl⟩ (Or.inl ⟨rfl, rfl⟩) rfl rfl dX9_keep_2 ?_
  refine ws_if_ne cx dX9_keep_5 (tgt := 10) (by decide) (fun c3 => ?_) (fun c3 => ?_)
  · have hM := if_f hM c3
    refine ws_aload_n cx dX9_keep_10 rfl (j := 0) rfl ?_
    obtain ⟨v4, h5, hM⟩ := bnd hM
    refine ws_getR cx ffX9_44 h5 dX9_keep_11 ?_
    refine ws_iload_n cx dX9_keep_14 rfl (j := 1) rfl ?_
    obtain ⟨v6, h7, hM⟩ := bnd hM
    refine ws_aald cx (by decide) h7 dX9_keep_15 ?_
    refine ws_aload_n cx dX9_keep_16 rfl (j := 0) rfl ?_
    obtain ⟨v8, h9, hM⟩ := bnd hM
    refine ws_getR cx ffX9_33 h9 dX9_keep_17 ?_
    obtain ⟨_, h12, hM⟩ := bnd hM
    obtain ⟨q10, h11, hM⟩ := bnd hM
    refine ws_callV cx (rest := []) (st' := []) (kX2_copy l D b h11) mvX2_copy (ck_k h12) (by decide) (q := (RX2, TX2, 4)) rfl seX2_copy lkX9_106 rfl ⟨by decide, by decide⟩ (Nat.le_of_ble_eq_true rfl) ⟨rfl, rfl⟩ (Or.inl ⟨rfl, rfl⟩) rfl rfl dX9_keep_20 ?_
    refine ws_aload_n cx dX9_keep_23 rfl (j := 0) rfl ?_
    obtain ⟨v13, h14, hM⟩ := bnd hM
    refine ws_getR cx ffX9_48 h14 dX9_keep_24 ?_
    refine ws_iload_n cx dX9_keep_27 rfl (j := 1) rfl ?_
    refine ws_iconst cx dX9_keep_28 (v := 1) (by decide) ?_
    obtain ⟨m16, h15, hM⟩ := bnd hM
    refine ws_zast cx h15 dX9_keep_29 ?_
    refine ws_aload_n cx dX9_keep_30 rfl (j := 0) rfl ?_
    obtain ⟨v17, h18, hM⟩ := bnd hM
    refine ws_getR cx ffX9_33 h18 dX9_keep_31 ?_
    obtain ⟨v19, h20, hM⟩ := bnd hM
    refine ws_getI cx ffX9_146 h20 dX9_keep_34 ?_
    exact ws_iretM cx ex hM dX9_keep_37
  · have hM := if_t hM c3
    refine ws_iconst cx dX9_keep_8 (v := -1) (by decide) ?_
    exact ws_iretM cx ex hM dX9_keep_9

def mX9_back (S : SH) (me : ME) (o : Nat) (a0 : Int32) : Option (Int32 × ME) :=
  (mX9_within S me a0 (1 : Int32)).bind fun q1 =>
  if q1.1 = 0 then
    some ((-1 : Int32), q1.2)
  else
    (gR S 9 6 o).bind fun v4 =>
    (aI S q1.2 13 v4 a0).bind fun v6 =>
    if v6 = 0 then
      some ((-2 : Int32), q1.2)
    else
      (gR S 9 3 o).bind fun v9 =>
      (gR S 9 5 o).bind fun v11 =>
      (aR S 14 v11 a0).bind fun v13 =>
      (ck S 2 v9).bind fun _ => (mX2_copy S q1.2 v9 v13).bind fun q15 =>
      (gR S 9 4 o).bind fun v18 =>
      (sI S q15.2 4 2 v18 (0 : Int32)).bind fun m21 =>
      (gR S 9 3 o).bind fun v22 =>
      (gI S m21 2 3 v22).bind fun v24 =>
      some (v24, m21)
set_option maxRecDepth 100000 in
set_option maxHeartbeats 4000000 in
theorem kX9_back (l : Launch) (D : va_G) (b : Nat) {S : SH} {me : ME} {o : Nat} {a0 : Int32} {q : Int32 × ME} (hM : mX9_back S me o a0 = some q) : Ct l D b yX9_back cX9_back 2 (some .int) 2 39 0 0 [.ref (b + o), .int a0] S me S q.2 (some (.int q.1)) := by
  refine ct_of (own := RX9) (nm := "back") (lv := [(0, .ref (b + o)), (1, .int a0)]) (plainFor_of_name (by decide)) rfl rfl (Nat.le_of_ble_eq_true rfl) rfl ⟨rfl, rfl⟩ (fun X cx ex hL => ?_)
  unfold mX9_back at hM
  refine ws_iload_n cx dX9_back_0 rfl (j := 1) rfl ?_
  refine ws_iconst cx dX9_back_1 (v := 1) (by decide) ?_
  obtain ⟨q1, h2, hM⟩ := bnd hM
  refine ws_callS cx (rest := []) (st' := [.int q1.1]) (kX9_within l D b h2) mvX9_within lkX9_84 rfl ⟨by decide, by decide⟩ (Nat.le_of_ble_eq_true rfl) ⟨rfl, rfl⟩ (Or.inl ⟨rfl, rfl⟩) rfl rfl dX9_back_2 ?_
  refine ws_if_ne cx dX9_back_5 (tgt := 10) (by decide) (fun c3 => ?_) (fun c3 => ?_)
  · have hM := if_f hM c3
    refine ws_aload_n cx dX9_back_10 rfl (j := 0) rfl ?_
    obtain ⟨v4, h5, hM⟩ := bnd hM
    refine ws_getR cx ffX9_48 h5 dX9_back_11 ?_
    refine ws_iload_n cx dX9_back_14 rfl (j := 1) rfl ?_
    obtain ⟨v6, h7, hM⟩ := bnd hM
    refine ws_zald cx h7 dX9_back_15 ?_
    refine ws_if_ne cx dX9_back_16 (tgt := 22) (by decide) (fun c8 => ?_) (fun c8 => ?_)
    · have hM := if_f hM c8
      refine ws_aload_n cx dX9_back_22 rfl (j := 0) rfl ?_
      obtain ⟨v9, h10, hM⟩ := bnd hM
      refine ws_getR cx ffX9_33 h10 dX9_back_23 ?_
      refine ws_aload_n cx dX9_back_26 rfl (j := 0) rfl ?_
      obtain ⟨v11, h12, hM⟩ := bnd hM
      refine ws_getR cx ffX9_44 h12 dX9_back_27 ?_
      refine ws_iload_n cx dX9_back_30 rfl (j := 1) rfl ?_
      obtain ⟨v13, h14, hM⟩ := bnd hM
      refine ws_aald cx (by decide) h14 dX9_back_31 ?_
      obtain ⟨_, h17, hM⟩ := bnd hM
      obtain ⟨q15, h16, hM⟩ := bnd hM
      refine ws_callV cx (rest := []) (st' := []) (kX2_copy l D b h16) mvX2_copy (ck_k h17) (by decide) (q := (RX2, TX2, 4)) rfl seX2_copy lkX9_106 rfl ⟨by decide, by decide⟩ (Nat.le_of_ble_eq_true rfl) ⟨rfl, rfl⟩ (Or.inl ⟨rfl, rfl⟩) rfl rfl dX9_back_32 ?_
      refine ws_aload_n cx dX9_back_35 rfl (j := 0) rfl ?_
      obtain ⟨v18, h19, hM⟩ := bnd hM
      refine ws_getR cx ffX9_40 h19 dX9_back_36 ?_
      refine ws_iconst cx dX9_back_39 (v := 0) (by decide) ?_
      obtain ⟨m21, h20, hM⟩ := bnd hM
      refine ws_putI cx ffX9_109 h20 dX9_back_40 ?_
      refine ws_aload_n cx dX9_back_43 rfl (j := 0) rfl ?_
      obtain ⟨v22, h23, hM⟩ := bnd hM
      refine ws_getR cx ffX9_33 h23 dX9_back_44 ?_
      obtain ⟨v24, h25, hM⟩ := bnd hM
      refine ws_getI cx ffX9_146 h25 dX9_back_47 ?_
      exact ws_iretM cx ex hM dX9_back_50
    · have hM := if_t hM c8
      refine ws_bipush cx dX9_back_19 (v := -2) (by decide) ?_
      exact ws_iretM cx ex hM dX9_back_21
  · have hM := if_t hM c3
    refine ws_iconst cx dX9_back_8 (v := -1) (by decide) ?_
    exact ws_iretM cx ex hM dX9_back_9

def mX9_sureGroups_j41 (S : SH) (o : Nat) (k8 : (ME × Int32 × Int32 → Option (Int32 × ME))) (me : ME) (x1 : Int32) (x2 : Int32) : Option (Int32 × ME) :=
  k8 (me, x1, x2 + (1 : Int32))
def mX9_sureGroups_j47 (S : SH) (o : Nat) (me : ME) (x1 : Int32) : Option (Int32 × ME) :=
  some (x1, me)
def mX9_sureGroups_L8 (S : SH) (o : Nat) (k8 : (ME × Int32 × Int32 → Option (Int32 × ME))) : ME × Int32 × Int32 → Option (Int32 × ME)
  | (me, x1, x2) =>
    (gR S 9 8 o).bind fun v1 =>
    (gI S me 1 2 v1).bind fun v3 =>
    if v3 ≤ x2 then
      mX9_sureGroups_j47 S o me x1
    else
      (gR S 9 9 o).bind fun v6 =>
      (gR S 9 8 o).bind fun v8 =>
      (gR S 1 0 v8).bind fun v10 =>
      (aI S me 11 v10 x2).bind fun v12 =>
      (ck S 7 v6).bind fun _ => (mX7_judge S me v6 v12).bind fun q14 =>
      if q14.1 = 0 then
        mX9_sureGroups_j41 S o k8 q14.2 (x1 + (1 : Int32)) x2
      else
        mX9_sureGroups_j41 S o k8 q14.2 x1 x2
def mX9_sureGroups (S : SH) (me : ME) (o : Nat) : Option (Int32 × ME) :=
  (ck S 9 o).bind fun _ => (mX9_regroup S me o).bind fun q18 =>
  lpn (mX9_sureGroups_L8 S o) lpF (q18.2, (0 : Int32), (0 : Int32))
set_option maxRecDepth 100000 in
set_option maxHeartbeats 4000000 in
theorem kX9_sureGroups (l : Launch) (D : va_G) (b : Nat) {S : SH} {me : ME} {o : Nat} {q : Int32 × ME} (hM : mX9_sureGroups S me o = some q) : Ct l D b yX9_sureGroups cX9_sureGroups 3 (some .int) 5 116 0 0 [.ref (b + o)] S me S q.2 (some (.int q.1)) := by
  refine ct_of (own := RX9) (nm := "sureGroups") (lv := [(0, .ref (b + o))]) (plainFor_of_name (by decide)) rfl rfl (Nat.le_of_ble_eq_true rfl) rfl ⟨rfl, rfl⟩ (fun X cx ex hL => ?_)
  have J41 : ∀ (k8 : (ME × Int32 × Int32 → Option (Int32 × ME))), (∀ (me : ME) (x1 : Int32) (x2 : Int32), k8 (me, x1, x2) = some q → WS X b 3 S me 8 [(0, .ref (b + o)), (1, .int x1), (2, .int x2)] []) → ∀ (me : ME) (x1 : Int32) (x2 : Int32), mX9_sureGroups_j41 S o k8 me x1 x2 = some q → WS X b 3 S me 41 [(0, .ref (b + o)), (1, .int x1), (2, .int x2)] [] := by
    intro k8 hk8 me x1 x2 hM
    unfold mX9_sureGroups_j41 at hM
    refine ws_iinc cx dX9_sureGroups_41 (j := 2) rfl (v := x2 + (1 : Int32)) rfl (by decide) (lv' := [(2, .int (x2 + (1 : Int32))), (0, .ref (b + o)), (1, .int x1)]) rfl ?_
    refine ws_goto cx dX9_sureGroups_44 (tgt := 8) (by decide) ?_
    refine ws_sub [1, 2, 0] (lv' := [(0, .ref (b + o)), (1, .int x1), (2, .int (x2 + (1 : Int32)))]) rfl ?_
    exact hk8 _ _ _ hM
  have J47 : ∀ (me : ME) (x1 : Int32), mX9_sureGroups_j47 S o me x1 = some q → WS X b 3 S me 47 [(1, .int x1)] [] := by
    intro  me x1 hM
    unfold mX9_sureGroups_j47 at hM
    refine ws_iload_n cx dX9_sureGroups_47 rfl (j := 0) rfl ?_
    exact ws_iretM cx ex hM dX9_sureGroups_48
  have L8 : ∀ (n : Nat) (me : ME) (x1 : Int32) (x2 : Int32), lpn (mX9_sureGroups_L8 S o) n (me, x1, x2) = some q → WS X b 3 S me 8 [(0, .ref (b + o)), (1, .int x1), (2, .int x2)] [] := by
    intro  n
    induction n with
    | zero => intro me x1 x2 hM; exact absurd hM (by intro h; cases h)
    | succ n ih =>
      intro me x1 x2 hM
      have hM : mX9_sureGroups_L8 S o (lpn (mX9_sureGroups_L8 S o) n) (me, x1, x2) = some q := hM
      unfold mX9_sureGroups_L8 at hM
      refine ws_iload_n cx dX9_sureGroups_8 rfl (j := 2) rfl ?_
      refine ws_aload_n cx dX9_sureGroups_9 rfl (j := 0) rfl ?_
      obtain ⟨v1, h2, hM⟩ := bnd hM
      refine ws_getR cx ffX9_62 h2 dX9_sureGroups_10 ?_
      obtain ⟨v3, h4, hM⟩ := bnd hM
      refine ws_getI cx ffX9_160 h4 dX9_sureGroups_13 ?_
      refine ws_icmp_ge cx dX9_sureGroups_16 (tgt := 47) (by decide) (fun c5 => ?_) (fun c5 => ?_)
      · have hM := if_t hM c5
        refine ws_sub [1] (lv' := [(1, .int x1)]) rfl ?_
        exact J47 _ _ hM
      · have hM := if_f hM c5
        refine ws_aload_n cx dX9_sureGroups_19 rfl (j := 0) rfl ?_
        obtain ⟨v6, h7, hM⟩ := bnd hM
        refine ws_getR cx ffX9_71 h7 dX9_sureGroups_20 ?_
        refine ws_aload_n cx dX9_sureGroups_23 rfl (j := 0) rfl ?_
        obtain ⟨v8, h9, hM⟩ := bnd hM
        refine ws_getR cx ffX9_62 h9 dX9_sureGroups_24 ?_
        obtain ⟨v10, h11, hM⟩ := bnd hM
        refine ws_getR cx ffX9_161 h11 dX9_sureGroups_27 ?_
        refine ws_iload_n cx dX9_sureGroups_30 rfl (j := 2) rfl ?_
        obtain ⟨v12, h13, hM⟩ := bnd hM
        refine ws_iald cx h13 dX9_sureGroups_31 ?_
        obtain ⟨_, h16, hM⟩ := bnd hM
        obtain ⟨q14, h15, hM⟩ := bnd hM
        refine ws_callV cx (rest := []) (st' := [.int q14.1]) (kX7_judge l D b h15) mvX7_judge (ck_k h16) (by decide) (q := (RX7, TX7, 8)) rfl seX7_judge lkX9_170 rfl ⟨by decide, by decide⟩ (Nat.le_of_ble_eq_true rfl) ⟨rfl, rfl⟩ (Or.inl ⟨rfl, rfl⟩) rfl rfl dX9_sureGroups_32 ?_
        refine ws_if_ne cx dX9_sureGroups_35 (tgt := 41) (by decide) (fun c17 => ?_) (fun c17 => ?_)
        · have hM := if_f hM c17
          refine ws_sub [0, 1, 2] (lv' := [(0, .ref (b + o)), (1, .int x1), (2, .int x2)]) rfl ?_
          exact J41 _ ih _ _ _ hM
        · have hM := if_t hM c17
          refine ws_iinc cx dX9_sureGroups_38 (j := 1) rfl (v := x1 + (1 : Int32)) rfl (by decide) (lv' := [(1, .int (x1 + (1 : Int32))), (0, .ref (b + o)), (2, .int x2)]) rfl ?_
          refine ws_sub [1, 0, 2] (lv' := [(0, .ref (b + o)), (1, .int (x1 + (1 : Int32))), (2, .int x2)]) rfl ?_
          exact J41 _ ih _ _ _ hM
  unfold mX9_sureGroups at hM
  refine ws_aload_n cx dX9_sureGroups_0 rfl (j := 0) rfl ?_
  obtain ⟨_, h20, hM⟩ := bnd hM
  obtain ⟨q18, h19, hM⟩ := bnd hM
  refine ws_callV cx (rest := []) (st' := []) (kX9_regroup l D b h19) mvX9_regroup (ck_k h20) (by decide) (q := (RX9, TX9, 11)) rfl seX9_regroup lkX9_140 rfl ⟨by decide, by decide⟩ (Nat.le_of_ble_eq_true rfl) ⟨rfl, rfl⟩ (Or.inl ⟨rfl, rfl⟩) rfl rfl dX9_sureGroups_1 ?_
  refine ws_iconst cx dX9_sureGroups_4 (v := 0) (by decide) ?_
  refine ws_istore_n cx dX9_sureGroups_5 rfl (by decide) (lv' := [(1, .int (0 : Int32)), (0, .ref (b + o))]) rfl ?_
  refine ws_iconst cx dX9_sureGroups_6 (v := 0) (by decide) ?_
  refine ws_istore_n cx dX9_sureGroups_7 rfl (by decide) (lv' := [(2, .int (0 : Int32)), (1, .int (0 : Int32)), (0, .ref (b + o))]) rfl ?_
  refine ws_sub [2, 1, 0] (lv' := [(0, .ref (b + o)), (1, .int (0 : Int32)), (2, .int (0 : Int32))]) rfl ?_
  exact L8 _ _ _ _ hM

def mX9_count (S : SH) (me : ME) (o : Nat) (a0 : Int32) : Option (Int32 × ME) :=
  if a0 = (0 : Int32) then
    (gR S 9 2 o).bind fun v2 =>
    (gI S me 6 2 v2).bind fun v4 =>
    some (v4, me)
  else
  if a0 = (1 : Int32) then
    (gR S 9 3 o).bind fun v7 =>
    (gI S me 2 3 v7).bind fun v9 =>
    some (v9, me)
  else
  if a0 = (2 : Int32) then
    (ck S 9 o).bind fun _ => (mX9_regroup S me o).bind fun q12 =>
    (gR S 9 8 o).bind fun v15 =>
    (gI S q12.2 1 2 v15).bind fun v17 =>
    some (v17, q12.2)
  else
  if a0 = (3 : Int32) then
    (ck S 9 o).bind fun _ => (mX9_sureGroups S me o).bind fun q20 =>
    some (q20.1, q20.2)
  else
  if a0 = (4 : Int32) then
    (gR S 9 0 o).bind fun v24 =>
    (gI S me 8 1 v24).bind fun v26 =>
    some (v26, me)
  else
  if a0 = (5 : Int32) then
    (gR S 9 4 o).bind fun v29 =>
    (gI S me 4 2 v29).bind fun v31 =>
    some (v31, me)
  else
  some ((-1 : Int32), me)
set_option maxRecDepth 100000 in
set_option maxHeartbeats 4000000 in
theorem kX9_count (l : Launch) (D : va_G) (b : Nat) {S : SH} {me : ME} {o : Nat} {a0 : Int32} {q : Int32 × ME} (hM : mX9_count S me o a0 = some q) : Ct l D b yX9_count cX9_count 2 (some .int) 6 138 0 0 [.ref (b + o), .int a0] S me S q.2 (some (.int q.1)) := by
  refine ct_of (own := RX9) (nm := "count") (lv := [(0, .ref (b + o)), (1, .int a0)]) (plainFor_of_name (by decide)) rfl rfl (Nat.le_of_ble_eq_true rfl) rfl ⟨rfl, rfl⟩ (fun X cx ex hL => ?_)
  unfold mX9_count at hM
  refine ws_iload_n cx dX9_count_0 rfl (j := 1) rfl ?_
  by_cases c1 : a0 = (0 : Int32)
  · have hM := if_t hM c1
    refine ws_tabIn cx dX9_count_1 (tgt := 40) (by rw [c1]; decide) (by rw [c1]; decide) (by rw [c1]; rfl) (by decide) ?_
    refine ws_aload_n cx dX9_count_40 rfl (j := 0) rfl ?_
    obtain ⟨v2, h3, hM⟩ := bnd hM
    refine ws_getR cx ffX9_26 h3 dX9_count_41 ?_
    obtain ⟨v4, h5, hM⟩ := bnd hM
    refine ws_getI cx ffX9_234 h5 dX9_count_44 ?_
    exact ws_iretM cx ex hM dX9_count_47
  · have hM := if_f hM c1
    by_cases c6 : a0 = (1 : Int32)
    · have hM := if_t hM c6
      refine ws_tabIn cx dX9_count_1 (tgt := 48) (by rw [c6]; decide) (by rw [c6]; decide) (by rw [c6]; rfl) (by decide) ?_
      refine ws_aload_n cx dX9_count_48 rfl (j := 0) rfl ?_
      obtain ⟨v7, h8, hM⟩ := bnd hM
      refine ws_getR cx ffX9_33 h8 dX9_count_49 ?_
      obtain ⟨v9, h10, hM⟩ := bnd hM
      refine ws_getI cx ffX9_146 h10 dX9_count_52 ?_
      exact ws_iretM cx ex hM dX9_count_55
    · have hM := if_f hM c6
      by_cases c11 : a0 = (2 : Int32)
      · have hM := if_t hM c11
        refine ws_tabIn cx dX9_count_1 (tgt := 56) (by rw [c11]; decide) (by rw [c11]; decide) (by rw [c11]; rfl) (by decide) ?_
        refine ws_aload_n cx dX9_count_56 rfl (j := 0) rfl ?_
        obtain ⟨_, h14, hM⟩ := bnd hM
        obtain ⟨q12, h13, hM⟩ := bnd hM
        refine ws_callV cx (rest := []) (st' := []) (kX9_regroup l D b h13) mvX9_regroup (ck_k h14) (by decide) (q := (RX9, TX9, 11)) rfl seX9_regroup lkX9_140 rfl ⟨by decide, by decide⟩ (Nat.le_of_ble_eq_true rfl) ⟨rfl, rfl⟩ (Or.inl ⟨rfl, rfl⟩) rfl rfl dX9_count_57 ?_
        refine ws_aload_n cx dX9_count_60 rfl (j := 0) rfl ?_
        obtain ⟨v15, h16, hM⟩ := bnd hM
        refine ws_getR cx ffX9_62 h16 dX9_count_61 ?_
        obtain ⟨v17, h18, hM⟩ := bnd hM
        refine ws_getI cx ffX9_160 h18 dX9_count_64 ?_
        exact ws_iretM cx ex hM dX9_count_67
      · have hM := if_f hM c11
        by_cases c19 : a0 = (3 : Int32)
        · have hM := if_t hM c19
          refine ws_tabIn cx dX9_count_1 (tgt := 68) (by rw [c19]; decide) (by rw [c19]; decide) (by rw [c19]; rfl) (by decide) ?_
          refine ws_aload_n cx dX9_count_68 rfl (j := 0) rfl ?_
          obtain ⟨_, h22, hM⟩ := bnd hM
          obtain ⟨q20, h21, hM⟩ := bnd hM
          refine ws_callV cx (rest := []) (st' := [.int q20.1]) (kX9_sureGroups l D b h21) mvX9_sureGroups (ck_k h22) (by decide) (q := (RX9, TX9, 11)) rfl seX9_sureGroups lkX9_235 rfl ⟨by decide, by decide⟩ (Nat.le_of_ble_eq_true rfl) ⟨rfl, rfl⟩ (Or.inl ⟨rfl, rfl⟩) rfl rfl dX9_count_69 ?_
          exact ws_iretM cx ex hM dX9_count_72
        · have hM := if_f hM c19
          by_cases c23 : a0 = (4 : Int32)
          · have hM := if_t hM c23
            refine ws_tabIn cx dX9_count_1 (tgt := 73) (by rw [c23]; decide) (by rw [c23]; decide) (by rw [c23]; rfl) (by decide) ?_
            refine ws_aload_n cx dX9_count_73 rfl (j := 0) rfl ?_
            obtain ⟨v24, h25, hM⟩ := bnd hM
            refine ws_getR cx ffX9_12 h25 dX9_count_74 ?_
            obtain ⟨v26, h27, hM⟩ := bnd hM
            refine ws_getI cx ffX9_92 h27 dX9_count_77 ?_
            exact ws_iretM cx ex hM dX9_count_80
          · have hM := if_f hM c23
            by_cases c28 : a0 = (5 : Int32)
            · have hM := if_t hM c28
              refine ws_tabIn cx dX9_count_1 (tgt := 81) (by rw [c28]; decide) (by rw [c28]; decide) (by rw [c28]; rfl) (by decide) ?_
              refine ws_aload_n cx dX9_count_81 rfl (j := 0) rfl ?_
              obtain ⟨v29, h30, hM⟩ := bnd hM
              refine ws_getR cx ffX9_40 h30 dX9_count_82 ?_
              obtain ⟨v31, h32, hM⟩ := bnd hM
              refine ws_getI cx ffX9_109 h32 dX9_count_85 ?_
              exact ws_iretM cx ex hM dX9_count_88
            · have hM := if_f hM c28
              refine ws_tabOut cx dX9_count_1 (tgt := 89) (by have := lv_neT c1 (show ((0 : Int32)).toInt = 0 from rfl); have := lv_neT c6 (show ((1 : Int32)).toInt = 1 from rfl); have := lv_neT c11 (show ((2 : Int32)).toInt = 2 from rfl); have := lv_neT c19 (show ((3 : Int32)).toInt = 3 from rfl); have := lv_neT c23 (show ((4 : Int32)).toInt = 4 from rfl); have := lv_neT c28 (show ((5 : Int32)).toInt = 5 from rfl); omega) (by decide) ?_
              refine ws_iconst cx dX9_count_89 (v := -1) (by decide) ?_
              exact ws_iretM cx ex hM dX9_count_90

def mX10_init (S0 : SH) (me : ME) (o : Nat) : Option (SH × ME) :=
  (nwA (S0.1.length + 12, sO S0 + 531) S0 me 11 (6 : Int32)).bind fun p2 =>
  (sR p2.1 10 1 o S0.1.length).bind fun S4 =>
  (nwA (S0.1.length + 12, sO S0 + 531) S4 p2.2 11 (6 : Int32)).bind fun p6 =>
  (sR p6.1 10 2 o S4.1.length).bind fun S8 =>
  (nwA (S0.1.length + 12, sO S0 + 531) S8 p6.2 11 (25 : Int32)).bind fun p10 =>
  (sR p10.1 10 3 o S8.1.length).bind fun S12 =>
  (nwA (S0.1.length + 12, sO S0 + 531) S12 p10.2 11 (250 : Int32)).bind fun p14 =>
  (sR p14.1 10 6 o S12.1.length).bind fun S16 =>
  (nwA (S0.1.length + 12, sO S0 + 531) S16 p14.2 13 (2 : Int32)).bind fun p18 =>
  (sR p18.1 10 7 o S16.1.length).bind fun S20 =>
  (nwA (S0.1.length + 12, sO S0 + 531) S20 p18.2 11 (50 : Int32)).bind fun p22 =>
  (sR p22.1 10 8 o S20.1.length).bind fun S24 =>
  (nwA (S0.1.length + 12, sO S0 + 531) S24 p22.2 11 (110 : Int32)).bind fun p26 =>
  (sR p26.1 10 10 o S24.1.length).bind fun S28 =>
  (nwA (S0.1.length + 12, sO S0 + 531) S28 p26.2 11 (6 : Int32)).bind fun p30 =>
  (sR p30.1 10 17 o S28.1.length).bind fun S32 =>
  (nwA (S0.1.length + 12, sO S0 + 531) S32 p30.2 11 (6 : Int32)).bind fun p34 =>
  (sR p34.1 10 18 o S32.1.length).bind fun S36 =>
  (nwA (S0.1.length + 12, sO S0 + 531) S36 p34.2 11 (25 : Int32)).bind fun p38 =>
  (sR p38.1 10 19 o S36.1.length).bind fun S40 =>
  (nwA (S0.1.length + 12, sO S0 + 531) S40 p38.2 11 (9 : Int32)).bind fun p42 =>
  (sR p42.1 10 21 o S40.1.length).bind fun S44 =>
  (nwA (S0.1.length + 12, sO S0 + 531) S44 p42.2 12 (36 : Int32)).bind fun p46 =>
  (sR p46.1 10 23 o S44.1.length).bind fun S48 =>
  some (S48, p46.2)
set_option maxRecDepth 100000 in
set_option maxHeartbeats 4000000 in
theorem kX10_init (l : Launch) (D : va_G) (b : Nat) {S0 : SH} {me : ME} {o : Nat} {q : SH × ME} (hM : mX10_init S0 me o = some q) (hz : q.1.1.length = S0.1.length + 12 ∧ sO q.1 = sO S0 + 531) : Ct l D b yX10_init cX10_init 1 none 1 12 12 531 [.ref (b + o)] S0 me q.1 q.2 none := by
  refine ct_of (own := RX10) (nm := "<init>") (lv := [(0, .ref (b + o))]) (plainFor_of_name (by decide)) rfl rfl (Nat.le_of_ble_eq_true rfl) rfl hz (fun X cx ex hL => ?_)
  unfold mX10_init at hM
  refine ws_aload_n cx dX10_init_0 rfl (j := 0) rfl ?_
  refine ws_objInit cx lkX10_1 wOI wOC ⟨by decide, by decide⟩ dX10_init_1 ?_
  refine ws_aload_n cx dX10_init_4 rfl (j := 0) rfl ?_
  refine ws_bipush cx dX10_init_5 (v := 6) (by decide) ?_
  obtain ⟨p2, h1, hM⟩ := bnd hM
  refine ws_newaM cx hL (c := 11) (a := .int) ⟨rfl, by decide⟩ wAint h1 dX10_init_7 ?_
  obtain ⟨S4, h3, hM⟩ := bnd hM
  refine ws_putR cx ffX10_7 (Or.inr ⟨rfl, fun q h => by cases h; rfl⟩) h3 dX10_init_9 ?_
  refine ws_aload_n cx dX10_init_12 rfl (j := 0) rfl ?_
  refine ws_bipush cx dX10_init_13 (v := 6) (by decide) ?_
  obtain ⟨p6, h5, hM⟩ := bnd hM
  refine ws_newaM cx hL (c := 11) (a := .int) ⟨rfl, by decide⟩ wAint h5 dX10_init_15 ?_
  obtain ⟨S8, h7, hM⟩ := bnd hM
  refine ws_putR cx ffX10_13 (Or.inr ⟨rfl, fun q h => by cases h; rfl⟩) h7 dX10_init_17 ?_
  refine ws_aload_n cx dX10_init_20 rfl (j := 0) rfl ?_
  refine ws_bipush cx dX10_init_21 (v := 25) (by decide) ?_
  obtain ⟨p10, h9, hM⟩ := bnd hM
  refine ws_newaM cx hL (c := 11) (a := .int) ⟨rfl, by decide⟩ wAint h9 dX10_init_23 ?_
  obtain ⟨S12, h11, hM⟩ := bnd hM
  refine ws_putR cx ffX10_16 (Or.inr ⟨rfl, fun q h => by cases h; rfl⟩) h11 dX10_init_25 ?_
  refine ws_aload_n cx dX10_init_28 rfl (j := 0) rfl ?_
  refine ws_sipush cx dX10_init_29 (v := 250) (by decide) ?_
  obtain ⟨p14, h13, hM⟩ := bnd hM
  refine ws_newaM cx hL (c := 11) (a := .int) ⟨rfl, by decide⟩ wAint h13 dX10_init_32 ?_
  obtain ⟨S16, h15, hM⟩ := bnd hM
  refine ws_putR cx ffX10_19 (Or.inr ⟨rfl, fun q h => by cases h; rfl⟩) h15 dX10_init_34 ?_
  refine ws_aload_n cx dX10_init_37 rfl (j := 0) rfl ?_
  refine ws_iconst cx dX10_init_38 (v := 2) (by decide) ?_
  obtain ⟨p18, h17, hM⟩ := bnd hM
  refine ws_newaM cx hL (c := 13) (a := .boolean) ⟨rfl, by decide⟩ wAboolean h17 dX10_init_39 ?_
  obtain ⟨S20, h19, hM⟩ := bnd hM
  refine ws_putR cx ffX10_22 (Or.inr ⟨rfl, fun q h => by cases h; rfl⟩) h19 dX10_init_41 ?_
  refine ws_aload_n cx dX10_init_44 rfl (j := 0) rfl ?_
  refine ws_bipush cx dX10_init_45 (v := 50) (by decide) ?_
  obtain ⟨p22, h21, hM⟩ := bnd hM
  refine ws_newaM cx hL (c := 11) (a := .int) ⟨rfl, by decide⟩ wAint h21 dX10_init_47 ?_
  obtain ⟨S24, h23, hM⟩ := bnd hM
  refine ws_putR cx ffX10_26 (Or.inr ⟨rfl, fun q h => by cases h; rfl⟩) h23 dX10_init_49 ?_
  refine ws_aload_n cx dX10_init_52 rfl (j := 0) rfl ?_
  refine ws_bipush cx dX10_init_53 (v := 110) (by decide) ?_
  obtain ⟨p26, h25, hM⟩ := bnd hM
  refine ws_newaM cx hL (c := 11) (a := .int) ⟨rfl, by decide⟩ wAint h25 dX10_init_55 ?_
  obtain ⟨S28, h27, hM⟩ := bnd hM
  refine ws_putR cx ffX10_29 (Or.inr ⟨rfl, fun q h => by cases h; rfl⟩) h27 dX10_init_57 ?_
  refine ws_aload_n cx dX10_init_60 rfl (j := 0) rfl ?_
  refine ws_bipush cx dX10_init_61 (v := 6) (by decide) ?_
  obtain ⟨p30, h29, hM⟩ := bnd hM
  refine ws_newaM cx hL (c := 11) (a := .int) ⟨rfl, by decide⟩ wAint h29 dX10_init_63 ?_
  obtain ⟨S32, h31, hM⟩ := bnd hM
  refine ws_putR cx ffX10_32 (Or.inr ⟨rfl, fun q h => by cases h; rfl⟩) h31 dX10_init_65 ?_
  refine ws_aload_n cx dX10_init_68 rfl (j := 0) rfl ?_
  refine ws_bipush cx dX10_init_69 (v := 6) (by decide) ?_
  obtain ⟨p34, h33, hM⟩ := bnd hM
  refine ws_newaM cx hL (c := 11) (a := .int) ⟨rfl, by decide⟩ wAint h33 dX10_init_71 ?_
  obtain ⟨S36, h35, hM⟩ := bnd hM
  refine ws_putR cx ffX10_35 (Or.inr ⟨rfl, fun q h => by cases h; rfl⟩) h35 dX10_init_73 ?_
  refine ws_aload_n cx dX10_init_76 rfl (j := 0) rfl ?_
  refine ws_bipush cx dX10_init_77 (v := 25) (by decide) ?_
  obtain ⟨p38, h37, hM⟩ := bnd hM
  refine ws_newaM cx hL (c := 11) (a := .int) ⟨rfl, by decide⟩ wAint h37 dX10_init_79 ?_
  obtain ⟨S40, h39, hM⟩ := bnd hM
  refine ws_putR cx ffX10_38 (Or.inr ⟨rfl, fun q h => by cases h; rfl⟩) h39 dX10_init_81 ?_
  refine ws_aload_n cx dX10_init_84 rfl (j := 0) rfl ?_
  refine ws_bipush cx dX10_init_85 (v := 9) (by decide) ?_
  obtain ⟨p42, h41, hM⟩ := bnd hM
  refine ws_newaM cx hL (c := 11) (a := .int) ⟨rfl, by decide⟩ wAint h41 dX10_init_87 ?_
  obtain ⟨S44, h43, hM⟩ := bnd hM
  refine ws_putR cx ffX10_41 (Or.inr ⟨rfl, fun q h => by cases h; rfl⟩) h43 dX10_init_89 ?_
  refine ws_aload_n cx dX10_init_92 rfl (j := 0) rfl ?_
  refine ws_bipush cx dX10_init_93 (v := 36) (by decide) ?_
  obtain ⟨p46, h45, hM⟩ := bnd hM
  refine ws_newaM cx hL (c := 12) (a := .long) ⟨rfl, by decide⟩ wAlong h45 dX10_init_95 ?_
  obtain ⟨S48, h47, hM⟩ := bnd hM
  refine ws_putR cx ffX10_44 (Or.inr ⟨rfl, fun q h => by cases h; rfl⟩) h47 dX10_init_97 ?_
  exact ws_vretC cx ex hM dX10_init_100

def mX10_in_j15 (S : SH) (a0 : Int32) (a1 : Int32) (a2 : Int32) (me : ME) (y0 : Int32) : Option (Int32 × ME) :=
  if y0 = 0 ∨ y0 = 1 then some (y0, me) else none
def mX10_in_j14 (S : SH) (a0 : Int32) (a1 : Int32) (a2 : Int32) (me : ME) : Option (Int32 × ME) :=
  mX10_in_j15 S a0 a1 a2 me (0 : Int32)
def mX10_in (S : SH) (me : ME) (a0 : Int32) (a1 : Int32) (a2 : Int32) : Option (Int32 × ME) :=
  if a0 < a1 then
    mX10_in_j14 S a0 a1 a2 me
  else
    if a2 < a0 then
      mX10_in_j14 S a0 a1 a2 me
    else
      mX10_in_j15 S a0 a1 a2 me (1 : Int32)
set_option maxRecDepth 100000 in
set_option maxHeartbeats 4000000 in
theorem kX10_in (l : Launch) (D : va_G) (b : Nat) {S : SH} {me : ME} {a0 : Int32} {a1 : Int32} {a2 : Int32} {q : Int32 × ME} (hM : mX10_in S me a0 a1 a2 = some q) : Ct l D b yX10_in cX10_in 3 (some .boolean) 0 0 0 0 [.int a0, .int a1, .int a2] S me S q.2 (some (.int q.1)) := by
  refine ct_of (own := RX10) (nm := "in") (lv := [(0, .int a0), (1, .int a1), (2, .int a2)]) (plainFor_of_name (by decide)) rfl rfl (Nat.le_of_ble_eq_true rfl) rfl ⟨rfl, rfl⟩ (fun X cx ex hL => ?_)
  have J15 : ∀ (me : ME) (y0 : Int32), mX10_in_j15 S a0 a1 a2 me y0 = some q → WS X b 3 S me 15 [] [.int y0] := by
    intro  me y0 hM
    unfold mX10_in_j15 at hM
    obtain ⟨h1, hM⟩ := ite_o hM
    exact ws_zretM cx ex h1 hM dX10_in_15
  have J14 : ∀ (me : ME), mX10_in_j14 S a0 a1 a2 me = some q → WS X b 3 S me 14 [] [] := by
    intro  me hM
    unfold mX10_in_j14 at hM
    refine ws_iconst cx dX10_in_14 (v := 0) (by decide) ?_
    refine ws_sub [] (lv' := []) rfl ?_
    exact J15 _ _ hM
  unfold mX10_in at hM
  refine ws_iload_n cx dX10_in_0 rfl (j := 0) rfl ?_
  refine ws_iload_n cx dX10_in_1 rfl (j := 1) rfl ?_
  refine ws_icmp_lt cx dX10_in_2 (tgt := 14) (by decide) (fun c2 => ?_) (fun c2 => ?_)
  · have hM := if_t hM c2
    refine ws_sub [] (lv' := []) rfl ?_
    exact J14 _ hM
  · have hM := if_f hM c2
    refine ws_iload_n cx dX10_in_5 rfl (j := 0) rfl ?_
    refine ws_iload_n cx dX10_in_6 rfl (j := 2) rfl ?_
    refine ws_icmp_gt cx dX10_in_7 (tgt := 14) (by decide) (fun c3 => ?_) (fun c3 => ?_)
    · have hM := if_t hM c3
      refine ws_sub [] (lv' := []) rfl ?_
      exact J14 _ hM
    · have hM := if_f hM c3
      refine ws_iconst cx dX10_in_10 (v := 1) (by decide) ?_
      refine ws_goto cx dX10_in_11 (tgt := 15) (by decide) ?_
      refine ws_sub [] (lv' := []) rfl ?_
      exact J15 _ _ hM

def mX10_type (S : SH) (me : ME) (o : Nat) (a0 : Int32) : Option (Int32 × ME) :=
  (mX10_in S me a0 (0 : Int32) (255 : Int32)).bind fun q1 =>
  if q1.1 = 0 then
    some ((-1 : Int32), q1.2)
  else
    (gI S q1.2 10 9 o).bind fun v4 =>
    if v4 = (110 : Int32) then
      some ((-3 : Int32), q1.2)
    else
      (gR S 10 10 o).bind fun v7 =>
      (gI S q1.2 10 9 o).bind fun v9 =>
      (uI S q1.2 v7 v9 a0).bind fun m12 =>
      (gI S m12 10 9 o).bind fun v13 =>
      (sI S m12 10 9 o (v13 + (1 : Int32))).bind fun m16 =>
      (gI S m16 10 9 o).bind fun v17 =>
      some (v17, m16)
set_option maxRecDepth 100000 in
set_option maxHeartbeats 4000000 in
theorem kX10_type (l : Launch) (D : va_G) (b : Nat) {S : SH} {me : ME} {o : Nat} {a0 : Int32} {q : Int32 × ME} (hM : mX10_type S me o a0 = some q) : Ct l D b yX10_type cX10_type 2 (some .int) 1 22 0 0 [.ref (b + o), .int a0] S me S q.2 (some (.int q.1)) := by
  refine ct_of (own := RX10) (nm := "type") (lv := [(0, .ref (b + o)), (1, .int a0)]) (plainFor_of_name (by decide)) rfl rfl (Nat.le_of_ble_eq_true rfl) rfl ⟨rfl, rfl⟩ (fun X cx ex hL => ?_)
  unfold mX10_type at hM
  refine ws_iload_n cx dX10_type_0 rfl (j := 1) rfl ?_
  refine ws_iconst cx dX10_type_1 (v := 0) (by decide) ?_
  refine ws_sipush cx dX10_type_2 (v := 255) (by decide) ?_
  obtain ⟨q1, h2, hM⟩ := bnd hM
  refine ws_callS cx (rest := []) (st' := [.int q1.1]) (kX10_in l D b h2) mvX10_in lkX10_48 rfl ⟨by decide, by decide⟩ (Nat.le_of_ble_eq_true rfl) ⟨rfl, rfl⟩ (Or.inl ⟨rfl, rfl⟩) rfl rfl dX10_type_5 ?_
  refine ws_if_ne cx dX10_type_8 (tgt := 13) (by decide) (fun c3 => ?_) (fun c3 => ?_)
  · have hM := if_f hM c3
    refine ws_aload_n cx dX10_type_13 rfl (j := 0) rfl ?_
    obtain ⟨v4, h5, hM⟩ := bnd hM
    refine ws_getI cx ffX10_52 h5 dX10_type_14 ?_
    refine ws_bipush cx dX10_type_17 (v := 110) (by decide) ?_
    refine ws_icmp_ne cx dX10_type_19 (tgt := 25) (by decide) (fun c6 => ?_) (fun c6 => ?_)
    · have hM := if_f hM c6
      refine ws_aload_n cx dX10_type_25 rfl (j := 0) rfl ?_
      obtain ⟨v7, h8, hM⟩ := bnd hM
      refine ws_getR cx ffX10_29 h8 dX10_type_26 ?_
      refine ws_aload_n cx dX10_type_29 rfl (j := 0) rfl ?_
      obtain ⟨v9, h10, hM⟩ := bnd hM
      refine ws_getI cx ffX10_52 h10 dX10_type_30 ?_
      refine ws_iload_n cx dX10_type_33 rfl (j := 1) rfl ?_
      obtain ⟨m12, h11, hM⟩ := bnd hM
      refine ws_iast cx h11 dX10_type_34 ?_
      refine ws_aload_n cx dX10_type_35 rfl (j := 0) rfl ?_
      refine ws_dup cx dX10_type_36 rfl ?_
      obtain ⟨v13, h14, hM⟩ := bnd hM
      refine ws_getI cx ffX10_52 h14 dX10_type_37 ?_
      refine ws_iconst cx dX10_type_40 (v := 1) (by decide) ?_
      refine ws_iadd cx dX10_type_41 ?_
      obtain ⟨m16, h15, hM⟩ := bnd hM
      refine ws_putI cx ffX10_52 h15 dX10_type_42 ?_
      refine ws_aload_n cx dX10_type_45 rfl (j := 0) rfl ?_
      obtain ⟨v17, h18, hM⟩ := bnd hM
      refine ws_getI cx ffX10_52 h18 dX10_type_46 ?_
      exact ws_iretM cx ex hM dX10_type_49
    · have hM := if_t hM c6
      refine ws_bipush cx dX10_type_22 (v := -3) (by decide) ?_
      exact ws_iretM cx ex hM dX10_type_24
  · have hM := if_t hM c3
    refine ws_iconst cx dX10_type_11 (v := -1) (by decide) ?_
    exact ws_iretM cx ex hM dX10_type_12

def mX10_clear (S : SH) (me : ME) (o : Nat) : Option (Int32 × ME) :=
  (gI S me 10 9 o).bind fun v1 =>
  (sI S me 10 9 o (0 : Int32)).bind fun m4 =>
  some (v1, m4)
set_option maxRecDepth 100000 in
set_option maxHeartbeats 4000000 in
theorem kX10_clear (l : Launch) (D : va_G) (b : Nat) {S : SH} {me : ME} {o : Nat} {q : Int32 × ME} (hM : mX10_clear S me o = some q) : Ct l D b yX10_clear cX10_clear 2 (some .int) 0 0 0 0 [.ref (b + o)] S me S q.2 (some (.int q.1)) := by
  refine ct_of (own := RX10) (nm := "clear") (lv := [(0, .ref (b + o))]) (plainFor_of_name (by decide)) rfl rfl (Nat.le_of_ble_eq_true rfl) rfl ⟨rfl, rfl⟩ (fun X cx ex hL => ?_)
  unfold mX10_clear at hM
  refine ws_aload_n cx dX10_clear_0 rfl (j := 0) rfl ?_
  obtain ⟨v1, h2, hM⟩ := bnd hM
  refine ws_getI cx ffX10_52 h2 dX10_clear_1 ?_
  refine ws_istore_n cx dX10_clear_4 rfl (by decide) (lv' := [(1, .int v1), (0, .ref (b + o))]) rfl ?_
  refine ws_aload_n cx dX10_clear_5 rfl (j := 1) rfl ?_
  refine ws_iconst cx dX10_clear_6 (v := 0) (by decide) ?_
  obtain ⟨m4, h3, hM⟩ := bnd hM
  refine ws_putI cx ffX10_52 h3 dX10_clear_7 ?_
  refine ws_iload_n cx dX10_clear_10 rfl (j := 0) rfl ?_
  exact ws_iretM cx ex hM dX10_clear_11

def mX10_blanks_j38 (S : SH) (o : Nat) (me : ME) : Option (Unit × ME) :=
  some ((), me)
def mX10_blanks_L0 (S : SH) (o : Nat) (k0 : (ME → Option (Unit × ME))) : ME → Option (Unit × ME)
  | me =>
    (gI S me 10 11 o).bind fun v1 =>
    (gI S me 10 9 o).bind fun v3 =>
    if v3 ≤ v1 then
      mX10_blanks_j38 S o me
    else
      (gR S 10 10 o).bind fun v6 =>
      (gI S me 10 11 o).bind fun v8 =>
      (aI S me 11 v6 v8).bind fun v10 =>
      if v10 = (32 : Int32) then
        (gI S me 10 11 o).bind fun v13 =>
        (sI S me 10 11 o (v13 + (1 : Int32))).bind fun m16 =>
        k0 m16
      else
        mX10_blanks_j38 S o me
def mX10_blanks (S : SH) (me : ME) (o : Nat) : Option (Unit × ME) :=
  lpn (mX10_blanks_L0 S o) lpF me
set_option maxRecDepth 100000 in
set_option maxHeartbeats 4000000 in
theorem kX10_blanks (l : Launch) (D : va_G) (b : Nat) {S : SH} {me : ME} {o : Nat} {q : Unit × ME} (hM : mX10_blanks S me o = some q) : Ct l D b yX10_blanks cX10_blanks 1 none 0 0 0 0 [.ref (b + o)] S me S q.2 none := by
  refine ct_of (own := RX10) (nm := "blanks") (lv := [(0, .ref (b + o))]) (plainFor_of_name (by decide)) rfl rfl (Nat.le_of_ble_eq_true rfl) rfl ⟨rfl, rfl⟩ (fun X cx ex hL => ?_)
  have J38 : ∀ (me : ME), mX10_blanks_j38 S o me = some q → WS X b 1 S me 38 [] [] := by
    intro  me hM
    unfold mX10_blanks_j38 at hM
    exact ws_vretM cx ex hM dX10_blanks_38
  have L0 : ∀ (n : Nat) (me : ME), lpn (mX10_blanks_L0 S o) n me = some q → WS X b 1 S me 0 [(0, .ref (b + o))] [] := by
    intro  n
    induction n with
    | zero => intro me hM; exact absurd hM (by intro h; cases h)
    | succ n ih =>
      intro me hM
      have hM : mX10_blanks_L0 S o (lpn (mX10_blanks_L0 S o) n) me = some q := hM
      unfold mX10_blanks_L0 at hM
      refine ws_aload_n cx dX10_blanks_0 rfl (j := 0) rfl ?_
      obtain ⟨v1, h2, hM⟩ := bnd hM
      refine ws_getI cx ffX10_56 h2 dX10_blanks_1 ?_
      refine ws_aload_n cx dX10_blanks_4 rfl (j := 0) rfl ?_
      obtain ⟨v3, h4, hM⟩ := bnd hM
      refine ws_getI cx ffX10_52 h4 dX10_blanks_5 ?_
      refine ws_icmp_ge cx dX10_blanks_8 (tgt := 38) (by decide) (fun c5 => ?_) (fun c5 => ?_)
      · have hM := if_t hM c5
        refine ws_sub [] (lv' := []) rfl ?_
        exact J38 _ hM
      · have hM := if_f hM c5
        refine ws_aload_n cx dX10_blanks_11 rfl (j := 0) rfl ?_
        obtain ⟨v6, h7, hM⟩ := bnd hM
        refine ws_getR cx ffX10_29 h7 dX10_blanks_12 ?_
        refine ws_aload_n cx dX10_blanks_15 rfl (j := 0) rfl ?_
        obtain ⟨v8, h9, hM⟩ := bnd hM
        refine ws_getI cx ffX10_56 h9 dX10_blanks_16 ?_
        obtain ⟨v10, h11, hM⟩ := bnd hM
        refine ws_iald cx h11 dX10_blanks_19 ?_
        refine ws_bipush cx dX10_blanks_20 (v := 32) (by decide) ?_
        refine ws_icmp_ne cx dX10_blanks_22 (tgt := 38) (by decide) (fun c12 => ?_) (fun c12 => ?_)
        · have hM := if_f hM c12
          refine ws_sub [] (lv' := []) rfl ?_
          exact J38 _ hM
        · have hM := if_t hM c12
          refine ws_aload_n cx dX10_blanks_25 rfl (j := 0) rfl ?_
          refine ws_dup cx dX10_blanks_26 rfl ?_
          obtain ⟨v13, h14, hM⟩ := bnd hM
          refine ws_getI cx ffX10_56 h14 dX10_blanks_27 ?_
          refine ws_iconst cx dX10_blanks_30 (v := 1) (by decide) ?_
          refine ws_iadd cx dX10_blanks_31 ?_
          obtain ⟨m16, h15, hM⟩ := bnd hM
          refine ws_putI cx ffX10_56 h15 dX10_blanks_32 ?_
          refine ws_goto cx dX10_blanks_35 (tgt := 0) (by decide) ?_
          refine ws_sub [0] (lv' := [(0, .ref (b + o))]) rfl ?_
          exact ih _ hM
  unfold mX10_blanks at hM
  refine ws_sub [0] (lv' := [(0, .ref (b + o))]) rfl ?_
  exact L0 _ _ hM

def mX10_isFigure_j35 (S : SH) (o : Nat) (me : ME) (y0 : Int32) : Option (Int32 × ME) :=
  if y0 = 0 ∨ y0 = 1 then some (y0, me) else none
def mX10_isFigure_j34 (S : SH) (o : Nat) (me : ME) : Option (Int32 × ME) :=
  mX10_isFigure_j35 S o me (0 : Int32)
def mX10_isFigure (S : SH) (me : ME) (o : Nat) : Option (Int32 × ME) :=
  (gI S me 10 11 o).bind fun v2 =>
  (gI S me 10 9 o).bind fun v4 =>
  if v4 ≤ v2 then
    mX10_isFigure_j34 S o me
  else
    (gR S 10 10 o).bind fun v7 =>
    (gI S me 10 11 o).bind fun v9 =>
    (aI S me 11 v7 v9).bind fun v11 =>
    (mX10_in S me v11 (48 : Int32) (57 : Int32)).bind fun q13 =>
    if q13.1 = 0 then
      mX10_isFigure_j34 S o q13.2
    else
      mX10_isFigure_j35 S o q13.2 (1 : Int32)
set_option maxRecDepth 100000 in
set_option maxHeartbeats 4000000 in
theorem kX10_isFigure (l : Launch) (D : va_G) (b : Nat) {S : SH} {me : ME} {o : Nat} {q : Int32 × ME} (hM : mX10_isFigure S me o = some q) : Ct l D b yX10_isFigure cX10_isFigure 1 (some .boolean) 1 22 0 0 [.ref (b + o)] S me S q.2 (some (.int q.1)) := by
  refine ct_of (own := RX10) (nm := "isFigure") (lv := [(0, .ref (b + o))]) (plainFor_of_name (by decide)) rfl rfl (Nat.le_of_ble_eq_true rfl) rfl ⟨rfl, rfl⟩ (fun X cx ex hL => ?_)
  have J35 : ∀ (me : ME) (y0 : Int32), mX10_isFigure_j35 S o me y0 = some q → WS X b 1 S me 35 [] [.int y0] := by
    intro  me y0 hM
    unfold mX10_isFigure_j35 at hM
    obtain ⟨h1, hM⟩ := ite_o hM
    exact ws_zretM cx ex h1 hM dX10_isFigure_35
  have J34 : ∀ (me : ME), mX10_isFigure_j34 S o me = some q → WS X b 1 S me 34 [] [] := by
    intro  me hM
    unfold mX10_isFigure_j34 at hM
    refine ws_iconst cx dX10_isFigure_34 (v := 0) (by decide) ?_
    refine ws_sub [] (lv' := []) rfl ?_
    exact J35 _ _ hM
  unfold mX10_isFigure at hM
  refine ws_aload_n cx dX10_isFigure_0 rfl (j := 0) rfl ?_
  obtain ⟨v2, h3, hM⟩ := bnd hM
  refine ws_getI cx ffX10_56 h3 dX10_isFigure_1 ?_
  refine ws_aload_n cx dX10_isFigure_4 rfl (j := 0) rfl ?_
  obtain ⟨v4, h5, hM⟩ := bnd hM
  refine ws_getI cx ffX10_52 h5 dX10_isFigure_5 ?_
  refine ws_icmp_ge cx dX10_isFigure_8 (tgt := 34) (by decide) (fun c6 => ?_) (fun c6 => ?_)
  · have hM := if_t hM c6
    refine ws_sub [] (lv' := []) rfl ?_
    exact J34 _ hM
  · have hM := if_f hM c6
    refine ws_aload_n cx dX10_isFigure_11 rfl (j := 0) rfl ?_
    obtain ⟨v7, h8, hM⟩ := bnd hM
    refine ws_getR cx ffX10_29 h8 dX10_isFigure_12 ?_
    refine ws_aload_n cx dX10_isFigure_15 rfl (j := 0) rfl ?_
    obtain ⟨v9, h10, hM⟩ := bnd hM
    refine ws_getI cx ffX10_56 h10 dX10_isFigure_16 ?_
    obtain ⟨v11, h12, hM⟩ := bnd hM
    refine ws_iald cx h12 dX10_isFigure_19 ?_
    refine ws_bipush cx dX10_isFigure_20 (v := 48) (by decide) ?_
    refine ws_bipush cx dX10_isFigure_22 (v := 57) (by decide) ?_
    obtain ⟨q13, h14, hM⟩ := bnd hM
    refine ws_callS cx (rest := []) (st' := [.int q13.1]) (kX10_in l D b h14) mvX10_in lkX10_48 rfl ⟨by decide, by decide⟩ (Nat.le_of_ble_eq_true rfl) ⟨rfl, rfl⟩ (Or.inl ⟨rfl, rfl⟩) rfl rfl dX10_isFigure_24 ?_
    refine ws_if_eq cx dX10_isFigure_27 (tgt := 34) (by decide) (fun c15 => ?_) (fun c15 => ?_)
    · have hM := if_t hM c15
      refine ws_sub [] (lv' := []) rfl ?_
      exact J34 _ hM
    · have hM := if_f hM c15
      refine ws_iconst cx dX10_isFigure_30 (v := 1) (by decide) ?_
      refine ws_goto cx dX10_isFigure_31 (tgt := 35) (by decide) ?_
      refine ws_sub [] (lv' := []) rfl ?_
      exact J35 _ _ hM

def mX10_next_j87 (S : SH) (o : Nat) (k43 : (ME → Option (Unit × ME))) (me : ME) (y0 : Nat) (y1 : Int32) : Option (Unit × ME) :=
  (sI S me 10 14 y0 y1).bind fun m2 =>
  (gI S m2 10 11 o).bind fun v3 =>
  (sI S m2 10 11 o (v3 + (1 : Int32))).bind fun m6 =>
  k43 m6
def mX10_next_j213 (S : SH) (o : Nat) (me : ME) : Option (Unit × ME) :=
  some ((), me)
def mX10_next_j146 (S : SH) (o : Nat) (me : ME) (y0 : Nat) (y1 : Int32) : Option (Unit × ME) :=
  (sI S me 10 13 y0 y1).bind fun m8 =>
  mX10_next_j213 S o m8
def mX10_next_j140 (S : SH) (o : Nat) (me : ME) (y0 : Nat) : Option (Unit × ME) :=
  mX10_next_j146 S o me y0 (-2 : Int32)
def mX10_next_j145 (S : SH) (o : Nat) (me : ME) (y0 : Nat) : Option (Unit × ME) :=
  mX10_next_j146 S o me y0 (0 : Int32)
def mX10_next_j103 (S : SH) (o : Nat) (me : ME) : Option (Unit × ME) :=
  (gI S me 10 14 o).bind fun v9 =>
  if (99 : Int32) < v9 then
    mX10_next_j140 S o me o
  else
    (gR S 10 10 o).bind fun v12 =>
    (gI S me 10 12 o).bind fun v14 =>
    (aI S me 11 v12 v14).bind fun v16 =>
    if v16 = (48 : Int32) then
      (gI S me 10 11 o).bind fun v19 =>
      (gI S me 10 12 o).bind fun v21 =>
      if (v19 - v21) ≤ (1 : Int32) then
        mX10_next_j145 S o me o
      else
        mX10_next_j140 S o me o
    else
      mX10_next_j145 S o me o
def mX10_next_L43 (S : SH) (o : Nat) (k43 : (ME → Option (Unit × ME))) : ME → Option (Unit × ME)
  | me =>
    (ck S 10 o).bind fun _ => (mX10_isFigure S me o).bind fun q24 =>
    if q24.1 = 0 then
      mX10_next_j103 S o q24.2
    else
      (gI S q24.2 10 14 o).bind fun v28 =>
      if v28 ≤ (99 : Int32) then
        (gI S q24.2 10 14 o).bind fun v31 =>
        (gR S 10 10 o).bind fun v33 =>
        (gI S q24.2 10 11 o).bind fun v35 =>
        (aI S q24.2 11 v33 v35).bind fun v37 =>
        mX10_next_j87 S o k43 q24.2 o ((((10 : Int32) * v31) + v37) - (48 : Int32))
      else
        (gI S q24.2 10 14 o).bind fun v39 =>
        mX10_next_j87 S o k43 q24.2 o v39
def mX10_next_j200 (S : SH) (o : Nat) (me : ME) (y0 : Nat) (y1 : Int32) : Option (Unit × ME) :=
  (sI S me 10 13 y0 y1).bind fun m42 =>
  (gI S m42 10 11 o).bind fun v43 =>
  (sI S m42 10 11 o (v43 + (1 : Int32))).bind fun m46 =>
  mX10_next_j213 S o m46
def mX10_next_j186 (S : SH) (o : Nat) (me : ME) (y0 : Nat) : Option (Unit × ME) :=
  (gR S 10 10 o).bind fun v47 =>
  (gI S me 10 11 o).bind fun v49 =>
  (aI S me 11 v47 v49).bind fun v51 =>
  mX10_next_j200 S o me y0 v51
def mX10_next (S : SH) (me : ME) (o : Nat) : Option (Unit × ME) :=
  (ck S 10 o).bind fun _ => (mX10_blanks S me o).bind fun q53 =>
  (gI S q53.2 10 11 o).bind fun v56 =>
  (sI S q53.2 10 12 o v56).bind fun m59 =>
  (gI S m59 10 11 o).bind fun v60 =>
  (gI S m59 10 9 o).bind fun v62 =>
  if v60 = v62 then
    (sI S m59 10 13 o (-1 : Int32)).bind fun m88 =>
    mX10_next_j213 S o m88
  else
    (ck S 10 o).bind fun _ => (mX10_isFigure S m59 o).bind fun q65 =>
    if q65.1 = 0 then
      (gR S 10 10 o).bind fun v69 =>
      (gI S q65.2 10 11 o).bind fun v71 =>
      (aI S q65.2 11 v69 v71).bind fun v73 =>
      (mX10_in S q65.2 v73 (97 : Int32) (122 : Int32)).bind fun q75 =>
      if q75.1 = 0 then
        (gR S 10 10 o).bind fun v78 =>
        (gI S q75.2 10 11 o).bind fun v80 =>
        (aI S q75.2 11 v78 v80).bind fun v82 =>
        if v82 = (59 : Int32) then
          mX10_next_j186 S o q75.2 o
        else
          mX10_next_j200 S o q75.2 o (-2 : Int32)
      else
        mX10_next_j186 S o q75.2 o
    else
      (sI S q65.2 10 14 o (0 : Int32)).bind fun m86 =>
      lpn (mX10_next_L43 S o) lpF m86
set_option maxRecDepth 100000 in
set_option maxHeartbeats 4000000 in
theorem kX10_next (l : Launch) (D : va_G) (b : Nat) {S : SH} {me : ME} {o : Nat} {q : Unit × ME} (hM : mX10_next S me o = some q) : Ct l D b yX10_next cX10_next 1 none 2 42 0 0 [.ref (b + o)] S me S q.2 none := by
  refine ct_of (own := RX10) (nm := "next") (lv := [(0, .ref (b + o))]) (plainFor_of_name (by decide)) rfl rfl (Nat.le_of_ble_eq_true rfl) rfl ⟨rfl, rfl⟩ (fun X cx ex hL => ?_)
  have J87 : ∀ (k43 : (ME → Option (Unit × ME))), (∀ (me : ME), k43 me = some q → WS X b 1 S me 43 [(0, .ref (b + o))] []) → ∀ (me : ME) (y0 : Nat) (y1 : Int32), mX10_next_j87 S o k43 me y0 y1 = some q → WS X b 1 S me 87 [(0, .ref (b + o))] [.int y1, .ref (b + y0)] := by
    intro k43 hk43 me y0 y1 hM
    unfold mX10_next_j87 at hM
    obtain ⟨m2, h1, hM⟩ := bnd hM
    refine ws_putI cx ffX10_72 h1 dX10_next_87 ?_
    refine ws_aload_n cx dX10_next_90 rfl (j := 0) rfl ?_
    refine ws_dup cx dX10_next_91 rfl ?_
    obtain ⟨v3, h4, hM⟩ := bnd hM
    refine ws_getI cx ffX10_56 h4 dX10_next_92 ?_
    refine ws_iconst cx dX10_next_95 (v := 1) (by decide) ?_
    refine ws_iadd cx dX10_next_96 ?_
    obtain ⟨m6, h5, hM⟩ := bnd hM
    refine ws_putI cx ffX10_56 h5 dX10_next_97 ?_
    refine ws_goto cx dX10_next_100 (tgt := 43) (by decide) ?_
    refine ws_sub [0] (lv' := [(0, .ref (b + o))]) rfl ?_
    exact hk43 _ hM
  have J213 : ∀ (me : ME), mX10_next_j213 S o me = some q → WS X b 1 S me 213 [] [] := by
    intro  me hM
    unfold mX10_next_j213 at hM
    exact ws_vretM cx ex hM dX10_next_213
  have J146 : ∀ (me : ME) (y0 : Nat) (y1 : Int32), mX10_next_j146 S o me y0 y1 = some q → WS X b 1 S me 146 [] [.int y1, .ref (b + y0)] := by
    intro  me y0 y1 hM
    unfold mX10_next_j146 at hM
    obtain ⟨m8, h7, hM⟩ := bnd hM
    refine ws_putI cx ffX10_65 h7 dX10_next_146 ?_
    refine ws_goto cx dX10_next_149 (tgt := 213) (by decide) ?_
    refine ws_sub [] (lv' := []) rfl ?_
    exact J213 _ hM
  have J140 : ∀ (me : ME) (y0 : Nat), mX10_next_j140 S o me y0 = some q → WS X b 1 S me 140 [] [.ref (b + y0)] := by
    intro  me y0 hM
    unfold mX10_next_j140 at hM
    refine ws_bipush cx dX10_next_140 (v := -2) (by decide) ?_
    refine ws_goto cx dX10_next_142 (tgt := 146) (by decide) ?_
    refine ws_sub [] (lv' := []) rfl ?_
    exact J146 _ _ _ hM
  have J145 : ∀ (me : ME) (y0 : Nat), mX10_next_j145 S o me y0 = some q → WS X b 1 S me 145 [] [.ref (b + y0)] := by
    intro  me y0 hM
    unfold mX10_next_j145 at hM
    refine ws_iconst cx dX10_next_145 (v := 0) (by decide) ?_
    refine ws_sub [] (lv' := []) rfl ?_
    exact J146 _ _ _ hM
  have J103 : ∀ (me : ME), mX10_next_j103 S o me = some q → WS X b 1 S me 103 [(0, .ref (b + o))] [] := by
    intro  me hM
    unfold mX10_next_j103 at hM
    refine ws_aload_n cx dX10_next_103 rfl (j := 0) rfl ?_
    refine ws_aload_n cx dX10_next_104 rfl (j := 0) rfl ?_
    obtain ⟨v9, h10, hM⟩ := bnd hM
    refine ws_getI cx ffX10_72 h10 dX10_next_105 ?_
    refine ws_bipush cx dX10_next_108 (v := 99) (by decide) ?_
    refine ws_icmp_gt cx dX10_next_110 (tgt := 140) (by decide) (fun c11 => ?_) (fun c11 => ?_)
    · have hM := if_t hM c11
      refine ws_sub [] (lv' := []) rfl ?_
      exact J140 _ _ hM
    · have hM := if_f hM c11
      refine ws_aload_n cx dX10_next_113 rfl (j := 0) rfl ?_
      obtain ⟨v12, h13, hM⟩ := bnd hM
      refine ws_getR cx ffX10_29 h13 dX10_next_114 ?_
      refine ws_aload_n cx dX10_next_117 rfl (j := 0) rfl ?_
      obtain ⟨v14, h15, hM⟩ := bnd hM
      refine ws_getI cx ffX10_62 h15 dX10_next_118 ?_
      obtain ⟨v16, h17, hM⟩ := bnd hM
      refine ws_iald cx h17 dX10_next_121 ?_
      refine ws_bipush cx dX10_next_122 (v := 48) (by decide) ?_
      refine ws_icmp_ne cx dX10_next_124 (tgt := 145) (by decide) (fun c18 => ?_) (fun c18 => ?_)
      · have hM := if_f hM c18
        refine ws_sub [] (lv' := []) rfl ?_
        exact J145 _ _ hM
      · have hM := if_t hM c18
        refine ws_aload_n cx dX10_next_127 rfl (j := 0) rfl ?_
        obtain ⟨v19, h20, hM⟩ := bnd hM
        refine ws_getI cx ffX10_56 h20 dX10_next_128 ?_
        refine ws_aload_n cx dX10_next_131 rfl (j := 0) rfl ?_
        obtain ⟨v21, h22, hM⟩ := bnd hM
        refine ws_getI cx ffX10_62 h22 dX10_next_132 ?_
        refine ws_isub cx dX10_next_135 ?_
        refine ws_iconst cx dX10_next_136 (v := 1) (by decide) ?_
        refine ws_icmp_le cx dX10_next_137 (tgt := 145) (by decide) (fun c23 => ?_) (fun c23 => ?_)
        · have hM := if_t hM c23
          refine ws_sub [] (lv' := []) rfl ?_
          exact J145 _ _ hM
        · have hM := if_f hM c23
          refine ws_sub [] (lv' := []) rfl ?_
          exact J140 _ _ hM
  have L43 : ∀ (n : Nat) (me : ME), lpn (mX10_next_L43 S o) n me = some q → WS X b 1 S me 43 [(0, .ref (b + o))] [] := by
    intro  n
    induction n with
    | zero => intro me hM; exact absurd hM (by intro h; cases h)
    | succ n ih =>
      intro me hM
      have hM : mX10_next_L43 S o (lpn (mX10_next_L43 S o) n) me = some q := hM
      unfold mX10_next_L43 at hM
      refine ws_aload_n cx dX10_next_43 rfl (j := 0) rfl ?_
      obtain ⟨_, h26, hM⟩ := bnd hM
      obtain ⟨q24, h25, hM⟩ := bnd hM
      refine ws_callV cx (rest := []) (st' := [.int q24.1]) (kX10_isFigure l D b h25) mvX10_isFigure (ck_k h26) (by decide) (q := (RX10, TX10, 31)) rfl seX10_isFigure lkX10_68 rfl ⟨by decide, by decide⟩ (Nat.le_of_ble_eq_true rfl) ⟨rfl, rfl⟩ (Or.inl ⟨rfl, rfl⟩) rfl rfl dX10_next_44 ?_
      refine ws_if_eq cx dX10_next_47 (tgt := 103) (by decide) (fun c27 => ?_) (fun c27 => ?_)
      · have hM := if_t hM c27
        refine ws_sub [0] (lv' := [(0, .ref (b + o))]) rfl ?_
        exact J103 _ hM
      · have hM := if_f hM c27
        refine ws_aload_n cx dX10_next_50 rfl (j := 0) rfl ?_
        refine ws_aload_n cx dX10_next_51 rfl (j := 0) rfl ?_
        obtain ⟨v28, h29, hM⟩ := bnd hM
        refine ws_getI cx ffX10_72 h29 dX10_next_52 ?_
        refine ws_bipush cx dX10_next_55 (v := 99) (by decide) ?_
        refine ws_icmp_le cx dX10_next_57 (tgt := 67) (by decide) (fun c30 => ?_) (fun c30 => ?_)
        · have hM := if_t hM c30
          refine ws_bipush cx dX10_next_67 (v := 10) (by decide) ?_
          refine ws_aload_n cx dX10_next_69 rfl (j := 0) rfl ?_
          obtain ⟨v31, h32, hM⟩ := bnd hM
          refine ws_getI cx ffX10_72 h32 dX10_next_70 ?_
          refine ws_imul cx dX10_next_73 ?_
          refine ws_aload_n cx dX10_next_74 rfl (j := 0) rfl ?_
          obtain ⟨v33, h34, hM⟩ := bnd hM
          refine ws_getR cx ffX10_29 h34 dX10_next_75 ?_
          refine ws_aload_n cx dX10_next_78 rfl (j := 0) rfl ?_
          obtain ⟨v35, h36, hM⟩ := bnd hM
          refine ws_getI cx ffX10_56 h36 dX10_next_79 ?_
          obtain ⟨v37, h38, hM⟩ := bnd hM
          refine ws_iald cx h38 dX10_next_82 ?_
          refine ws_iadd cx dX10_next_83 ?_
          refine ws_bipush cx dX10_next_84 (v := 48) (by decide) ?_
          refine ws_isub cx dX10_next_86 ?_
          refine ws_sub [0] (lv' := [(0, .ref (b + o))]) rfl ?_
          exact J87 _ ih _ _ _ hM
        · have hM := if_f hM c30
          refine ws_aload_n cx dX10_next_60 rfl (j := 0) rfl ?_
          obtain ⟨v39, h40, hM⟩ := bnd hM
          refine ws_getI cx ffX10_72 h40 dX10_next_61 ?_
          refine ws_goto cx dX10_next_64 (tgt := 87) (by decide) ?_
          refine ws_sub [0] (lv' := [(0, .ref (b + o))]) rfl ?_
          exact J87 _ ih _ _ _ hM
  have J200 : ∀ (me : ME) (y0 : Nat) (y1 : Int32), mX10_next_j200 S o me y0 y1 = some q → WS X b 1 S me 200 [(0, .ref (b + o))] [.int y1, .ref (b + y0)] := by
    intro  me y0 y1 hM
    unfold mX10_next_j200 at hM
    obtain ⟨m42, h41, hM⟩ := bnd hM
    refine ws_putI cx ffX10_65 h41 dX10_next_200 ?_
    refine ws_aload_n cx dX10_next_203 rfl (j := 0) rfl ?_
    refine ws_dup cx dX10_next_204 rfl ?_
    obtain ⟨v43, h44, hM⟩ := bnd hM
    refine ws_getI cx ffX10_56 h44 dX10_next_205 ?_
    refine ws_iconst cx dX10_next_208 (v := 1) (by decide) ?_
    refine ws_iadd cx dX10_next_209 ?_
    obtain ⟨m46, h45, hM⟩ := bnd hM
    refine ws_putI cx ffX10_56 h45 dX10_next_210 ?_
    refine ws_sub [] (lv' := []) rfl ?_
    exact J213 _ hM
  have J186 : ∀ (me : ME) (y0 : Nat), mX10_next_j186 S o me y0 = some q → WS X b 1 S me 186 [(0, .ref (b + o))] [.ref (b + y0)] := by
    intro  me y0 hM
    unfold mX10_next_j186 at hM
    refine ws_aload_n cx dX10_next_186 rfl (j := 0) rfl ?_
    obtain ⟨v47, h48, hM⟩ := bnd hM
    refine ws_getR cx ffX10_29 h48 dX10_next_187 ?_
    refine ws_aload_n cx dX10_next_190 rfl (j := 0) rfl ?_
    obtain ⟨v49, h50, hM⟩ := bnd hM
    refine ws_getI cx ffX10_56 h50 dX10_next_191 ?_
    obtain ⟨v51, h52, hM⟩ := bnd hM
    refine ws_iald cx h52 dX10_next_194 ?_
    refine ws_goto cx dX10_next_195 (tgt := 200) (by decide) ?_
    refine ws_sub [0] (lv' := [(0, .ref (b + o))]) rfl ?_
    exact J200 _ _ _ hM
  unfold mX10_next at hM
  refine ws_aload_n cx dX10_next_0 rfl (j := 0) rfl ?_
  obtain ⟨_, h55, hM⟩ := bnd hM
  obtain ⟨q53, h54, hM⟩ := bnd hM
  refine ws_callV cx (rest := []) (st' := []) (kX10_blanks l D b h54) mvX10_blanks (ck_k h55) (by decide) (q := (RX10, TX10, 31)) rfl seX10_blanks lkX10_59 rfl ⟨by decide, by decide⟩ (Nat.le_of_ble_eq_true rfl) ⟨rfl, rfl⟩ (Or.inl ⟨rfl, rfl⟩) rfl rfl dX10_next_1 ?_
  refine ws_aload_n cx dX10_next_4 rfl (j := 0) rfl ?_
  refine ws_aload_n cx dX10_next_5 rfl (j := 0) rfl ?_
  obtain ⟨v56, h57, hM⟩ := bnd hM
  refine ws_getI cx ffX10_56 h57 dX10_next_6 ?_
  obtain ⟨m59, h58, hM⟩ := bnd hM
  refine ws_putI cx ffX10_62 h58 dX10_next_9 ?_
  refine ws_aload_n cx dX10_next_12 rfl (j := 0) rfl ?_
  obtain ⟨v60, h61, hM⟩ := bnd hM
  refine ws_getI cx ffX10_56 h61 dX10_next_13 ?_
  refine ws_aload_n cx dX10_next_16 rfl (j := 0) rfl ?_
  obtain ⟨v62, h63, hM⟩ := bnd hM
  refine ws_getI cx ffX10_52 h63 dX10_next_17 ?_
  refine ws_icmp_ne cx dX10_next_20 (tgt := 31) (by decide) (fun c64 => ?_) (fun c64 => ?_)
  · have hM := if_f hM c64
    refine ws_aload_n cx dX10_next_31 rfl (j := 0) rfl ?_
    obtain ⟨_, h67, hM⟩ := bnd hM
    obtain ⟨q65, h66, hM⟩ := bnd hM
    refine ws_callV cx (rest := []) (st' := [.int q65.1]) (kX10_isFigure l D b h66) mvX10_isFigure (ck_k h67) (by decide) (q := (RX10, TX10, 31)) rfl seX10_isFigure lkX10_68 rfl ⟨by decide, by decide⟩ (Nat.le_of_ble_eq_true rfl) ⟨rfl, rfl⟩ (Or.inl ⟨rfl, rfl⟩) rfl rfl dX10_next_32 ?_
    refine ws_if_eq cx dX10_next_35 (tgt := 152) (by decide) (fun c68 => ?_) (fun c68 => ?_)
    · have hM := if_t hM c68
      refine ws_aload_n cx dX10_next_152 rfl (j := 0) rfl ?_
      refine ws_aload_n cx dX10_next_153 rfl (j := 0) rfl ?_
      obtain ⟨v69, h70, hM⟩ := bnd hM
      refine ws_getR cx ffX10_29 h70 dX10_next_154 ?_
      refine ws_aload_n cx dX10_next_157 rfl (j := 0) rfl ?_
      obtain ⟨v71, h72, hM⟩ := bnd hM
      refine ws_getI cx ffX10_56 h72 dX10_next_158 ?_
      obtain ⟨v73, h74, hM⟩ := bnd hM
      refine ws_iald cx h74 dX10_next_161 ?_
      refine ws_bipush cx dX10_next_162 (v := 97) (by decide) ?_
      refine ws_bipush cx dX10_next_164 (v := 122) (by decide) ?_
      obtain ⟨q75, h76, hM⟩ := bnd hM
      refine ws_callS cx (rest := [.ref (b + o)]) (st' := [.int q75.1, .ref (b + o)]) (kX10_in l D b h76) mvX10_in lkX10_48 rfl ⟨by decide, by decide⟩ (Nat.le_of_ble_eq_true rfl) ⟨rfl, rfl⟩ (Or.inl ⟨rfl, rfl⟩) rfl rfl dX10_next_166 ?_
      refine ws_if_ne cx dX10_next_169 (tgt := 186) (by decide) (fun c77 => ?_) (fun c77 => ?_)
      · have hM := if_f hM c77
        refine ws_sub [0] (lv' := [(0, .ref (b + o))]) rfl ?_
        exact J186 _ _ hM
      · have hM := if_t hM c77
        refine ws_aload_n cx dX10_next_172 rfl (j := 0) rfl ?_
        obtain ⟨v78, h79, hM⟩ := bnd hM
        refine ws_getR cx ffX10_29 h79 dX10_next_173 ?_
        refine ws_aload_n cx dX10_next_176 rfl (j := 0) rfl ?_
        obtain ⟨v80, h81, hM⟩ := bnd hM
        refine ws_getI cx ffX10_56 h81 dX10_next_177 ?_
        obtain ⟨v82, h83, hM⟩ := bnd hM
        refine ws_iald cx h83 dX10_next_180 ?_
        refine ws_bipush cx dX10_next_181 (v := 59) (by decide) ?_
        refine ws_icmp_ne cx dX10_next_183 (tgt := 198) (by decide) (fun c84 => ?_) (fun c84 => ?_)
        · have hM := if_f hM c84
          refine ws_bipush cx dX10_next_198 (v := -2) (by decide) ?_
          refine ws_sub [0] (lv' := [(0, .ref (b + o))]) rfl ?_
          exact J200 _ _ _ hM
        · have hM := if_t hM c84
          refine ws_sub [0] (lv' := [(0, .ref (b + o))]) rfl ?_
          exact J186 _ _ hM
    · have hM := if_f hM c68
      refine ws_aload_n cx dX10_next_38 rfl (j := 0) rfl ?_
      refine ws_iconst cx dX10_next_39 (v := 0) (by decide) ?_
      obtain ⟨m86, h85, hM⟩ := bnd hM
      refine ws_putI cx ffX10_72 h85 dX10_next_40 ?_
      refine ws_sub [0] (lv' := [(0, .ref (b + o))]) rfl ?_
      exact L43 _ _ hM
  · have hM := if_t hM c64
    refine ws_aload_n cx dX10_next_23 rfl (j := 0) rfl ?_
    refine ws_iconst cx dX10_next_24 (v := -1) (by decide) ?_
    obtain ⟨m88, h87, hM⟩ := bnd hM
    refine ws_putI cx ffX10_65 h87 dX10_next_25 ?_
    refine ws_goto cx dX10_next_28 (tgt := 213) (by decide) ?_
    refine ws_sub [] (lv' := []) rfl ?_
    exact J213 _ hM

def mX10_fails (S : SH) (me : ME) (o : Nat) : Option (Int32 × ME) :=
  (gI S me 10 12 o).bind fun v1 =>
  (sI S me 10 15 o v1).bind fun m4 =>
  some ((0 : Int32), m4)
set_option maxRecDepth 100000 in
set_option maxHeartbeats 4000000 in
theorem kX10_fails (l : Launch) (D : va_G) (b : Nat) {S : SH} {me : ME} {o : Nat} {q : Int32 × ME} (hM : mX10_fails S me o = some q) : Ct l D b yX10_fails cX10_fails 1 (some .boolean) 0 0 0 0 [.ref (b + o)] S me S q.2 (some (.int q.1)) := by
  refine ct_of (own := RX10) (nm := "fails") (lv := [(0, .ref (b + o))]) (plainFor_of_name (by decide)) rfl rfl (Nat.le_of_ble_eq_true rfl) rfl ⟨rfl, rfl⟩ (fun X cx ex hL => ?_)
  unfold mX10_fails at hM
  refine ws_aload_n cx dX10_fails_0 rfl (j := 0) rfl ?_
  refine ws_aload_n cx dX10_fails_1 rfl (j := 0) rfl ?_
  obtain ⟨v1, h2, hM⟩ := bnd hM
  refine ws_getI cx ffX10_62 h2 dX10_fails_2 ?_
  obtain ⟨m4, h3, hM⟩ := bnd hM
  refine ws_putI cx ffX10_75 h3 dX10_fails_5 ?_
  refine ws_iconst cx dX10_fails_8 (v := 0) (by decide) ?_
  exact ws_zretM cx ex (by decide) hM dX10_fails_9
