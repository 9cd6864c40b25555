def mX7_solve_j94 (S : SH) (o : Nat) (a0 : Int32) (me : ME) : Option (Unit × ME) :=
  some ((), me)
def mX7_solve_j37 (S : SH) (o : Nat) (a0 : Int32) (me : ME) (y0 : Int64) : Option (Unit × ME) :=
  (gR S 7 1 o).bind fun v1 =>
  (aR S 15 v1 (0 : Int32)).bind fun v3 =>
  (aJ S me v3 (3 : Int32)).bind fun v5 =>
  (sJ S me 7 4 o (y0 * v5)).bind fun m8 =>
  (gR S 7 1 o).bind fun v9 =>
  (aR S 15 v9 (1 : Int32)).bind fun v11 =>
  (aJ S m8 v11 (3 : Int32)).bind fun v13 =>
  (sJ S m8 7 5 o (y0 * v13)).bind fun m16 =>
  (gR S 7 1 o).bind fun v17 =>
  (aR S 15 v17 (2 : Int32)).bind fun v19 =>
  (aJ S m16 v19 (3 : Int32)).bind fun v21 =>
  (sJ S m16 7 6 o (y0 * v21)).bind fun m24 =>
  (gR S 7 1 o).bind fun v25 =>
  (aR S 15 v25 (2 : Int32)).bind fun v27 =>
  (aJ S m24 v27 (2 : Int32)).bind fun v29 =>
  (sJ S m24 7 7 o (y0 * v29)).bind fun m32 =>
  mX7_solve_j94 S o a0 m32
def mX7_solve (S : SH) (me : ME) (o : Nat) (a0 : Int32) : Option (Unit × ME) :=
  (ck S 7 o).bind fun _ => (mX7_load S me o a0).bind fun q33 =>
  (ck S 7 o).bind fun _ => (mX7_eliminate S q33.2 o).bind fun q36 =>
  (gI S q36.2 7 3 o).bind fun v39 =>
  if v39 = (3 : Int32) then
    (gR S 7 1 o).bind fun v42 =>
    (aR S 15 v42 (2 : Int32)).bind fun v44 =>
    (aJ S q36.2 v44 (2 : Int32)).bind fun v46 =>
    if 0 ≤ (lg_cmp v46 (0 : Int64)) then
      mX7_solve_j37 S o a0 q36.2 (1 : Int64)
    else
      mX7_solve_j37 S o a0 q36.2 (-1 : Int64)
  else
    mX7_solve_j94 S o a0 q36.2
set_option maxRecDepth 100000 in
set_option maxHeartbeats 4000000 in
theorem kX7_solve (l : Launch) (D : va_G) (b : Nat) {S : SH} {me : ME} {o : Nat} {a0 : Int32} {q : Unit × ME} (hM : mX7_solve S me o a0 = some q) : Ct l D b yX7_solve cX7_solve 4 none 3 67 0 0 [.ref (b + o), .int a0] S me S q.2 none := by
  refine ct_of (own := RX7) (nm := "solve") (lv := [(0, .ref (b + o)), (1, .int a0)]) (plainFor_of_name (by decide)) rfl rfl (Nat.le_of_ble_eq_true rfl) rfl ⟨rfl, rfl⟩ (fun X cx ex hL => ?_)
  have J94 : ∀ (me : ME), mX7_solve_j94 S o a0 me = some q → WS X b 4 S me 94 [] [] := by
    intro  me hM
    unfold mX7_solve_j94 at hM
    exact ws_vretM cx ex hM dX7_solve_94
  have J37 : ∀ (me : ME) (y0 : Int64), mX7_solve_j37 S o a0 me y0 = some q → WS X b 4 S me 37 [(0, .ref (b + o))] [.long y0] := by
    intro  me y0 hM
    unfold mX7_solve_j37 at hM
    refine ws_lstore_n cx dX7_solve_37 rfl (by decide) (lv' := [(2, .long y0), (0, .ref (b + o))]) rfl ?_
    refine ws_aload_n cx dX7_solve_38 rfl (j := 1) rfl ?_
    refine ws_lload_n cx dX7_solve_39 rfl (j := 0) rfl ?_
    refine ws_aload_n cx dX7_solve_40 rfl (j := 1) rfl ?_
    obtain ⟨v1, h2, hM⟩ := bnd hM
    refine ws_getR cx ffX7_13 h2 dX7_solve_41 ?_
    refine ws_iconst cx dX7_solve_44 (v := 0) (by decide) ?_
    obtain ⟨v3, h4, hM⟩ := bnd hM
    refine ws_aald cx (by decide) h4 dX7_solve_45 ?_
    refine ws_iconst cx dX7_solve_46 (v := 3) (by decide) ?_
    obtain ⟨v5, h6, hM⟩ := bnd hM
    refine ws_lald cx h6 dX7_solve_47 ?_
    refine ws_lmul cx dX7_solve_48 ?_
    obtain ⟨m8, h7, hM⟩ := bnd hM
    refine ws_putJ cx ffX7_60 h7 dX7_solve_49 ?_
    refine ws_aload_n cx dX7_solve_52 rfl (j := 1) rfl ?_
    refine ws_lload_n cx dX7_solve_53 rfl (j := 0) rfl ?_
    refine ws_aload_n cx dX7_solve_54 rfl (j := 1) rfl ?_
    obtain ⟨v9, h10, hM⟩ := bnd hM
    refine ws_getR cx ffX7_13 h10 dX7_solve_55 ?_
    refine ws_iconst cx dX7_solve_58 (v := 1) (by decide) ?_
    obtain ⟨v11, h12, hM⟩ := bnd hM
    refine ws_aald cx (by decide) h12 dX7_solve_59 ?_
    refine ws_iconst cx dX7_solve_60 (v := 3) (by decide) ?_
    obtain ⟨v13, h14, hM⟩ := bnd hM
    refine ws_lald cx h14 dX7_solve_61 ?_
    refine ws_lmul cx dX7_solve_62 ?_
    obtain ⟨m16, h15, hM⟩ := bnd hM
    refine ws_putJ cx ffX7_63 h15 dX7_solve_63 ?_
    refine ws_aload_n cx dX7_solve_66 rfl (j := 1) rfl ?_
    refine ws_lload_n cx dX7_solve_67 rfl (j := 0) rfl ?_
    refine ws_aload_n cx dX7_solve_68 rfl (j := 1) rfl ?_
    obtain ⟨v17, h18, hM⟩ := bnd hM
    refine ws_getR cx ffX7_13 h18 dX7_solve_69 ?_
    refine ws_iconst cx dX7_solve_72 (v := 2) (by decide) ?_
    obtain ⟨v19, h20, hM⟩ := bnd hM
    refine ws_aald cx (by decide) h20 dX7_solve_73 ?_
    refine ws_iconst cx dX7_solve_74 (v := 3) (by decide) ?_
    obtain ⟨v21, h22, hM⟩ := bnd hM
    refine ws_lald cx h22 dX7_solve_75 ?_
    refine ws_lmul cx dX7_solve_76 ?_
    obtain ⟨m24, h23, hM⟩ := bnd hM
    refine ws_putJ cx ffX7_36 h23 dX7_solve_77 ?_
    refine ws_aload_n cx dX7_solve_80 rfl (j := 1) rfl ?_
    refine ws_lload_n cx dX7_solve_81 rfl (j := 0) rfl ?_
    refine ws_aload_n cx dX7_solve_82 rfl (j := 1) rfl ?_
    obtain ⟨v25, h26, hM⟩ := bnd hM
    refine ws_getR cx ffX7_13 h26 dX7_solve_83 ?_
    refine ws_iconst cx dX7_solve_86 (v := 2) (by decide) ?_
    obtain ⟨v27, h28, hM⟩ := bnd hM
    refine ws_aald cx (by decide) h28 dX7_solve_87 ?_
    refine ws_iconst cx dX7_solve_88 (v := 2) (by decide) ?_
    obtain ⟨v29, h30, hM⟩ := bnd hM
    refine ws_lald cx h30 dX7_solve_89 ?_
    refine ws_lmul cx dX7_solve_90 ?_
    obtain ⟨m32, h31, hM⟩ := bnd hM
    refine ws_putJ cx ffX7_45 h31 dX7_solve_91 ?_
    refine ws_sub [] (lv' := []) rfl ?_
    exact J94 _ hM
  unfold mX7_solve at hM
  refine ws_aload_n cx dX7_solve_0 rfl (j := 0) rfl ?_
  refine ws_iload_n cx dX7_solve_1 rfl (j := 1) rfl ?_
  obtain ⟨_, h35, hM⟩ := bnd hM
  obtain ⟨q33, h34, hM⟩ := bnd hM
  refine ws_callV cx (rest := []) (st' := []) (kX7_load l D b h34) mvX7_load (ck_k h35) (by decide) (q := (RX7, TX7, 8)) rfl seX7_load lkX7_52 rfl ⟨by decide, by decide⟩ (Nat.le_of_ble_eq_true rfl) ⟨rfl, rfl⟩ (Or.inl ⟨rfl, rfl⟩) rfl rfl dX7_solve_2 ?_
  refine ws_aload_n cx dX7_solve_5 rfl (j := 0) rfl ?_
  obtain ⟨_, h38, hM⟩ := bnd hM
  obtain ⟨q36, h37, hM⟩ := bnd hM
  refine ws_callV cx (rest := []) (st' := []) (kX7_eliminate l D b h37) mvX7_eliminate (ck_k h38) (by decide) (q := (RX7, TX7, 8)) rfl seX7_eliminate lkX7_55 rfl ⟨by decide, by decide⟩ (Nat.le_of_ble_eq_true rfl) ⟨rfl, rfl⟩ (Or.inl ⟨rfl, rfl⟩) rfl rfl dX7_solve_6 ?_
  refine ws_aload_n cx dX7_solve_9 rfl (j := 0) rfl ?_
  obtain ⟨v39, h40, hM⟩ := bnd hM
  refine ws_getI cx ffX7_28 h40 dX7_solve_10 ?_
  refine ws_iconst cx dX7_solve_13 (v := 3) (by decide) ?_
  refine ws_icmp_ne cx dX7_solve_14 (tgt := 94) (by decide) (fun c41 => ?_) (fun c41 => ?_)
  · have hM := if_f hM c41
    refine ws_sub [] (lv' := []) rfl ?_
    exact J94 _ hM
  · have hM := if_t hM c41
    refine ws_aload_n cx dX7_solve_17 rfl (j := 0) rfl ?_
    obtain ⟨v42, h43, hM⟩ := bnd hM
    refine ws_getR cx ffX7_13 h43 dX7_solve_18 ?_
    refine ws_iconst cx dX7_solve_21 (v := 2) (by decide) ?_
    obtain ⟨v44, h45, hM⟩ := bnd hM
    refine ws_aald cx (by decide) h45 dX7_solve_22 ?_
    refine ws_iconst cx dX7_solve_23 (v := 2) (by decide) ?_
    obtain ⟨v46, h47, hM⟩ := bnd hM
    refine ws_lald cx h47 dX7_solve_24 ?_
    refine ws_lconst cx dX7_solve_25 (v := 0) (by decide) ?_
    refine ws_lcmp cx dX7_solve_26 ?_
    refine ws_if_ge cx dX7_solve_27 (tgt := 36) (by decide) (fun c48 => ?_) (fun c48 => ?_)
    · have hM := if_t hM c48
      refine ws_lconst cx dX7_solve_36 (v := 1) (by decide) ?_
      refine ws_sub [0] (lv' := [(0, .ref (b + o))]) rfl ?_
      exact J37 _ _ hM
    · have hM := if_f hM c48
      refine ws_ldc2 cx cwX7_58 dX7_solve_30 ?_
      refine ws_goto cx dX7_solve_33 (tgt := 37) (by decide) ?_
      refine ws_sub [0] (lv' := [(0, .ref (b + o))]) rfl ?_
      exact J37 _ _ hM

def mX7_agree_j26 (S : SH) (o : Nat) (me : ME) : Option (Int32 × ME) :=
  some ((0 : Int32), me)
def mX7_agree_j34 (S : SH) (o : Nat) (me : ME) : Option (Int32 × ME) :=
  some ((1 : Int32), me)
def mX7_agree_L5 (S : SH) (o : Nat) (k5 : (ME × Int32 → Option (Int32 × ME))) : ME × Int32 → Option (Int32 × ME)
  | (me, x1) =>
    (gI S me 7 2 o).bind fun v1 =>
    if v1 ≤ x1 then
      mX7_agree_j34 S o me
    else
      (gR S 7 1 o).bind fun v4 =>
      (aR S 15 v4 x1).bind fun v6 =>
      (aJ S me v6 (3 : Int32)).bind fun v8 =>
      if (lg_cmp v8 (0 : Int64)) = 0 then
        k5 (me, x1 + (1 : Int32))
      else
        mX7_agree_j26 S o me
def mX7_agree (S : SH) (me : ME) (o : Nat) : Option (Int32 × ME) :=
  (gI S me 7 3 o).bind fun v11 =>
  lpn (mX7_agree_L5 S o) lpF (me, v11)
set_option maxRecDepth 100000 in
set_option maxHeartbeats 4000000 in
theorem kX7_agree (l : Launch) (D : va_G) (b : Nat) {S : SH} {me : ME} {o : Nat} {q : Int32 × ME} (hM : mX7_agree S me o = some q) : Ct l D b yX7_agree cX7_agree 2 (some .boolean) 0 0 0 0 [.ref (b + o)] S me S q.2 (some (.int q.1)) := by
  refine ct_of (own := RX7) (nm := "agree") (lv := [(0, .ref (b + o))]) (plainFor_of_name (by decide)) rfl rfl (Nat.le_of_ble_eq_true rfl) rfl ⟨rfl, rfl⟩ (fun X cx ex hL => ?_)
  have J26 : ∀ (me : ME), mX7_agree_j26 S o me = some q → WS X b 2 S me 26 [] [] := by
    intro  me hM
    unfold mX7_agree_j26 at hM
    refine ws_iconst cx dX7_agree_26 (v := 0) (by decide) ?_
    exact ws_zretM cx ex (by decide) hM dX7_agree_27
  have J34 : ∀ (me : ME), mX7_agree_j34 S o me = some q → WS X b 2 S me 34 [] [] := by
    intro  me hM
    unfold mX7_agree_j34 at hM
    refine ws_iconst cx dX7_agree_34 (v := 1) (by decide) ?_
    exact ws_zretM cx ex (by decide) hM dX7_agree_35
  have L5 : ∀ (n : Nat) (me : ME) (x1 : Int32), lpn (mX7_agree_L5 S o) n (me, x1) = some q → WS X b 2 S me 5 [(0, .ref (b + o)), (1, .int x1)] [] := by
    intro  n
    induction n with
    | zero => intro me x1 hM; exact absurd hM (by intro h; cases h)
    | succ n ih =>
      intro me x1 hM
      have hM : mX7_agree_L5 S o (lpn (mX7_agree_L5 S o) n) (me, x1) = some q := hM
      unfold mX7_agree_L5 at hM
      refine ws_iload_n cx dX7_agree_5 rfl (j := 1) rfl ?_
      refine ws_aload_n cx dX7_agree_6 rfl (j := 0) rfl ?_
      obtain ⟨v1, h2, hM⟩ := bnd hM
      refine ws_getI cx ffX7_70 h2 dX7_agree_7 ?_
      refine ws_icmp_ge cx dX7_agree_10 (tgt := 34) (by decide) (fun c3 => ?_) (fun c3 => ?_)
      · have hM := if_t hM c3
        refine ws_sub [] (lv' := []) rfl ?_
        exact J34 _ hM
      · have hM := if_f hM c3
        refine ws_aload_n cx dX7_agree_13 rfl (j := 0) rfl ?_
        obtain ⟨v4, h5, hM⟩ := bnd hM
        refine ws_getR cx ffX7_13 h5 dX7_agree_14 ?_
        refine ws_iload_n cx dX7_agree_17 rfl (j := 1) rfl ?_
        obtain ⟨v6, h7, hM⟩ := bnd hM
        refine ws_aald cx (by decide) h7 dX7_agree_18 ?_
        refine ws_iconst cx dX7_agree_19 (v := 3) (by decide) ?_
        obtain ⟨v8, h9, hM⟩ := bnd hM
        refine ws_lald cx h9 dX7_agree_20 ?_
        refine ws_lconst cx dX7_agree_21 (v := 0) (by decide) ?_
        refine ws_lcmp cx dX7_agree_22 ?_
        refine ws_if_eq cx dX7_agree_23 (tgt := 28) (by decide) (fun c10 => ?_) (fun c10 => ?_)
        · have hM := if_t hM c10
          refine ws_iinc cx dX7_agree_28 (j := 1) rfl (v := x1 + (1 : Int32)) rfl (by decide) (lv' := [(1, .int (x1 + (1 : Int32))), (0, .ref (b + o))]) rfl ?_
          refine ws_goto cx dX7_agree_31 (tgt := 5) (by decide) ?_
          refine ws_sub [1, 0] (lv' := [(0, .ref (b + o)), (1, .int (x1 + (1 : Int32)))]) rfl ?_
          exact ih _ _ hM
        · have hM := if_f hM c10
          refine ws_sub [] (lv' := []) rfl ?_
          exact J26 _ hM
  unfold mX7_agree at hM
  refine ws_aload_n cx dX7_agree_0 rfl (j := 0) rfl ?_
  obtain ⟨v11, h12, hM⟩ := bnd hM
  refine ws_getI cx ffX7_28 h12 dX7_agree_1 ?_
  refine ws_istore_n cx dX7_agree_4 rfl (by decide) (lv' := [(1, .int v11), (0, .ref (b + o))]) rfl ?_
  refine ws_sub [1, 0] (lv' := [(0, .ref (b + o)), (1, .int v11)]) rfl ?_
  exact L5 _ _ _ hM

def mX7_miss (S : SH) (me : ME) (o : Nat) (a0 : Int32) : Option (Int64 × ME) :=
  (gJ S me 7 4 o).bind fun v1 =>
  (gR S 7 0 o).bind fun v3 =>
  (gR S 5 1 v3).bind fun v5 =>
  (aI S me 11 v5 a0).bind fun v7 =>
  (gJ S me 7 7 o).bind fun v9 =>
  (gJ S me 7 5 o).bind fun v11 =>
  (gR S 7 0 o).bind fun v13 =>
  (gR S 5 2 v13).bind fun v15 =>
  (aI S me 11 v15 a0).bind fun v17 =>
  (gJ S me 7 7 o).bind fun v19 =>
  (gR S 7 0 o).bind fun v21 =>
  (gR S 5 3 v21).bind fun v23 =>
  (aI S me 11 v23 a0).bind fun v25 =>
  (gJ S me 7 7 o).bind fun v27 =>
  (gJ S me 7 6 o).bind fun v29 =>
  some ((((v1 - (v7.toInt64 * v9)) * (v1 - (v7.toInt64 * v9))) + ((v11 - (v17.toInt64 * v19)) * (v11 - (v17.toInt64 * v19)))) - (((v25.toInt64 * v27) - v29) * ((v25.toInt64 * v27) - v29)), me)
set_option maxRecDepth 100000 in
set_option maxHeartbeats 4000000 in
theorem kX7_miss (l : Launch) (D : va_G) (b : Nat) {S : SH} {me : ME} {o : Nat} {a0 : Int32} {q : Int64 × ME} (hM : mX7_miss S me o a0 = some q) : Ct l D b yX7_miss cX7_miss 8 (some .long) 0 0 0 0 [.ref (b + o), .int a0] S me S q.2 (some (.long q.1)) := by
  refine ct_of (own := RX7) (nm := "miss") (lv := [(0, .ref (b + o)), (1, .int a0)]) (plainFor_of_name (by decide)) rfl rfl (Nat.le_of_ble_eq_true rfl) rfl ⟨rfl, rfl⟩ (fun X cx ex hL => ?_)
  unfold mX7_miss at hM
  refine ws_aload_n cx dX7_miss_0 rfl (j := 0) rfl ?_
  obtain ⟨v1, h2, hM⟩ := bnd hM
  refine ws_getJ cx ffX7_60 h2 dX7_miss_1 ?_
  refine ws_aload_n cx dX7_miss_4 rfl (j := 0) rfl ?_
  obtain ⟨v3, h4, hM⟩ := bnd hM
  refine ws_getR cx ffX7_16 h4 dX7_miss_5 ?_
  obtain ⟨v5, h6, hM⟩ := bnd hM
  refine ws_getR cx ffX7_66 h6 dX7_miss_8 ?_
  refine ws_iload_n cx dX7_miss_11 rfl (j := 1) rfl ?_
  obtain ⟨v7, h8, hM⟩ := bnd hM
  refine ws_iald cx h8 dX7_miss_12 ?_
  refine ws_i2l cx dX7_miss_13 ?_
  refine ws_aload_n cx dX7_miss_14 rfl (j := 0) rfl ?_
  obtain ⟨v9, h10, hM⟩ := bnd hM
  refine ws_getJ cx ffX7_45 h10 dX7_miss_15 ?_
  refine ws_lmul cx dX7_miss_18 ?_
  refine ws_lsub cx dX7_miss_19 ?_
  refine ws_lstore_n cx dX7_miss_20 rfl (by decide) (lv' := [(2, .long (v1 - (v7.toInt64 * v9))), (0, .ref (b + o)), (1, .int a0)]) rfl ?_
  refine ws_aload_n cx dX7_miss_21 rfl (j := 1) rfl ?_
  obtain ⟨v11, h12, hM⟩ := bnd hM
  refine ws_getJ cx ffX7_63 h12 dX7_miss_22 ?_
  refine ws_aload_n cx dX7_miss_25 rfl (j := 1) rfl ?_
  obtain ⟨v13, h14, hM⟩ := bnd hM
  refine ws_getR cx ffX7_16 h14 dX7_miss_26 ?_
  obtain ⟨v15, h16, hM⟩ := bnd hM
  refine ws_getR cx ffX7_68 h16 dX7_miss_29 ?_
  refine ws_iload_n cx dX7_miss_32 rfl (j := 2) rfl ?_
  obtain ⟨v17, h18, hM⟩ := bnd hM
  refine ws_iald cx h18 dX7_miss_33 ?_
  refine ws_i2l cx dX7_miss_34 ?_
  refine ws_aload_n cx dX7_miss_35 rfl (j := 1) rfl ?_
  obtain ⟨v19, h20, hM⟩ := bnd hM
  refine ws_getJ cx ffX7_45 h20 dX7_miss_36 ?_
  refine ws_lmul cx dX7_miss_39 ?_
  refine ws_lsub cx dX7_miss_40 ?_
  refine ws_lstore cx dX7_miss_41 (by decide) (lv' := [(4, .long (v11 - (v17.toInt64 * v19))), (2, .long (v1 - (v7.toInt64 * v9))), (0, .ref (b + o)), (1, .int a0)]) rfl ?_
  refine ws_aload_n cx dX7_miss_43 rfl (j := 2) rfl ?_
  obtain ⟨v21, h22, hM⟩ := bnd hM
  refine ws_getR cx ffX7_16 h22 dX7_miss_44 ?_
  obtain ⟨v23, h24, hM⟩ := bnd hM
  refine ws_getR cx ffX7_40 h24 dX7_miss_47 ?_
  refine ws_iload_n cx dX7_miss_50 rfl (j := 3) rfl ?_
  obtain ⟨v25, h26, hM⟩ := bnd hM
  refine ws_iald cx h26 dX7_miss_51 ?_
  refine ws_i2l cx dX7_miss_52 ?_
  refine ws_aload_n cx dX7_miss_53 rfl (j := 2) rfl ?_
  obtain ⟨v27, h28, hM⟩ := bnd hM
  refine ws_getJ cx ffX7_45 h28 dX7_miss_54 ?_
  refine ws_lmul cx dX7_miss_57 ?_
  refine ws_aload_n cx dX7_miss_58 rfl (j := 2) rfl ?_
  obtain ⟨v29, h30, hM⟩ := bnd hM
  refine ws_getJ cx ffX7_36 h30 dX7_miss_59 ?_
  refine ws_lsub cx dX7_miss_62 ?_
  refine ws_lstore cx dX7_miss_63 (by decide) (lv' := [(6, .long ((v25.toInt64 * v27) - v29)), (4, .long (v11 - (v17.toInt64 * v19))), (2, .long (v1 - (v7.toInt64 * v9))), (0, .ref (b + o)), (1, .int a0)]) rfl ?_
  refine ws_lload_n cx dX7_miss_65 rfl (j := 2) rfl ?_
  refine ws_lload_n cx dX7_miss_66 rfl (j := 2) rfl ?_
  refine ws_lmul cx dX7_miss_67 ?_
  refine ws_lload cx dX7_miss_68 (j := 1) rfl ?_
  refine ws_lload cx dX7_miss_70 (j := 1) rfl ?_
  refine ws_lmul cx dX7_miss_72 ?_
  refine ws_ladd cx dX7_miss_73 ?_
  refine ws_lload cx dX7_miss_74 (j := 0) rfl ?_
  refine ws_lload cx dX7_miss_76 (j := 0) rfl ?_
  refine ws_lmul cx dX7_miss_78 ?_
  refine ws_lsub cx dX7_miss_79 ?_
  exact ws_lretM cx ex hM dX7_miss_80

def mX7_judge_j78 (S : SH) (o : Nat) (a0 : Int32) (me : ME) (y0 : Int32) : Option (Int32 × ME) :=
  some (y0, me)
def mX7_judge_j77 (S : SH) (o : Nat) (a0 : Int32) (me : ME) : Option (Int32 × ME) :=
  mX7_judge_j78 S o a0 me (2 : Int32)
def mX7_judge_j58 (S : SH) (o : Nat) (a0 : Int32) (me : ME) (x2 : Int32) (y0 : Int32) : Option (Int32 × ME) :=
  if y0 = 0 then
    mX7_judge_j77 S o a0 me
  else
    (ck S 7 o).bind fun _ => (mX7_miss S me o x2).bind fun q2 =>
    if (lg_cmp q2.1 (0 : Int64)) = 0 then
      mX7_judge_j78 S o a0 q2.2 (0 : Int32)
    else
      mX7_judge_j77 S o a0 q2.2
def mX7_judge (S : SH) (me : ME) (o : Nat) (a0 : Int32) : Option (Int32 × ME) :=
  (ck S 7 o).bind fun _ => (mX7_solve S me o a0).bind fun q6 =>
  (ck S 7 o).bind fun _ => (mX7_agree S q6.2 o).bind fun q9 =>
  if q9.1 = 0 then
    some ((2 : Int32), q9.2)
  else
    (gI S q9.2 7 3 o).bind fun v13 =>
    if (3 : Int32) ≤ v13 then
      (ck S 7 o).bind fun _ => (mX7_firstOf S q9.2 o a0).bind fun q16 =>
      (gJ S q16.2 7 6 o).bind fun v19 =>
      (gR S 7 0 o).bind fun v21 =>
      (gR S 5 3 v21).bind fun v23 =>
      (aI S q16.2 11 v23 q16.1).bind fun v25 =>
      (gJ S q16.2 7 7 o).bind fun v27 =>
      if 0 < (lg_cmp v19 (v25.toInt64 * v27)) then
        mX7_judge_j58 S o a0 q16.2 q16.1 (0 : Int32)
      else
        mX7_judge_j58 S o a0 q16.2 q16.1 (1 : Int32)
    else
      some ((1 : Int32), q9.2)
set_option maxRecDepth 100000 in
set_option maxHeartbeats 4000000 in
theorem kX7_judge (l : Launch) (D : va_G) (b : Nat) {S : SH} {me : ME} {o : Nat} {a0 : Int32} {q : Int32 × ME} (hM : mX7_judge S me o a0 = some q) : Ct l D b yX7_judge cX7_judge 4 (some .int) 4 90 0 0 [.ref (b + o), .int a0] S me S q.2 (some (.int q.1)) := by
  refine ct_of (own := RX7) (nm := "judge") (lv := [(0, .ref (b + o)), (1, .int a0)]) (plainFor_of_name (by decide)) rfl rfl (Nat.le_of_ble_eq_true rfl) rfl ⟨rfl, rfl⟩ (fun X cx ex hL => ?_)
  have J78 : ∀ (me : ME) (y0 : Int32), mX7_judge_j78 S o a0 me y0 = some q → WS X b 4 S me 78 [] [.int y0] := by
    intro  me y0 hM
    unfold mX7_judge_j78 at hM
    exact ws_iretM cx ex hM dX7_judge_78
  have J77 : ∀ (me : ME), mX7_judge_j77 S o a0 me = some q → WS X b 4 S me 77 [] [] := by
    intro  me hM
    unfold mX7_judge_j77 at hM
    refine ws_iconst cx dX7_judge_77 (v := 2) (by decide) ?_
    refine ws_sub [] (lv' := []) rfl ?_
    exact J78 _ _ hM
  have J58 : ∀ (me : ME) (x2 : Int32) (y0 : Int32), mX7_judge_j58 S o a0 me x2 y0 = some q → WS X b 4 S me 58 [(0, .ref (b + o)), (2, .int x2)] [.int y0] := by
    intro  me x2 y0 hM
    unfold mX7_judge_j58 at hM
    refine ws_istore_n cx dX7_judge_58 rfl (by decide) (lv' := [(3, .int y0), (0, .ref (b + o)), (2, .int x2)]) rfl ?_
    refine ws_iload_n cx dX7_judge_59 rfl (j := 0) rfl ?_
    refine ws_if_eq cx dX7_judge_60 (tgt := 77) (by decide) (fun c1 => ?_) (fun c1 => ?_)
    · have hM := if_t hM c1
      refine ws_sub [] (lv' := []) rfl ?_
      exact J77 _ hM
    · have hM := if_f hM c1
      refine ws_aload_n cx dX7_judge_63 rfl (j := 1) rfl ?_
      refine ws_iload_n cx dX7_judge_64 rfl (j := 2) rfl ?_
      obtain ⟨_, h4, hM⟩ := bnd hM
      obtain ⟨q2, h3, hM⟩ := bnd hM
      refine ws_callV cx (rest := []) (st' := [.long q2.1]) (kX7_miss l D b h3) mvX7_miss (ck_k h4) (by decide) (q := (RX7, TX7, 8)) rfl seX7_miss lkX7_48 rfl ⟨by decide, by decide⟩ (Nat.le_of_ble_eq_true rfl) ⟨rfl, rfl⟩ (Or.inl ⟨rfl, rfl⟩) rfl rfl dX7_judge_65 ?_
      refine ws_lconst cx dX7_judge_68 (v := 0) (by decide) ?_
      refine ws_lcmp cx dX7_judge_69 ?_
      refine ws_if_ne cx dX7_judge_70 (tgt := 77) (by decide) (fun c5 => ?_) (fun c5 => ?_)
      · have hM := if_f hM c5
        refine ws_sub [] (lv' := []) rfl ?_
        exact J77 _ hM
      · have hM := if_t hM c5
        refine ws_iconst cx dX7_judge_73 (v := 0) (by decide) ?_
        refine ws_goto cx dX7_judge_74 (tgt := 78) (by decide) ?_
        refine ws_sub [] (lv' := []) rfl ?_
        exact J78 _ _ hM
  unfold mX7_judge at hM
  refine ws_aload_n cx dX7_judge_0 rfl (j := 0) rfl ?_
  refine ws_iload_n cx dX7_judge_1 rfl (j := 1) rfl ?_
  obtain ⟨_, h8, hM⟩ := bnd hM
  obtain ⟨q6, h7, hM⟩ := bnd hM
  refine ws_callV cx (rest := []) (st' := []) (kX7_solve l D b h7) mvX7_solve (ck_k h8) (by decide) (q := (RX7, TX7, 8)) rfl seX7_solve lkX7_20 rfl ⟨by decide, by decide⟩ (Nat.le_of_ble_eq_true rfl) ⟨rfl, rfl⟩ (Or.inl ⟨rfl, rfl⟩) rfl rfl dX7_judge_2 ?_
  refine ws_aload_n cx dX7_judge_5 rfl (j := 0) rfl ?_
  obtain ⟨_, h11, hM⟩ := bnd hM
  obtain ⟨q9, h10, hM⟩ := bnd hM
  refine ws_callV cx (rest := []) (st' := [.int q9.1]) (kX7_agree l D b h10) mvX7_agree (ck_k h11) (by decide) (q := (RX7, TX7, 8)) rfl seX7_agree lkX7_24 rfl ⟨by decide, by decide⟩ (Nat.le_of_ble_eq_true rfl) ⟨rfl, rfl⟩ (Or.inl ⟨rfl, rfl⟩) rfl rfl dX7_judge_6 ?_
  refine ws_if_ne cx dX7_judge_9 (tgt := 14) (by decide) (fun c12 => ?_) (fun c12 => ?_)
  · have hM := if_f hM c12
    refine ws_aload_n cx dX7_judge_14 rfl (j := 0) rfl ?_
    obtain ⟨v13, h14, hM⟩ := bnd hM
    refine ws_getI cx ffX7_28 h14 dX7_judge_15 ?_
    refine ws_iconst cx dX7_judge_18 (v := 3) (by decide) ?_
    refine ws_icmp_ge cx dX7_judge_19 (tgt := 24) (by decide) (fun c15 => ?_) (fun c15 => ?_)
    · have hM := if_t hM c15
      refine ws_aload_n cx dX7_judge_24 rfl (j := 0) rfl ?_
      refine ws_iload_n cx dX7_judge_25 rfl (j := 1) rfl ?_
      obtain ⟨_, h18, hM⟩ := bnd hM
      obtain ⟨q16, h17, hM⟩ := bnd hM
      refine ws_callV cx (rest := []) (st' := [.int q16.1]) (kX7_firstOf l D b h17) mvX7_firstOf (ck_k h18) (by decide) (q := (RX7, TX7, 8)) rfl seX7_firstOf lkX7_32 rfl ⟨by decide, by decide⟩ (Nat.le_of_ble_eq_true rfl) ⟨rfl, rfl⟩ (Or.inl ⟨rfl, rfl⟩) rfl rfl dX7_judge_26 ?_
      refine ws_istore_n cx dX7_judge_29 rfl (by decide) (lv' := [(2, .int q16.1), (0, .ref (b + o)), (1, .int a0)]) rfl ?_
      refine ws_aload_n cx dX7_judge_30 rfl (j := 1) rfl ?_
      obtain ⟨v19, h20, hM⟩ := bnd hM
      refine ws_getJ cx ffX7_36 h20 dX7_judge_31 ?_
      refine ws_aload_n cx dX7_judge_34 rfl (j := 1) rfl ?_
      obtain ⟨v21, h22, hM⟩ := bnd hM
      refine ws_getR cx ffX7_16 h22 dX7_judge_35 ?_
      obtain ⟨v23, h24, hM⟩ := bnd hM
      refine ws_getR cx ffX7_40 h24 dX7_judge_38 ?_
      refine ws_iload_n cx dX7_judge_41 rfl (j := 0) rfl ?_
      obtain ⟨v25, h26, hM⟩ := bnd hM
      refine ws_iald cx h26 dX7_judge_42 ?_
      refine ws_i2l cx dX7_judge_43 ?_
      refine ws_aload_n cx dX7_judge_44 rfl (j := 1) rfl ?_
      obtain ⟨v27, h28, hM⟩ := bnd hM
      refine ws_getJ cx ffX7_45 h28 dX7_judge_45 ?_
      refine ws_lmul cx dX7_judge_48 ?_
      refine ws_lcmp cx dX7_judge_49 ?_
      refine ws_if_gt cx dX7_judge_50 (tgt := 57) (by decide) (fun c29 => ?_) (fun c29 => ?_)
      · have hM := if_t hM c29
        refine ws_iconst cx dX7_judge_57 (v := 0) (by decide) ?_
        refine ws_sub [1, 0] (lv' := [(0, .ref (b + o)), (2, .int q16.1)]) rfl ?_
        exact J58 _ _ _ hM
      · have hM := if_f hM c29
        refine ws_iconst cx dX7_judge_53 (v := 1) (by decide) ?_
        refine ws_goto cx dX7_judge_54 (tgt := 58) (by decide) ?_
        refine ws_sub [1, 0] (lv' := [(0, .ref (b + o)), (2, .int q16.1)]) rfl ?_
        exact J58 _ _ _ hM
    · have hM := if_f hM c15
      refine ws_iconst cx dX7_judge_22 (v := 1) (by decide) ?_
      exact ws_iretM cx ex hM dX7_judge_23
  · have hM := if_t hM c12
    refine ws_iconst cx dX7_judge_12 (v := 2) (by decide) ?_
    exact ws_iretM cx ex hM dX7_judge_13

def mJ6_bitCount_0f7a4 (S : SH) (me : ME) (a0 : Int32) : Option (Int32 × ME) :=
  some ((((((((a0 - (((a0.toUInt32 >>> ((1 : Int32).toUInt32 &&& Int32.toUInt32 31)).toInt32) &&& (1431655765 : Int32))) &&& (858993459 : Int32)) + ((((a0 - (((a0.toUInt32 >>> ((1 : Int32).toUInt32 &&& Int32.toUInt32 31)).toInt32) &&& (1431655765 : Int32))).toUInt32 >>> ((2 : Int32).toUInt32 &&& Int32.toUInt32 31)).toInt32) &&& (858993459 : Int32))) + (((((a0 - (((a0.toUInt32 >>> ((1 : Int32).toUInt32 &&& Int32.toUInt32 31)).toInt32) &&& (1431655765 : Int32))) &&& (858993459 : Int32)) + ((((a0 - (((a0.toUInt32 >>> ((1 : Int32).toUInt32 &&& Int32.toUInt32 31)).toInt32) &&& (1431655765 : Int32))).toUInt32 >>> ((2 : Int32).toUInt32 &&& Int32.toUInt32 31)).toInt32) &&& (858993459 : Int32))).toUInt32 >>> ((4 : Int32).toUInt32 &&& Int32.toUInt32 31)).toInt32)) &&& (252645135 : Int32)) + (((((((a0 - (((a0.toUInt32 >>> ((1 : Int32).toUInt32 &&& Int32.toUInt32 31)).toInt32) &&& (1431655765 : Int32))) &&& (858993459 : Int32)) + ((((a0 - (((a0.toUInt32 >>> ((1 : Int32).toUInt32 &&& Int32.toUInt32 31)).toInt32) &&& (1431655765 : Int32))).toUInt32 >>> ((2 : Int32).toUInt32 &&& Int32.toUInt32 31)).toInt32) &&& (858993459 : Int32))) + (((((a0 - (((a0.toUInt32 >>> ((1 : Int32).toUInt32 &&& Int32.toUInt32 31)).toInt32) &&& (1431655765 : Int32))) &&& (858993459 : Int32)) + ((((a0 - (((a0.toUInt32 >>> ((1 : Int32).toUInt32 &&& Int32.toUInt32 31)).toInt32) &&& (1431655765 : Int32))).toUInt32 >>> ((2 : Int32).toUInt32 &&& Int32.toUInt32 31)).toInt32) &&& (858993459 : Int32))).toUInt32 >>> ((4 : Int32).toUInt32 &&& Int32.toUInt32 31)).toInt32)) &&& (252645135 : Int32)).toUInt32 >>> ((8 : Int32).toUInt32 &&& Int32.toUInt32 31)).toInt32)) + ((((((((a0 - (((a0.toUInt32 >>> ((1 : Int32).toUInt32 &&& Int32.toUInt32 31)).toInt32) &&& (1431655765 : Int32))) &&& (858993459 : Int32)) + ((((a0 - (((a0.toUInt32 >>> ((1 : Int32).toUInt32 &&& Int32.toUInt32 31)).toInt32) &&& (1431655765 : Int32))).toUInt32 >>> ((2 : Int32).toUInt32 &&& Int32.toUInt32 31)).toInt32) &&& (858993459 : Int32))) + (((((a0 - (((a0.toUInt32 >>> ((1 : Int32).toUInt32 &&& Int32.toUInt32 31)).toInt32) &&& (1431655765 : Int32))) &&& (858993459 : Int32)) + ((((a0 - (((a0.toUInt32 >>> ((1 : Int32).toUInt32 &&& Int32.toUInt32 31)).toInt32) &&& (1431655765 : Int32))).toUInt32 >>> ((2 : Int32).toUInt32 &&& Int32.toUInt32 31)).toInt32) &&& (858993459 : Int32))).toUInt32 >>> ((4 : Int32).toUInt32 &&& Int32.toUInt32 31)).toInt32)) &&& (252645135 : Int32)) + (((((((a0 - (((a0.toUInt32 >>> ((1 : Int32).toUInt32 &&& Int32.toUInt32 31)).toInt32) &&& (1431655765 : Int32))) &&& (858993459 : Int32)) + ((((a0 - (((a0.toUInt32 >>> ((1 : Int32).toUInt32 &&& Int32.toUInt32 31)).toInt32) &&& (1431655765 : Int32))).toUInt32 >>> ((2 : Int32).toUInt32 &&& Int32.toUInt32 31)).toInt32) &&& (858993459 : Int32))) + (((((a0 - (((a0.toUInt32 >>> ((1 : Int32).toUInt32 &&& Int32.toUInt32 31)).toInt32) &&& (1431655765 : Int32))) &&& (858993459 : Int32)) + ((((a0 - (((a0.toUInt32 >>> ((1 : Int32).toUInt32 &&& Int32.toUInt32 31)).toInt32) &&& (1431655765 : Int32))).toUInt32 >>> ((2 : Int32).toUInt32 &&& Int32.toUInt32 31)).toInt32) &&& (858993459 : Int32))).toUInt32 >>> ((4 : Int32).toUInt32 &&& Int32.toUInt32 31)).toInt32)) &&& (252645135 : Int32)).toUInt32 >>> ((8 : Int32).toUInt32 &&& Int32.toUInt32 31)).toInt32)).toUInt32 >>> ((16 : Int32).toUInt32 &&& Int32.toUInt32 31)).toInt32)) &&& (63 : Int32), me)
set_option maxRecDepth 100000 in
set_option maxHeartbeats 4000000 in
theorem kJ6_bitCount_0f7a4 (l : Launch) (D : va_G) (b : Nat) {S : SH} {me : ME} {a0 : Int32} {q : Int32 × ME} (hM : mJ6_bitCount_0f7a4 S me a0 = some q) : Ct l D b yJ6_bitCount_0f7a4 cJ6_bitCount_0f7a4 1 (some .int) 0 0 0 0 [.int a0] S me S q.2 (some (.int q.1)) := by
  refine ct_of (own := RJ6) (nm := "bitCount") (lv := [(0, .int a0)]) (by decide +kernel) rfl rfl (Nat.le_of_ble_eq_true rfl) rfl ⟨rfl, rfl⟩ (fun X cx ex hL => ?_)
  unfold mJ6_bitCount_0f7a4 at hM
  refine ws_iload_n cx dJ6_bitCount_0f7a4_0 rfl (j := 0) rfl ?_
  refine ws_iload_n cx dJ6_bitCount_0f7a4_1 rfl (j := 0) rfl ?_
  refine ws_iconst cx dJ6_bitCount_0f7a4_2 (v := 1) (by decide) ?_
  refine ws_iushr cx dJ6_bitCount_0f7a4_3 ?_
  refine ws_ldcw cx cwJ6_265 dJ6_bitCount_0f7a4_4 ?_
  refine ws_iand cx dJ6_bitCount_0f7a4_7 ?_
  refine ws_isub cx dJ6_bitCount_0f7a4_8 ?_
  refine ws_istore_n cx dJ6_bitCount_0f7a4_9 rfl (by decide) (lv' := [(0, .int (a0 - (((a0.toUInt32 >>> ((1 : Int32).toUInt32 &&& Int32.toUInt32 31)).toInt32) &&& (1431655765 : Int32))))]) rfl ?_
  refine ws_iload_n cx dJ6_bitCount_0f7a4_10 rfl (j := 0) rfl ?_
  refine ws_ldcw cx cwJ6_266 dJ6_bitCount_0f7a4_11 ?_
  refine ws_iand cx dJ6_bitCount_0f7a4_14 ?_
  refine ws_iload_n cx dJ6_bitCount_0f7a4_15 rfl (j := 0) rfl ?_
  refine ws_iconst cx dJ6_bitCount_0f7a4_16 (v := 2) (by decide) ?_
  refine ws_iushr cx dJ6_bitCount_0f7a4_17 ?_
  refine ws_ldcw cx cwJ6_266 dJ6_bitCount_0f7a4_18 ?_
  refine ws_iand cx dJ6_bitCount_0f7a4_21 ?_
  refine ws_iadd cx dJ6_bitCount_0f7a4_22 ?_
  refine ws_istore_n cx dJ6_bitCount_0f7a4_23 rfl (by decide) (lv' := [(0, .int (((a0 - (((a0.toUInt32 >>> ((1 : Int32).toUInt32 &&& Int32.toUInt32 31)).toInt32) &&& (1431655765 : Int32))) &&& (858993459 : Int32)) + ((((a0 - (((a0.toUInt32 >>> ((1 : Int32).toUInt32 &&& Int32.toUInt32 31)).toInt32) &&& (1431655765 : Int32))).toUInt32 >>> ((2 : Int32).toUInt32 &&& Int32.toUInt32 31)).toInt32) &&& (858993459 : Int32))))]) rfl ?_
  refine ws_iload_n cx dJ6_bitCount_0f7a4_24 rfl (j := 0) rfl ?_
  refine ws_iload_n cx dJ6_bitCount_0f7a4_25 rfl (j := 0) rfl ?_
  refine ws_iconst cx dJ6_bitCount_0f7a4_26 (v := 4) (by decide) ?_
  refine ws_iushr cx dJ6_bitCount_0f7a4_27 ?_
  refine ws_iadd cx dJ6_bitCount_0f7a4_28 ?_
  refine ws_ldcw cx cwJ6_267 dJ6_bitCount_0f7a4_29 ?_
  refine ws_iand cx dJ6_bitCount_0f7a4_32 ?_
  refine ws_istore_n cx dJ6_bitCount_0f7a4_33 rfl (by decide) (lv' := [(0, .int (((((a0 - (((a0.toUInt32 >>> ((1 : Int32).toUInt32 &&& Int32.toUInt32 31)).toInt32) &&& (1431655765 : Int32))) &&& (858993459 : Int32)) + ((((a0 - (((a0.toUInt32 >>> ((1 : Int32).toUInt32 &&& Int32.toUInt32 31)).toInt32) &&& (1431655765 : Int32))).toUInt32 >>> ((2 : Int32).toUInt32 &&& Int32.toUInt32 31)).toInt32) &&& (858993459 : Int32))) + (((((a0 - (((a0.toUInt32 >>> ((1 : Int32).toUInt32 &&& Int32.toUInt32 31)).toInt32) &&& (1431655765 : Int32))) &&& (858993459 : Int32)) + ((((a0 - (((a0.toUInt32 >>> ((1 : Int32).toUInt32 &&& Int32.toUInt32 31)).toInt32) &&& (1431655765 : Int32))).toUInt32 >>> ((2 : Int32).toUInt32 &&& Int32.toUInt32 31)).toInt32) &&& (858993459 : Int32))).toUInt32 >>> ((4 : Int32).toUInt32 &&& Int32.toUInt32 31)).toInt32)) &&& (252645135 : Int32)))]) rfl ?_
  refine ws_iload_n cx dJ6_bitCount_0f7a4_34 rfl (j := 0) rfl ?_
  refine ws_iload_n cx dJ6_bitCount_0f7a4_35 rfl (j := 0) rfl ?_
  refine ws_bipush cx dJ6_bitCount_0f7a4_36 (v := 8) (by decide) ?_
  refine ws_iushr cx dJ6_bitCount_0f7a4_38 ?_
  refine ws_iadd cx dJ6_bitCount_0f7a4_39 ?_
  refine ws_istore_n cx dJ6_bitCount_0f7a4_40 rfl (by decide) (lv' := [(0, .int ((((((a0 - (((a0.toUInt32 >>> ((1 : Int32).toUInt32 &&& Int32.toUInt32 31)).toInt32) &&& (1431655765 : Int32))) &&& (858993459 : Int32)) + ((((a0 - (((a0.toUInt32 >>> ((1 : Int32).toUInt32 &&& Int32.toUInt32 31)).toInt32) &&& (1431655765 : Int32))).toUInt32 >>> ((2 : Int32).toUInt32 &&& Int32.toUInt32 31)).toInt32) &&& (858993459 : Int32))) + (((((a0 - (((a0.toUInt32 >>> ((1 : Int32).toUInt32 &&& Int32.toUInt32 31)).toInt32) &&& (1431655765 : Int32))) &&& (858993459 : Int32)) + ((((a0 - (((a0.toUInt32 >>> ((1 : Int32).toUInt32 &&& Int32.toUInt32 31)).toInt32) &&& (1431655765 : Int32))).toUInt32 >>> ((2 : Int32).toUInt32 &&& Int32.toUInt32 31)).toInt32) &&& (858993459 : Int32))).toUInt32 >>> ((4 : Int32).toUInt32 &&& Int32.toUInt32 31)).toInt32)) &&& (252645135 : Int32)) + (((((((a0 - (((a0.toUInt32 >>> ((1 : Int32).toUInt32 &&& Int32.toUInt32 31)).toInt32) &&& (1431655765 : Int32))) &&& (858993459 : Int32)) + ((((a0 - (((a0.toUInt32 >>> ((1 : Int32).toUInt32 &&& Int32.toUInt32 31)).toInt32) &&& (1431655765 : Int32))).toUInt32 >>> ((2 : Int32).toUInt32 &&& Int32.toUInt32 31)).toInt32) &&& (858993459 : Int32))) + (((((a0 - (((a0.toUInt32 >>> ((1 : Int32).toUInt32 &&& Int32.toUInt32 31)).toInt32) &&& (1431655765 : Int32))) &&& (858993459 : Int32)) + ((((a0 - (((a0.toUInt32 >>> ((1 : Int32).toUInt32 &&& Int32.toUInt32 31)).toInt32) &&& (1431655765 : Int32))).toUInt32 >>> ((2 : Int32).toUInt32 &&& Int32.toUInt32 31)).toInt32) &&& (858993459 : Int32))).toUInt32 >>> ((4 : Int32).toUInt32 &&& Int32.toUInt32 31)).toInt32)) &&& (252645135 : Int32)).toUInt32 >>> ((8 : Int32).toUInt32 &&& Int32.toUInt32 31)).toInt32)))]) rfl ?_
  refine ws_iload_n cx dJ6_bitCount_0f7a4_41 rfl (j := 0) rfl ?_
  refine ws_iload_n cx dJ6_bitCount_0f7a4_42 rfl (j := 0) rfl ?_
  refine ws_bipush cx dJ6_bitCount_0f7a4_43 (v := 16) (by decide) ?_
  refine ws_iushr cx dJ6_bitCount_0f7a4_45 ?_
  refine ws_iadd cx dJ6_bitCount_0f7a4_46 ?_
  refine ws_istore_n cx dJ6_bitCount_0f7a4_47 rfl (by decide) (lv' := [(0, .int (((((((a0 - (((a0.toUInt32 >>> ((1 : Int32).toUInt32 &&& Int32.toUInt32 31)).toInt32) &&& (1431655765 : Int32))) &&& (858993459 : Int32)) + ((((a0 - (((a0.toUInt32 >>> ((1 : Int32).toUInt32 &&& Int32.toUInt32 31)).toInt32) &&& (1431655765 : Int32))).toUInt32 >>> ((2 : Int32).toUInt32 &&& Int32.toUInt32 31)).toInt32) &&& (858993459 : Int32))) + (((((a0 - (((a0.toUInt32 >>> ((1 : Int32).toUInt32 &&& Int32.toUInt32 31)).toInt32) &&& (1431655765 : Int32))) &&& (858993459 : Int32)) + ((((a0 - (((a0.toUInt32 >>> ((1 : Int32).toUInt32 &&& Int32.toUInt32 31)).toInt32) &&& (1431655765 : Int32))).toUInt32 >>> ((2 : Int32).toUInt32 &&& Int32.toUInt32 31)).toInt32) &&& (858993459 : Int32))).toUInt32 >>> ((4 : Int32).toUInt32 &&& Int32.toUInt32 31)).toInt32)) &&& (252645135 : Int32)) + (((((((a0 - (((a0.toUInt32 >>> ((1 : Int32).toUInt32 &&& Int32.toUInt32 31)).toInt32) &&& (1431655765 : Int32))) &&& (858993459 : Int32)) + ((((a0 - (((a0.toUInt32 >>> ((1 : Int32).toUInt32 &&& Int32.toUInt32 31)).toInt32) &&& (1431655765 : Int32))).toUInt32 >>> ((2 : Int32).toUInt32 &&& Int32.toUInt32 31)).toInt32) &&& (858993459 : Int32))) + (((((a0 - (((a0.toUInt32 >>> ((1 : Int32).toUInt32 &&& Int32.toUInt32 31)).toInt32) &&& (1431655765 : Int32))) &&& (858993459 : Int32)) + ((((a0 - (((a0.toUInt32 >>> ((1 : Int32).toUInt32 &&& Int32.toUInt32 31)).toInt32) &&& (1431655765 : Int32))).toUInt32 >>> ((2 : Int32).toUInt32 &&& Int32.toUInt32 31)).toInt32) &&& (858993459 : Int32))).toUInt32 >>> ((4 : Int32).toUInt32 &&& Int32.toUInt32 31)).toInt32)) &&& (252645135 : Int32)).toUInt32 >>> ((8 : Int32).toUInt32 &&& Int32.toUInt32 31)).toInt32)) + ((((((((a0 - (((a0.toUInt32 >>> ((1 : Int32).toUInt32 &&& Int32.toUInt32 31)).toInt32) &&& (1431655765 : Int32))) &&& (858993459 : Int32)) + ((((a0 - (((a0.toUInt32 >>> ((1 : Int32).toUInt32 &&& Int32.toUInt32 31)).toInt32) &&& (1431655765 : Int32))).toUInt32 >>> ((2 : Int32).toUInt32 &&& Int32.toUInt32 31)).toInt32) &&& (858993459 : Int32))) + (((((a0 - (((a0.toUInt32 >>> ((1 : Int32).toUInt32 &&& Int32.toUInt32 31)).toInt32) &&& (1431655765 : Int32))) &&& (858993459 : Int32)) + ((((a0 - (((a0.toUInt32 >>> ((1 : Int32).toUInt32 &&& Int32.toUInt32 31)).toInt32) &&& (1431655765 : Int32))).toUInt32 >>> ((2 : Int32).toUInt32 &&& Int32.toUInt32 31)).toInt32) &&& (858993459 : Int32))).toUInt32 >>> ((4 : Int32).toUInt32 &&& Int32.toUInt32 31)).toInt32)) &&& (252645135 : Int32)) + (((((((a0 - (((a0.toUInt32 >>> ((1 : Int32).toUInt32 &&& Int32.toUInt32 31)).toInt32) &&& (1431655765 : Int32))) &&& (858993459 : Int32)) + ((((a0 - (((a0.toUInt32 >>> ((1 : Int32).toUInt32 &&& Int32.toUInt32 31)).toInt32) &&& (1431655765 : Int32))).toUInt32 >>> ((2 : Int32).toUInt32 &&& Int32.toUInt32 31)).toInt32) &&& (858993459 : Int32))) + (((((a0 - (((a0.toUInt32 >>> ((1 : Int32).toUInt32 &&& Int32.toUInt32 31)).toInt32) &&& (1431655765 : Int32))) &&& (858993459 : Int32)) + ((((a0 - (((a0.toUInt32 >>> ((1 : Int32).toUInt32 &&& Int32.toUInt32 31)).toInt32) &&& (1431655765 : Int32))).toUInt32 >>> ((2 : Int32).toUInt32 &&& Int32.toUInt32 31)).toInt32) &&& (858993459 : Int32))).toUInt32 >>> ((4 : Int32).toUInt32 &&& Int32.toUInt32 31)).toInt32)) &&& (252645135 : Int32)).toUInt32 >>> ((8 : Int32).toUInt32 &&& Int32.toUInt32 31)).toInt32)).toUInt32 >>> ((16 : Int32).toUInt32 &&& Int32.toUInt32 31)).toInt32)))]) rfl ?_
  refine ws_iload_n cx dJ6_bitCount_0f7a4_48 rfl (j := 0) rfl ?_
  refine ws_bipush cx dJ6_bitCount_0f7a4_49 (v := 63) (by decide) ?_
  refine ws_iand cx dJ6_bitCount_0f7a4_51 ?_
  exact ws_iretM cx ex hM dJ6_bitCount_0f7a4_52

def mX0_isPart_j21 (S : SH) (a0 : Int32) (a1 : Int32) (a2 : Int32) (me : ME) (y0 : Int32) : Option (Int32 × ME) :=
  if y0 = 0 ∨ y0 = 1 then some (y0, me) else none
def mX0_isPart_j20 (S : SH) (a0 : Int32) (a1 : Int32) (a2 : Int32) (me : ME) : Option (Int32 × ME) :=
  mX0_isPart_j21 S a0 a1 a2 me (0 : Int32)
def mX0_isPart (S : SH) (me : ME) (a0 : Int32) (a1 : Int32) (a2 : Int32) : Option (Int32 × ME) :=
  if (a0 &&& (a1 ^^^ (-1 : Int32))) = 0 then
    (mJ6_bitCount_0f7a4 S me a0).bind fun q3 =>
    if q3.1 = a2 then
      mX0_isPart_j21 S a0 a1 a2 q3.2 (1 : Int32)
    else
      mX0_isPart_j20 S a0 a1 a2 q3.2
  else
    mX0_isPart_j20 S a0 a1 a2 me
set_option maxRecDepth 100000 in
set_option maxHeartbeats 4000000 in
theorem kX0_isPart (l : Launch) (D : va_G) (b : Nat) {S : SH} {me : ME} {a0 : Int32} {a1 : Int32} {a2 : Int32} {q : Int32 × ME} (hM : mX0_isPart S me a0 a1 a2 = some q) : Ct l D b yX0_isPart cX0_isPart 3 (some .boolean) 1 20 0 0 [.int a0, .int a1, .int a2] S me S q.2 (some (.int q.1)) := by
  refine ct_of (own := RX0) (nm := "isPart") (lv := [(0, .int a0), (1, .int a1), (2, .int a2)]) (plainFor_of_name (by decide)) rfl rfl (Nat.le_of_ble_eq_true rfl) rfl ⟨rfl, rfl⟩ (fun X cx ex hL => ?_)
  have J21 : ∀ (me : ME) (y0 : Int32), mX0_isPart_j21 S a0 a1 a2 me y0 = some q → WS X b 3 S me 21 [] [.int y0] := by
    intro  me y0 hM
    unfold mX0_isPart_j21 at hM
    obtain ⟨h1, hM⟩ := ite_o hM
    exact ws_zretM cx ex h1 hM dX0_isPart_21
  have J20 : ∀ (me : ME), mX0_isPart_j20 S a0 a1 a2 me = some q → WS X b 3 S me 20 [] [] := by
    intro  me hM
    unfold mX0_isPart_j20 at hM
    refine ws_iconst cx dX0_isPart_20 (v := 0) (by decide) ?_
    refine ws_sub [] (lv' := []) rfl ?_
    exact J21 _ _ hM
  unfold mX0_isPart at hM
  refine ws_iload_n cx dX0_isPart_0 rfl (j := 0) rfl ?_
  refine ws_iload_n cx dX0_isPart_1 rfl (j := 1) rfl ?_
  refine ws_iconst cx dX0_isPart_2 (v := -1) (by decide) ?_
  refine ws_ixor cx dX0_isPart_3 ?_
  refine ws_iand cx dX0_isPart_4 ?_
  refine ws_if_ne cx dX0_isPart_5 (tgt := 20) (by decide) (fun c2 => ?_) (fun c2 => ?_)
  · have hM := if_f hM c2
    refine ws_sub [] (lv' := []) rfl ?_
    exact J20 _ hM
  · have hM := if_t hM c2
    refine ws_iload_n cx dX0_isPart_8 rfl (j := 0) rfl ?_
    obtain ⟨q3, h4, hM⟩ := bnd hM
    refine ws_callS cx (rest := []) (st' := [.int q3.1]) (kJ6_bitCount_0f7a4 l D b h4) mvJ6_bitCount_0f7a4 lkX0_29 rfl ⟨by decide, by decide⟩ (Nat.le_of_ble_eq_true rfl) ⟨rfl, rfl⟩ (Or.inl ⟨rfl, rfl⟩) rfl rfl dX0_isPart_9 ?_
    refine ws_iload_n cx dX0_isPart_12 rfl (j := 2) rfl ?_
    refine ws_icmp_ne cx dX0_isPart_13 (tgt := 20) (by decide) (fun c5 => ?_) (fun c5 => ?_)
    · have hM := if_f hM c5
      refine ws_sub [] (lv' := []) rfl ?_
      exact J20 _ hM
    · have hM := if_t hM c5
      refine ws_iconst cx dX0_isPart_16 (v := 1) (by decide) ?_
      refine ws_goto cx dX0_isPart_17 (tgt := 21) (by decide) ?_
      refine ws_sub [] (lv' := []) rfl ?_
      exact J21 _ _ hM

def mX0_leastOut_j40 (S : SH) (o : Nat) (a0 : Int32) (me : ME) (x3 : Int32) : Option (Int32 × ME) :=
  some (x3, me)
def mX0_leastOut_j42 (S : SH) (o : Nat) (a0 : Int32) (k2 : (ME × Int32 → Option (Int32 × ME))) (k9 : (ME × Int32 × Int32 → Option (Int32 × ME))) (me : ME) (x2 : Int32) (x3 : Int32) : Option (Int32 × ME) :=
  k9 (me, x2, x3 + (1 : Int32))
def mX0_leastOut_j48 (S : SH) (o : Nat) (a0 : Int32) (k2 : (ME × Int32 → Option (Int32 × ME))) (me : ME) (x2 : Int32) : Option (Int32 × ME) :=
  k2 (me, x2 + (1 : Int32))
def mX0_leastOut_L9 (S : SH) (o : Nat) (a0 : Int32) (k2 : (ME × Int32 → Option (Int32 × ME))) (k9 : (ME × Int32 × Int32 → Option (Int32 × ME))) : ME × Int32 × Int32 → Option (Int32 × ME)
  | (me, x2, x3) =>
    if (512 : Int32) ≤ x3 then
      mX0_leastOut_j48 S o a0 k2 me x2
    else
      (mX0_isPart S me x3 a0 x2).bind fun q2 =>
      if q2.1 = 0 then
        mX0_leastOut_j42 S o a0 k2 k9 q2.2 x2 x3
      else
        (gR S 0 1 o).bind fun v5 =>
        (ck S 7 v5).bind fun _ => (mX7_judge S q2.2 v5 (a0 &&& (x3 ^^^ (-1 : Int32)))).bind fun q7 =>
        if q7.1 = 0 then
          mX0_leastOut_j40 S o a0 q7.2 x3
        else
          mX0_leastOut_j42 S o a0 k2 k9 q7.2 x2 x3
def mX0_leastOut_j54 (S : SH) (o : Nat) (a0 : Int32) (me : ME) : Option (Int32 × ME) :=
  some ((-9 : Int32), me)
def mX0_leastOut_L2 (S : SH) (o : Nat) (a0 : Int32) (k2 : (ME × Int32 → Option (Int32 × ME))) : ME × Int32 → Option (Int32 × ME)
  | (me, x2) =>
    if (2 : Int32) < x2 then
      mX0_leastOut_j54 S o a0 me
    else
      lpn (mX0_leastOut_L9 S o a0 k2) lpF (me, x2, (0 : Int32))
def mX0_leastOut (S : SH) (me : ME) (o : Nat) (a0 : Int32) : Option (Int32 × ME) :=
  lpn (mX0_leastOut_L2 S o a0) lpF (me, (0 : Int32))
set_option maxRecDepth 100000 in
set_option maxHeartbeats 4000000 in
theorem kX0_leastOut (l : Launch) (D : va_G) (b : Nat) {S : SH} {me : ME} {o : Nat} {a0 : Int32} {q : Int32 × ME} (hM : mX0_leastOut S me o a0 = some q) : Ct l D b yX0_leastOut cX0_leastOut 4 (some .int) 5 113 0 0 [.ref (b + o), .int a0] S me S q.2 (some (.int q.1)) := by
  refine ct_of (own := RX0) (nm := "leastOut") (lv := [(0, .ref (b + o)), (1, .int a0)]) (plainFor_of_name (by decide)) rfl rfl (Nat.le_of_ble_eq_true rfl) rfl ⟨rfl, rfl⟩ (fun X cx ex hL => ?_)
  have J40 : ∀ (me : ME) (x3 : Int32), mX0_leastOut_j40 S o a0 me x3 = some q → WS X b 4 S me 40 [(3, .int x3)] [] := by
    intro  me x3 hM
    unfold mX0_leastOut_j40 at hM
    refine ws_iload_n cx dX0_leastOut_40 rfl (j := 0) rfl ?_
    exact ws_iretM cx ex hM dX0_leastOut_41
  have J42 : ∀ (k2 : (ME × Int32 → Option (Int32 × ME))), (∀ (me : ME) (x2 : Int32), k2 (me, x2) = some q → WS X b 4 S me 2 [(0, .ref (b + o)), (1, .int a0), (2, .int x2)] []) → ∀ (k9 : (ME × Int32 × Int32 → Option (Int32 × ME))), (∀ (me : ME) (x2 : Int32) (x3 : Int32), k9 (me, x2, x3) = some q → WS X b 4 S me 9 [(0, .ref (b + o)), (1, .int a0), (2, .int x2), (3, .int x3)] []) → ∀ (me : ME) (x2 : Int32) (x3 : Int32), mX0_leastOut_j42 S o a0 k2 k9 me x2 x3 = some q → WS X b 4 S me 42 [(0, .ref (b + o)), (1, .int a0), (2, .int x2), (3, .int x3)] [] := by
    intro k2 hk2 k9 hk9 me x2 x3 hM
    unfold mX0_leastOut_j42 at hM
    refine ws_iinc cx dX0_leastOut_42 (j := 3) rfl (v := x3 + (1 : Int32)) rfl (by decide) (lv' := [(3, .int (x3 + (1 : Int32))), (0, .ref (b + o)), (1, .int a0), (2, .int x2)]) rfl ?_
    refine ws_goto cx dX0_leastOut_45 (tgt := 9) (by decide) ?_
    refine ws_sub [1, 2, 3, 0] (lv' := [(0, .ref (b + o)), (1, .int a0), (2, .int x2), (3, .int (x3 + (1 : Int32)))]) rfl ?_
    exact hk9 _ _ _ hM
  have J48 : ∀ (k2 : (ME × Int32 → Option (Int32 × ME))), (∀ (me : ME) (x2 : Int32), k2 (me, x2) = some q → WS X b 4 S me 2 [(0, .ref (b + o)), (1, .int a0), (2, .int x2)] []) → ∀ (me : ME) (x2 : Int32), mX0_leastOut_j48 S o a0 k2 me x2 = some q → WS X b 4 S me 48 [(0, .ref (b + o)), (1, .int a0), (2, .int x2)] [] := by
    intro k2 hk2 me x2 hM
    unfold mX0_leastOut_j48 at hM
    refine ws_iinc cx dX0_leastOut_48 (j := 2) rfl (v := x2 + (1 : Int32)) rfl (by decide) (lv' := [(2, .int (x2 + (1 : Int32))), (0, .ref (b + o)), (1, .int a0)]) rfl ?_
    refine ws_goto cx dX0_leastOut_51 (tgt := 2) (by decide) ?_
    refine ws_sub [1, 2, 0] (lv' := [(0, .ref (b + o)), (1, .int a0), (2, .int (x2 + (1 : Int32)))]) rfl ?_
    exact hk2 _ _ hM
  have L9 : ∀ (k2 : (ME × Int32 → Option (Int32 × ME))), (∀ (me : ME) (x2 : Int32), k2 (me, x2) = some q → WS X b 4 S me 2 [(0, .ref (b + o)), (1, .int a0), (2, .int x2)] []) → ∀ (n : Nat) (me : ME) (x2 : Int32) (x3 : Int32), lpn (mX0_leastOut_L9 S o a0 k2) n (me, x2, x3) = some q → WS X b 4 S me 9 [(0, .ref (b + o)), (1, .int a0), (2, .int x2), (3, .int x3)] [] := by
    intro k2 hk2 n
    induction n with
    | zero => intro me x2 x3 hM; exact absurd hM (by intro h; cases h)
    | succ n ih =>
      intro me x2 x3 hM
      have hM : mX0_leastOut_L9 S o a0 k2 (lpn (mX0_leastOut_L9 S o a0 k2) n) (me, x2, x3) = some q := hM
      unfold mX0_leastOut_L9 at hM
      refine ws_iload_n cx dX0_leastOut_9 rfl (j := 3) rfl ?_
      refine ws_sipush cx dX0_leastOut_10 (v := 512) (by decide) ?_
      refine ws_icmp_ge cx dX0_leastOut_13 (tgt := 48) (by decide) (fun c1 => ?_) (fun c1 => ?_)
      · have hM := if_t hM c1
        refine ws_sub [0, 1, 2] (lv' := [(0, .ref (b + o)), (1, .int a0), (2, .int x2)]) rfl ?_
        exact J48 _ hk2 _ _ hM
      · have hM := if_f hM c1
        refine ws_iload_n cx dX0_leastOut_16 rfl (j := 3) rfl ?_
        refine ws_iload_n cx dX0_leastOut_17 rfl (j := 1) rfl ?_
        refine ws_iload_n cx dX0_leastOut_18 rfl (j := 2) rfl ?_
        obtain ⟨q2, h3, hM⟩ := bnd hM
        refine ws_callS cx (rest := []) (st' := [.int q2.1]) (kX0_isPart l D b h3) mvX0_isPart lkX0_19 rfl ⟨by decide, by decide⟩ (Nat.le_of_ble_eq_true rfl) ⟨rfl, rfl⟩ (Or.inl ⟨rfl, rfl⟩) rfl rfl dX0_leastOut_19 ?_
        refine ws_if_eq cx dX0_leastOut_22 (tgt := 42) (by decide) (fun c4 => ?_) (fun c4 => ?_)
        · have hM := if_t hM c4
          refine ws_sub [0, 1, 2, 3] (lv' := [(0, .ref (b + o)), (1, .int a0), (2, .int x2), (3, .int x3)]) rfl ?_
          exact J42 _ hk2 _ ih _ _ _ hM
        · have hM := if_f hM c4
          refine ws_aload_n cx dX0_leastOut_25 rfl (j := 0) rfl ?_
          obtain ⟨v5, h6, hM⟩ := bnd hM
          refine ws_getR cx ffX0_15 h6 dX0_leastOut_26 ?_
          refine ws_iload_n cx dX0_leastOut_29 rfl (j := 1) rfl ?_
          refine ws_iload_n cx dX0_leastOut_30 rfl (j := 3) rfl ?_
          refine ws_iconst cx dX0_leastOut_31 (v := -1) (by decide) ?_
          refine ws_ixor cx dX0_leastOut_32 ?_
          refine ws_iand cx dX0_leastOut_33 ?_
          obtain ⟨_, h9, hM⟩ := bnd hM
          obtain ⟨q7, h8, hM⟩ := bnd hM
          refine ws_callV cx (rest := []) (st' := [.int q7.1]) (kX7_judge l D b h8) mvX7_judge (ck_k h9) (by decide) (q := (RX7, TX7, 8)) rfl seX7_judge lkX0_23 rfl ⟨by decide, by decide⟩ (Nat.le_of_ble_eq_true rfl) ⟨rfl, rfl⟩ (Or.inl ⟨rfl, rfl⟩) rfl rfl dX0_leastOut_34 ?_
          refine ws_if_ne cx dX0_leastOut_37 (tgt := 42) (by decide) (fun c10 => ?_) (fun c10 => ?_)
          · have hM := if_f hM c10
            refine ws_sub [0, 1, 2, 3] (lv' := [(0, .ref (b + o)), (1, .int a0), (2, .int x2), (3, .int x3)]) rfl ?_
            exact J42 _ hk2 _ ih _ _ _ hM
          · have hM := if_t hM c10
            refine ws_sub [3] (lv' := [(3, .int x3)]) rfl ?_
            exact J40 _ _ hM
  have J54 : ∀ (me : ME), mX0_leastOut_j54 S o a0 me = some q → WS X b 4 S me 54 [] [] := by
    intro  me hM
    unfold mX0_leastOut_j54 at hM
    refine ws_bipush cx dX0_leastOut_54 (v := -9) (by decide) ?_
    exact ws_iretM cx ex hM dX0_leastOut_56
  have L2 : ∀ (n : Nat) (me : ME) (x2 : Int32), lpn (mX0_leastOut_L2 S o a0) n (me, x2) = some q → WS X b 4 S me 2 [(0, .ref (b + o)), (1, .int a0), (2, .int x2)] [] := by
    intro  n
    induction n with
    | zero => intro me x2 hM; exact absurd hM (by intro h; cases h)
    | succ n ih =>
      intro me x2 hM
      have hM : mX0_leastOut_L2 S o a0 (lpn (mX0_leastOut_L2 S o a0) n) (me, x2) = some q := hM
      unfold mX0_leastOut_L2 at hM
      refine ws_iload_n cx dX0_leastOut_2 rfl (j := 2) rfl ?_
      refine ws_iconst cx dX0_leastOut_3 (v := 2) (by decide) ?_
      refine ws_icmp_gt cx dX0_leastOut_4 (tgt := 54) (by decide) (fun c11 => ?_) (fun c11 => ?_)
      · have hM := if_t hM c11
        refine ws_sub [] (lv' := []) rfl ?_
        exact J54 _ hM
      · have hM := if_f hM c11
        refine ws_iconst cx dX0_leastOut_7 (v := 0) (by decide) ?_
        refine ws_istore_n cx dX0_leastOut_8 rfl (by decide) (lv' := [(3, .int (0 : Int32)), (0, .ref (b + o)), (1, .int a0), (2, .int x2)]) rfl ?_
        refine ws_sub [1, 2, 3, 0] (lv' := [(0, .ref (b + o)), (1, .int a0), (2, .int x2), (3, .int (0 : Int32))]) rfl ?_
        exact L9 _ ih _ _ _ _ hM
  unfold mX0_leastOut at hM
  refine ws_iconst cx dX0_leastOut_0 (v := 0) (by decide) ?_
  refine ws_istore_n cx dX0_leastOut_1 rfl (by decide) (lv' := [(2, .int (0 : Int32)), (0, .ref (b + o)), (1, .int a0)]) rfl ?_
  refine ws_sub [1, 2, 0] (lv' := [(0, .ref (b + o)), (1, .int a0), (2, .int (0 : Int32))]) rfl ?_
  exact L2 _ _ _ hM

def mJ9_abs_067f4_j12 (S : SH) (a0 : Int64) (me : ME) (y0 : Int64) : Option (Int64 × ME) :=
  some (y0, me)
def mJ9_abs_067f4 (S : SH) (me : ME) (a0 : Int64) : Option (Int64 × ME) :=
  if 0 ≤ (lg_cmp a0 (0 : Int64)) then
    mJ9_abs_067f4_j12 S a0 me a0
  else
    mJ9_abs_067f4_j12 S a0 me (-a0)
set_option maxRecDepth 100000 in
set_option maxHeartbeats 4000000 in
theorem kJ9_abs_067f4 (l : Launch) (D : va_G) (b : Nat) {S : SH} {me : ME} {a0 : Int64} {q : Int64 × ME} (hM : mJ9_abs_067f4 S me a0 = some q) : Ct l D b yJ9_abs_067f4 cJ9_abs_067f4 2 (some .long) 0 0 0 0 [.long a0] S me S q.2 (some (.long q.1)) := by
  refine ct_of (own := RJ9) (nm := "abs") (lv := [(0, .long a0)]) (by decide +kernel) rfl rfl (Nat.le_of_ble_eq_true rfl) rfl ⟨rfl, rfl⟩ (fun X cx ex hL => ?_)
  have J12 : ∀ (me : ME) (y0 : Int64), mJ9_abs_067f4_j12 S a0 me y0 = some q → WS X b 2 S me 12 [] [.long y0] := by
    intro  me y0 hM
    unfold mJ9_abs_067f4_j12 at hM
    exact ws_lretM cx ex hM dJ9_abs_067f4_12
  unfold mJ9_abs_067f4 at hM
  refine ws_lload_n cx dJ9_abs_067f4_0 rfl (j := 0) rfl ?_
  refine ws_lconst cx dJ9_abs_067f4_1 (v := 0) (by decide) ?_
  refine ws_lcmp cx dJ9_abs_067f4_2 ?_
  refine ws_if_ge cx dJ9_abs_067f4_3 (tgt := 11) (by decide) (fun c1 => ?_) (fun c1 => ?_)
  · have hM := if_t hM c1
    refine ws_lload_n cx dJ9_abs_067f4_11 rfl (j := 0) rfl ?_
    refine ws_sub [] (lv' := []) rfl ?_
    exact J12 _ _ hM
  · have hM := if_f hM c1
    refine ws_lload_n cx dJ9_abs_067f4_6 rfl (j := 0) rfl ?_
    refine ws_lneg cx dJ9_abs_067f4_7 ?_
    refine ws_goto cx dJ9_abs_067f4_8 (tgt := 12) (by decide) ?_
    refine ws_sub [] (lv' := []) rfl ?_
    exact J12 _ _ hM

def mJ9_max_f86c9_j11 (S : SH) (a0 : Int64) (a1 : Int64) (me : ME) (y0 : Int64) : Option (Int64 × ME) :=
  some (y0, me)
def mJ9_max_f86c9 (S : SH) (me : ME) (a0 : Int64) (a1 : Int64) : Option (Int64 × ME) :=
  if (lg_cmp a0 a1) < 0 then
    mJ9_max_f86c9_j11 S a0 a1 me a1
  else
    mJ9_max_f86c9_j11 S a0 a1 me a0
set_option maxRecDepth 100000 in
set_option maxHeartbeats 4000000 in
theorem kJ9_max_f86c9 (l : Launch) (D : va_G) (b : Nat) {S : SH} {me : ME} {a0 : Int64} {a1 : Int64} {q : Int64 × ME} (hM : mJ9_max_f86c9 S me a0 a1 = some q) : Ct l D b yJ9_max_f86c9 cJ9_max_f86c9 4 (some .long) 0 0 0 0 [.long a0, .long a1] S me S q.2 (some (.long q.1)) := by
  refine ct_of (own := RJ9) (nm := "max") (lv := [(0, .long a0), (2, .long a1)]) (by decide +kernel) rfl rfl (Nat.le_of_ble_eq_true rfl) rfl ⟨rfl, rfl⟩ (fun X cx ex hL => ?_)
  have J11 : ∀ (me : ME) (y0 : Int64), mJ9_max_f86c9_j11 S a0 a1 me y0 = some q → WS X b 4 S me 11 [] [.long y0] := by
    intro  me y0 hM
    unfold mJ9_max_f86c9_j11 at hM
    exact ws_lretM cx ex hM dJ9_max_f86c9_11
  unfold mJ9_max_f86c9 at hM
  refine ws_lload_n cx dJ9_max_f86c9_0 rfl (j := 0) rfl ?_
  refine ws_lload_n cx dJ9_max_f86c9_1 rfl (j := 1) rfl ?_
  refine ws_lcmp cx dJ9_max_f86c9_2 ?_
  refine ws_if_lt cx dJ9_max_f86c9_3 (tgt := 10) (by decide) (fun c1 => ?_) (fun c1 => ?_)
  · have hM := if_t hM c1
    refine ws_lload_n cx dJ9_max_f86c9_10 rfl (j := 1) rfl ?_
    refine ws_sub [] (lv' := []) rfl ?_
    exact J11 _ _ hM
  · have hM := if_f hM c1
    refine ws_lload_n cx dJ9_max_f86c9_6 rfl (j := 0) rfl ?_
    refine ws_goto cx dJ9_max_f86c9_7 (tgt := 11) (by decide) ?_
    refine ws_sub [] (lv' := []) rfl ?_
    exact J11 _ _ hM

def mJ9_min_f86c9_j11 (S : SH) (a0 : Int64) (a1 : Int64) (me : ME) (y0 : Int64) : Option (Int64 × ME) :=
  some (y0, me)
def mJ9_min_f86c9 (S : SH) (me : ME) (a0 : Int64) (a1 : Int64) : Option (Int64 × ME) :=
  if 0 < (lg_cmp a0 a1) then
    mJ9_min_f86c9_j11 S a0 a1 me a1
  else
    mJ9_min_f86c9_j11 S a0 a1 me a0
set_option maxRecDepth 100000 in
set_option maxHeartbeats 4000000 in
theorem kJ9_min_f86c9 (l : Launch) (D : va_G) (b : Nat) {S : SH} {me : ME} {a0 : Int64} {a1 : Int64} {q : Int64 × ME} (hM : mJ9_min_f86c9 S me a0 a1 = some q) : Ct l D b yJ9_min_f86c9 cJ9_min_f86c9 4 (some .long) 0 0 0 0 [.long a0, .long a1] S me S q.2 (some (.long q.1)) := by
  refine ct_of (own := RJ9) (nm := "min") (lv := [(0, .long a0), (2, .long a1)]) (by decide +kernel) rfl rfl (Nat.le_of_ble_eq_true rfl) rfl ⟨rfl, rfl⟩ (fun X cx ex hL => ?_)
  have J11 : ∀ (me : ME) (y0 : Int64), mJ9_min_f86c9_j11 S a0 a1 me y0 = some q → WS X b 4 S me 11 [] [.long y0] := by
    intro  me y0 hM
    unfold mJ9_min_f86c9_j11 at hM
    exact ws_lretM cx ex hM dJ9_min_f86c9_11
  unfold mJ9_min_f86c9 at hM
  refine ws_lload_n cx dJ9_min_f86c9_0 rfl (j := 0) rfl ?_
  refine ws_lload_n cx dJ9_min_f86c9_1 rfl (j := 1) rfl ?_
  refine ws_lcmp cx dJ9_min_f86c9_2 ?_
  refine ws_if_gt cx dJ9_min_f86c9_3 (tgt := 10) (by decide) (fun c1 => ?_) (fun c1 => ?_)
  · have hM := if_t hM c1
    refine ws_lload_n cx dJ9_min_f86c9_10 rfl (j := 1) rfl ?_
    refine ws_sub [] (lv' := []) rfl ?_
    exact J11 _ _ hM
  · have hM := if_f hM c1
    refine ws_lload_n cx dJ9_min_f86c9_6 rfl (j := 0) rfl ?_
    refine ws_goto cx dJ9_min_f86c9_7 (tgt := 11) (by decide) ?_
    refine ws_sub [] (lv' := []) rfl ?_
    exact J11 _ _ hM

def mX0_worstOf_j43 (S : SH) (o : Nat) (a0 : Int32) (k5 : (ME × Int64 × Int32 → Option (Int32 × ME))) (me : ME) (x2 : Int64) (x4 : Int32) : Option (Int32 × ME) :=
  k5 (me, x2, x4 + (1 : Int32))
def mX0_worstOf_j88 (S : SH) (o : Nat) (a0 : Int32) (me : ME) (y0 : Int32) : Option (Int32 × ME) :=
  some (y0, me)
def mX0_worstOf_j49 (S : SH) (o : Nat) (a0 : Int32) (me : ME) (x2 : Int64) : Option (Int32 × ME) :=
  (gR S 0 1 o).bind fun v1 =>
  (gJ S me 7 7 v1).bind fun v3 =>
  (gR S 0 1 o).bind fun v5 =>
  (gJ S me 7 7 v5).bind fun v7 =>
  if (lg_cmp (v3 * v7) (0 : Int64)) = 0 then
    mX0_worstOf_j88 S o a0 me (0 : Int32)
  else
    if (v3 * v7) = 0 then none else
    (mJ9_min_f86c9 S me (x2 / (v3 * v7)) (999999999 : Int64)).bind fun q11 =>
    mX0_worstOf_j88 S o a0 q11.2 q11.1.toInt32
def mX0_worstOf_L5 (S : SH) (o : Nat) (a0 : Int32) (k5 : (ME × Int64 × Int32 → Option (Int32 × ME))) : ME × Int64 × Int32 → Option (Int32 × ME)
  | (me, x2, x4) =>
    (gR S 0 0 o).bind fun v13 =>
    (gI S me 5 4 v13).bind fun v15 =>
    if v15 ≤ x4 then
      mX0_worstOf_j49 S o a0 me x2
    else
      (mX9_holds S me a0 x4).bind fun q18 =>
      if q18.1 = 0 then
        mX0_worstOf_j43 S o a0 k5 q18.2 x2 x4
      else
        (gR S 0 1 o).bind fun v21 =>
        (ck S 7 v21).bind fun _ => (mX7_miss S q18.2 v21 x4).bind fun q23 =>
        (mJ9_abs_067f4 S q23.2 q23.1).bind fun q26 =>
        (mJ9_max_f86c9 S q26.2 x2 q26.1).bind fun q28 =>
        mX0_worstOf_j43 S o a0 k5 q28.2 q28.1 x4
def mX0_worstOf (S : SH) (me : ME) (o : Nat) (a0 : Int32) : Option (Int32 × ME) :=
  lpn (mX0_worstOf_L5 S o a0) lpF (me, (0 : Int64), (0 : Int32))
set_option maxRecDepth 100000 in
set_option maxHeartbeats 4000000 in
theorem kX0_worstOf (l : Launch) (D : va_G) (b : Nat) {S : SH} {me : ME} {o : Nat} {a0 : Int32} {q : Int32 × ME} (hM : mX0_worstOf S me o a0 = some q) : Ct l D b yX0_worstOf cX0_worstOf 6 (some .int) 1 27 0 0 [.ref (b + o), .int a0] S me S q.2 (some (.int q.1)) := by
  refine ct_of (own := RX0) (nm := "worstOf") (lv := [(0, .ref (b + o)), (1, .int a0)]) (plainFor_of_name (by decide)) rfl rfl (Nat.le_of_ble_eq_true rfl) rfl ⟨rfl, rfl⟩ (fun X cx ex hL => ?_)
  have J43 : ∀ (k5 : (ME × Int64 × Int32 → Option (Int32 × ME))), (∀ (me : ME) (x2 : Int64) (x4 : Int32), k5 (me, x2, x4) = some q → WS X b 6 S me 5 [(0, .ref (b + o)), (1, .int a0), (2, .long x2), (4, .int x4)] []) → ∀ (me : ME) (x2 : Int64) (x4 : Int32), mX0_worstOf_j43 S o a0 k5 me x2 x4 = some q → WS X b 6 S me 43 [(0, .ref (b + o)), (1, .int a0), (2, .long x2), (4, .int x4)] [] := by
    intro k5 hk5 me x2 x4 hM
    unfold mX0_worstOf_j43 at hM
    refine ws_iinc cx dX0_worstOf_43 (j := 3) rfl (v := x4 + (1 : Int32)) rfl (by decide) (lv' := [(4, .int (x4 + (1 : Int32))), (0, .ref (b + o)), (1, .int a0), (2, .long x2)]) rfl ?_
    refine ws_goto cx dX0_worstOf_46 (tgt := 5) (by decide) ?_
    refine ws_sub [1, 2, 3, 0] (lv' := [(0, .ref (b + o)), (1, .int a0), (2, .long x2), (4, .int (x4 + (1 : Int32)))]) rfl ?_
    exact hk5 _ _ _ hM
  have J88 : ∀ (me : ME) (y0 : Int32), mX0_worstOf_j88 S o a0 me y0 = some q → WS X b 6 S me 88 [] [.int y0] := by
    intro  me y0 hM
    unfold mX0_worstOf_j88 at hM
    exact ws_iretM cx ex hM dX0_worstOf_88
  have J49 : ∀ (me : ME) (x2 : Int64), mX0_worstOf_j49 S o a0 me x2 = some q → WS X b 6 S me 49 [(0, .ref (b + o)), (2, .long x2)] [] := by
    intro  me x2 hM
    unfold mX0_worstOf_j49 at hM
    refine ws_aload_n cx dX0_worstOf_49 rfl (j := 0) rfl ?_
    obtain ⟨v1, h2, hM⟩ := bnd hM
    refine ws_getR cx ffX0_15 h2 dX0_worstOf_50 ?_
    obtain ⟨v3, h4, hM⟩ := bnd hM
    refine ws_getJ cx ffX0_78 h4 dX0_worstOf_53 ?_
    refine ws_aload_n cx dX0_worstOf_56 rfl (j := 0) rfl ?_
    obtain ⟨v5, h6, hM⟩ := bnd hM
    refine ws_getR cx ffX0_15 h6 dX0_worstOf_57 ?_
    obtain ⟨v7, h8, hM⟩ := bnd hM
    refine ws_getJ cx ffX0_78 h8 dX0_worstOf_60 ?_
    refine ws_lmul cx dX0_worstOf_63 ?_
    refine ws_lstore cx dX0_worstOf_64 (by decide) (lv' := [(4, .long (v3 * v7)), (0, .ref (b + o)), (2, .long x2)]) rfl ?_
    refine ws_lload cx dX0_worstOf_66 (j := 0) rfl ?_
    refine ws_lconst cx dX0_worstOf_68 (v := 0) (by decide) ?_
    refine ws_lcmp cx dX0_worstOf_69 ?_
    refine ws_if_ne cx dX0_worstOf_70 (tgt := 77) (by decide) (fun c9 => ?_) (fun c9 => ?_)
    · have hM := if_f hM c9
      refine ws_lload_n cx dX0_worstOf_77 rfl (j := 2) rfl ?_
      refine ws_lload cx dX0_worstOf_78 (j := 0) rfl ?_
      obtain ⟨h10, hM⟩ := if_n hM
      refine ws_ldiv cx h10 dX0_worstOf_80 ?_
      refine ws_ldc2 cx cwX0_82 dX0_worstOf_81 ?_
      obtain ⟨q11, h12, hM⟩ := bnd hM
      refine ws_callS cx (rest := []) (st' := [.long q11.1]) (kJ9_min_f86c9 l D b h12) mvJ9_min_f86c9 lkX0_84 rfl ⟨by decide, by decide⟩ (Nat.le_of_ble_eq_true rfl) ⟨rfl, rfl⟩ (Or.inl ⟨rfl, rfl⟩) rfl rfl dX0_worstOf_84 ?_
      refine ws_l2i cx dX0_worstOf_87 ?_
      refine ws_sub [] (lv' := []) rfl ?_
      exact J88 _ _ hM
    · have hM := if_t hM c9
      refine ws_iconst cx dX0_worstOf_73 (v := 0) (by decide) ?_
      refine ws_goto cx dX0_worstOf_74 (tgt := 88) (by decide) ?_
      refine ws_sub [] (lv' := []) rfl ?_
      exact J88 _ _ hM
  have L5 : ∀ (n : Nat) (me : ME) (x2 : Int64) (x4 : Int32), lpn (mX0_worstOf_L5 S o a0) n (me, x2, x4) = some q → WS X b 6 S me 5 [(0, .ref (b + o)), (1, .int a0), (2, .long x2), (4, .int x4)] [] := by
    intro  n
    induction n with
    | zero => intro me x2 x4 hM; exact absurd hM (by intro h; cases h)
    | succ n ih =>
      intro me x2 x4 hM
      have hM : mX0_worstOf_L5 S o a0 (lpn (mX0_worstOf_L5 S o a0) n) (me, x2, x4) = some q := hM
      unfold mX0_worstOf_L5 at hM
      refine ws_iload cx dX0_worstOf_5 (j := 3) rfl ?_
      refine ws_aload_n cx dX0_worstOf_7 rfl (j := 0) rfl ?_
      obtain ⟨v13, h14, hM⟩ := bnd hM
      refine ws_getR cx ffX0_9 h14 dX0_worstOf_8 ?_
      obtain ⟨v15, h16, hM⟩ := bnd hM
      refine ws_getI cx ffX0_55 h16 dX0_worstOf_11 ?_
      refine ws_icmp_ge cx dX0_worstOf_14 (tgt := 49) (by decide) (fun c17 => ?_) (fun c17 => ?_)
      · have hM := if_t hM c17
        refine ws_sub [0, 2] (lv' := [(0, .ref (b + o)), (2, .long x2)]) rfl ?_
        exact J49 _ _ hM
      · have hM := if_f hM c17
        refine ws_iload_n cx dX0_worstOf_17 rfl (j := 1) rfl ?_
        refine ws_iload cx dX0_worstOf_18 (j := 3) rfl ?_
        obtain ⟨q18, h19, hM⟩ := bnd hM
        refine ws_callSN cx (rest := []) (st' := [.int q18.1]) (kX9_holds l D b h19) mvX9_holds lnX0_60 rfl ⟨by decide, by decide⟩ (Nat.le_of_ble_eq_true rfl) ⟨rfl, rfl⟩ (Or.inl ⟨rfl, rfl⟩) rfl rfl dX0_worstOf_20 ?_
        refine ws_if_eq cx dX0_worstOf_23 (tgt := 43) (by decide) (fun c20 => ?_) (fun c20 => ?_)
        · have hM := if_t hM c20
          refine ws_sub [0, 1, 2, 3] (lv' := [(0, .ref (b + o)), (1, .int a0), (2, .long x2), (4, .int x4)]) rfl ?_
          exact J43 _ ih _ _ _ hM
        · have hM := if_f hM c20
          refine ws_lload_n cx dX0_worstOf_26 rfl (j := 2) rfl ?_
          refine ws_aload_n cx dX0_worstOf_27 rfl (j := 0) rfl ?_
          obtain ⟨v21, h22, hM⟩ := bnd hM
          refine ws_getR cx ffX0_15 h22 dX0_worstOf_28 ?_
          refine ws_iload cx dX0_worstOf_31 (j := 3) rfl ?_
          obtain ⟨_, h25, hM⟩ := bnd hM
          obtain ⟨q23, h24, hM⟩ := bnd hM
          refine ws_callV cx (rest := [.long x2]) (st' := [.long q23.1, .long x2]) (kX7_miss l D b h24) mvX7_miss (ck_k h25) (by decide) (q := (RX7, TX7, 8)) rfl seX7_miss lkX0_64 rfl ⟨by decide, by decide⟩ (Nat.le_of_ble_eq_true rfl) ⟨rfl, rfl⟩ (Or.inl ⟨rfl, rfl⟩) rfl rfl dX0_worstOf_33 ?_
          obtain ⟨q26, h27, hM⟩ := bnd hM
          refine ws_callS cx (rest := [.long x2]) (st' := [.long q26.1, .long x2]) (kJ9_abs_067f4 l D b h27) mvJ9_abs_067f4 lkX0_68 rfl ⟨by decide, by decide⟩ (Nat.le_of_ble_eq_true rfl) ⟨rfl, rfl⟩ (Or.inl ⟨rfl, rfl⟩) rfl rfl dX0_worstOf_36 ?_
          obtain ⟨q28, h29, hM⟩ := bnd hM
          refine ws_callS cx (rest := []) (st' := [.long q28.1]) (kJ9_max_f86c9 l D b h29) mvJ9_max_f86c9 lkX0_74 rfl ⟨by decide, by decide⟩ (Nat.le_of_ble_eq_true rfl) ⟨rfl, rfl⟩ (Or.inl ⟨rfl, rfl⟩) rfl rfl dX0_worstOf_39 ?_
          refine ws_lstore_n cx dX0_worstOf_42 rfl (by decide) (lv' := [(2, .long q28.1), (0, .ref (b + o)), (1, .int a0), (4, .int x4)]) rfl ?_
          refine ws_sub [1, 2, 0, 3] (lv' := [(0, .ref (b + o)), (1, .int a0), (2, .long q28.1), (4, .int x4)]) rfl ?_
          exact J43 _ ih _ _ _ hM
  unfold mX0_worstOf at hM
  refine ws_lconst cx dX0_worstOf_0 (v := 0) (by decide) ?_
  refine ws_lstore_n cx dX0_worstOf_1 rfl (by decide) (lv' := [(2, .long (0 : Int64)), (0, .ref (b + o)), (1, .int a0)]) rfl ?_
  refine ws_iconst cx dX0_worstOf_2 (v := 0) (by decide) ?_
  refine ws_istore cx dX0_worstOf_3 (by decide) (lv' := [(4, .int (0 : Int32)), (2, .long (0 : Int64)), (0, .ref (b + o)), (1, .int a0)]) rfl ?_
  refine ws_sub [2, 3, 1, 0] (lv' := [(0, .ref (b + o)), (1, .int a0), (2, .long (0 : Int64)), (4, .int (0 : Int32))]) rfl ?_
  exact L5 _ _ _ _ hM

def mX0_offerFour_j27 (S : SH) (o : Nat) (a0 : Int32) (a1 : Int32) (me : ME) : Option (Unit × ME) :=
  some ((), me)
def mX0_offerFour_j17 (S : SH) (o : Nat) (a0 : Int32) (a1 : Int32) (me : ME) : Option (Unit × ME) :=
  (sI S me 0 2 o a0).bind fun m2 =>
  (sI S m2 0 3 o a1).bind fun m4 =>
  mX0_offerFour_j27 S o a0 a1 m4
def mX0_offerFour (S : SH) (me : ME) (o : Nat) (a0 : Int32) (a1 : Int32) : Option (Unit × ME) :=
  (gI S me 0 2 o).bind fun v5 =>
  if v5 = (-9 : Int32) then
    mX0_offerFour_j17 S o a0 a1 me
  else
    (gI S me 0 3 o).bind fun v8 =>
    if v8 ≤ a1 then
      mX0_offerFour_j27 S o a0 a1 me
    else
      mX0_offerFour_j17 S o a0 a1 me
set_option maxRecDepth 100000 in
set_option maxHeartbeats 4000000 in
theorem kX0_offerFour (l : Launch) (D : va_G) (b : Nat) {S : SH} {me : ME} {o : Nat} {a0 : Int32} {a1 : Int32} {q : Unit × ME} (hM : mX0_offerFour S me o a0 a1 = some q) : Ct l D b yX0_offerFour cX0_offerFour 3 none 0 0 0 0 [.ref (b + o), .int a0, .int a1] S me S q.2 none := by
  refine ct_of (own := RX0) (nm := "offerFour") (lv := [(0, .ref (b + o)), (1, .int a0), (2, .int a1)]) (plainFor_of_name (by decide)) rfl rfl (Nat.le_of_ble_eq_true rfl) rfl ⟨rfl, rfl⟩ (fun X cx ex hL => ?_)
  have J27 : ∀ (me : ME), mX0_offerFour_j27 S o a0 a1 me = some q → WS X b 3 S me 27 [] [] := by
    intro  me hM
    unfold mX0_offerFour_j27 at hM
    exact ws_vretM cx ex hM dX0_offerFour_27
  have J17 : ∀ (me : ME), mX0_offerFour_j17 S o a0 a1 me = some q → WS X b 3 S me 17 [(0, .ref (b + o)), (1, .int a0), (2, .int a1)] [] := by
    intro  me hM
    unfold mX0_offerFour_j17 at hM
    refine ws_aload_n cx dX0_offerFour_17 rfl (j := 0) rfl ?_
    refine ws_iload_n cx dX0_offerFour_18 rfl (j := 1) rfl ?_
    obtain ⟨m2, h1, hM⟩ := bnd hM
    refine ws_putI cx ffX0_34 h1 dX0_offerFour_19 ?_
    refine ws_aload_n cx dX0_offerFour_22 rfl (j := 0) rfl ?_
    refine ws_iload_n cx dX0_offerFour_23 rfl (j := 2) rfl ?_
    obtain ⟨m4, h3, hM⟩ := bnd hM
    refine ws_putI cx ffX0_38 h3 dX0_offerFour_24 ?_
    refine ws_sub [] (lv' := []) rfl ?_
    exact J27 _ hM
  unfold mX0_offerFour at hM
  refine ws_aload_n cx dX0_offerFour_0 rfl (j := 0) rfl ?_
  obtain ⟨v5, h6, hM⟩ := bnd hM
  refine ws_getI cx ffX0_34 h6 dX0_offerFour_1 ?_
  refine ws_bipush cx dX0_offerFour_4 (v := -9) (by decide) ?_
  refine ws_icmp_eq cx dX0_offerFour_6 (tgt := 17) (by decide) (fun c7 => ?_) (fun c7 => ?_)
  · have hM := if_t hM c7
    refine ws_sub [0, 1, 2] (lv' := [(0, .ref (b + o)), (1, .int a0), (2, .int a1)]) rfl ?_
    exact J17 _ hM
  · have hM := if_f hM c7
    refine ws_iload_n cx dX0_offerFour_9 rfl (j := 2) rfl ?_
    refine ws_aload_n cx dX0_offerFour_10 rfl (j := 0) rfl ?_
    obtain ⟨v8, h9, hM⟩ := bnd hM
    refine ws_getI cx ffX0_38 h9 dX0_offerFour_11 ?_
    refine ws_icmp_ge cx dX0_offerFour_14 (tgt := 27) (by decide) (fun c10 => ?_) (fun c10 => ?_)
    · have hM := if_t hM c10
      refine ws_sub [] (lv' := []) rfl ?_
      exact J27 _ hM
    · have hM := if_f hM c10
      refine ws_sub [0, 1, 2] (lv' := [(0, .ref (b + o)), (1, .int a0), (2, .int a1)]) rfl ?_
      exact J17 _ hM

def mX0_seekFour_j59 (S : SH) (o : Nat) (a0 : Int32) (k14 : (ME × Int32 → Option (Unit × ME))) (me : ME) (x2 : Int32) : Option (Unit × ME) :=
  k14 (me, x2 + (1 : Int32))
def mX0_seekFour_j65 (S : SH) (o : Nat) (a0 : Int32) (me : ME) : Option (Unit × ME) :=
  some ((), me)
def mX0_seekFour_L14 (S : SH) (o : Nat) (a0 : Int32) (k14 : (ME × Int32 → Option (Unit × ME))) : ME × Int32 → Option (Unit × ME)
  | (me, x2) =>
    if (512 : Int32) ≤ x2 then
      mX0_seekFour_j65 S o a0 me
    else
      (mX0_isPart S me x2 a0 (4 : Int32)).bind fun q2 =>
      if q2.1 = 0 then
        mX0_seekFour_j59 S o a0 k14 q2.2 x2
      else
        (gR S 0 1 o).bind fun v5 =>
        (ck S 7 v5).bind fun _ => (mX7_solve S q2.2 v5 x2).bind fun q7 =>
        (gR S 0 1 o).bind fun v10 =>
        (gI S q7.2 7 3 v10).bind fun v12 =>
        if v12 = (3 : Int32) then
          (ck S 0 o).bind fun _ => (mX0_worstOf S q7.2 o a0).bind fun q15 =>
          (ck S 0 o).bind fun _ => (mX0_offerFour S q15.2 o x2 q15.1).bind fun q18 =>
          mX0_seekFour_j59 S o a0 k14 q18.2 x2
        else
          mX0_seekFour_j59 S o a0 k14 q7.2 x2
def mX0_seekFour (S : SH) (me : ME) (o : Nat) (a0 : Int32) : Option (Unit × ME) :=
  (sI S me 0 2 o (-9 : Int32)).bind fun m22 =>
  (sI S m22 0 3 o (-9 : Int32)).bind fun m24 =>
  lpn (mX0_seekFour_L14 S o a0) lpF (m24, (0 : Int32))
set_option maxRecDepth 100000 in
set_option maxHeartbeats 4000000 in
theorem kX0_seekFour (l : Launch) (D : va_G) (b : Nat) {S : SH} {me : ME} {o : Nat} {a0 : Int32} {q : Unit × ME} (hM : mX0_seekFour S me o a0 = some q) : Ct l D b yX0_seekFour cX0_seekFour 3 none 4 90 0 0 [.ref (b + o), .int a0] S me S q.2 none := by
  refine ct_of (own := RX0) (nm := "seekFour") (lv := [(0, .ref (b + o)), (1, .int a0)]) (plainFor_of_name (by decide)) rfl rfl (Nat.le_of_ble_eq_true rfl) rfl ⟨rfl, rfl⟩ (fun X cx ex hL => ?_)
  have J59 : ∀ (k14 : (ME × Int32 → Option (Unit × ME))), (∀ (me : ME) (x2 : Int32), k14 (me, x2) = some q → WS X b 3 S me 14 [(0, .ref (b + o)), (1, .int a0), (2, .int x2)] []) → ∀ (me : ME) (x2 : Int32), mX0_seekFour_j59 S o a0 k14 me x2 = some q → WS X b 3 S me 59 [(0, .ref (b + o)), (1, .int a0), (2, .int x2)] [] := by
    intro k14 hk14 me x2 hM
    unfold mX0_seekFour_j59 at hM
    refine ws_iinc cx dX0_seekFour_59 (j := 2) rfl (v := x2 + (1 : Int32)) rfl (by decide) (lv' := [(2, .int (x2 + (1 : Int32))), (0, .ref (b + o)), (1, .int a0)]) rfl ?_
    refine ws_goto cx dX0_seekFour_62 (tgt := 14) (by decide) ?_
    refine ws_sub [1, 2, 0] (lv' := [(0, .ref (b + o)), (1, .int a0), (2, .int (x2 + (1 : Int32)))]) rfl ?_
    exact hk14 _ _ hM
  have J65 : ∀ (me : ME), mX0_seekFour_j65 S o a0 me = some q → WS X b 3 S me 65 [] [] := by
    intro  me hM
    unfold mX0_seekFour_j65 at hM
    exact ws_vretM cx ex hM dX0_seekFour_65
  have L14 : ∀ (n : Nat) (me : ME) (x2 : Int32), lpn (mX0_seekFour_L14 S o a0) n (me, x2) = some q → WS X b 3 S me 14 [(0, .ref (b + o)), (1, .int a0), (2, .int x2)] [] := by
    intro  n
    induction n with
    | zero => intro me x2 hM; exact absurd hM (by intro h; cases h)
    | succ n ih =>
      intro me x2 hM
      have hM : mX0_seekFour_L14 S o a0 (lpn (mX0_seekFour_L14 S o a0) n) (me, x2) = some q := hM
      unfold mX0_seekFour_L14 at hM
      refine ws_iload_n cx dX0_seekFour_14 rfl (j := 2) rfl ?_
      refine ws_sipush cx dX0_seekFour_15 (v := 512) (by decide) ?_
      refine ws_icmp_ge cx dX0_seekFour_18 (tgt := 65) (by decide) (fun c1 => ?_) (fun c1 => ?_)
      · have hM := if_t hM c1
        refine ws_sub [] (lv' := []) rfl ?_
        exact J65 _ hM
      · have hM := if_f hM c1
        refine ws_iload_n cx dX0_seekFour_21 rfl (j := 2) rfl ?_
        refine ws_iload_n cx dX0_seekFour_22 rfl (j := 1) rfl ?_
        refine ws_iconst cx dX0_seekFour_23 (v := 4) (by decide) ?_
        obtain ⟨q2, h3, hM⟩ := bnd hM
        refine ws_callS cx (rest := []) (st' := [.int q2.1]) (kX0_isPart l D b h3) mvX0_isPart lkX0_19 rfl ⟨by decide, by decide⟩ (Nat.le_of_ble_eq_true rfl) ⟨rfl, rfl⟩ (Or.inl ⟨rfl, rfl⟩) rfl rfl dX0_seekFour_24 ?_
        refine ws_if_eq cx dX0_seekFour_27 (tgt := 59) (by decide) (fun c4 => ?_) (fun c4 => ?_)
        · have hM := if_t hM c4
          refine ws_sub [0, 1, 2] (lv' := [(0, .ref (b + o)), (1, .int a0), (2, .int x2)]) rfl ?_
          exact J59 _ ih _ _ hM
        · have hM := if_f hM c4
          refine ws_aload_n cx dX0_seekFour_30 rfl (j := 0) rfl ?_
          obtain ⟨v5, h6, hM⟩ := bnd hM
          refine ws_getR cx ffX0_15 h6 dX0_seekFour_31 ?_
          refine ws_iload_n cx dX0_seekFour_34 rfl (j := 2) rfl ?_
          obtain ⟨_, h9, hM⟩ := bnd hM
          obtain ⟨q7, h8, hM⟩ := bnd hM
          refine ws_callV cx (rest := []) (st' := []) (kX7_solve l D b h8) mvX7_solve (ck_k h9) (by decide) (q := (RX7, TX7, 8)) rfl seX7_solve lkX0_41 rfl ⟨by decide, by decide⟩ (Nat.le_of_ble_eq_true rfl) ⟨rfl, rfl⟩ (Or.inl ⟨rfl, rfl⟩) rfl rfl dX0_seekFour_35 ?_
          refine ws_aload_n cx dX0_seekFour_38 rfl (j := 0) rfl ?_
          obtain ⟨v10, h11, hM⟩ := bnd hM
          refine ws_getR cx ffX0_15 h11 dX0_seekFour_39 ?_
          obtain ⟨v12, h13, hM⟩ := bnd hM
          refine ws_getI cx ffX0_45 h13 dX0_seekFour_42 ?_
          refine ws_iconst cx dX0_seekFour_45 (v := 3) (by decide) ?_
          refine ws_icmp_ne cx dX0_seekFour_46 (tgt := 59) (by decide) (fun c14 => ?_) (fun c14 => ?_)
          · have hM := if_f hM c14
            refine ws_sub [0, 1, 2] (lv' := [(0, .ref (b + o)), (1, .int a0), (2, .int x2)]) rfl ?_
            exact J59 _ ih _ _ hM
          · have hM := if_t hM c14
            refine ws_aload_n cx dX0_seekFour_49 rfl (j := 0) rfl ?_
            refine ws_iload_n cx dX0_seekFour_50 rfl (j := 2) rfl ?_
            refine ws_aload_n cx dX0_seekFour_51 rfl (j := 0) rfl ?_
            refine ws_iload_n cx dX0_seekFour_52 rfl (j := 1) rfl ?_
            obtain ⟨_, h17, hM⟩ := bnd hM
            obtain ⟨q15, h16, hM⟩ := bnd hM
            refine ws_callV cx (rest := [.int x2, .ref (b + o)]) (st' := [.int q15.1, .int x2, .ref (b + o)]) (kX0_worstOf l D b h16) mvX0_worstOf (ck_k h17) (by decide) (q := (RX0, TX0, 6)) rfl seX0_worstOf lkX0_48 rfl ⟨by decide, by decide⟩ (Nat.le_of_ble_eq_true rfl) ⟨rfl, rfl⟩ (Or.inl ⟨rfl, rfl⟩) rfl rfl dX0_seekFour_53 ?_
            obtain ⟨_, h20, hM⟩ := bnd hM
            obtain ⟨q18, h19, hM⟩ := bnd hM
            refine ws_callV cx (rest := []) (st' := []) (kX0_offerFour l D b h19) mvX0_offerFour (ck_k h20) (by decide) (q := (RX0, TX0, 6)) rfl seX0_offerFour lkX0_51 rfl ⟨by decide, by decide⟩ (Nat.le_of_ble_eq_true rfl) ⟨rfl, rfl⟩ (Or.inl ⟨rfl, rfl⟩) rfl rfl dX0_seekFour_56 ?_
            refine ws_sub [0, 1, 2] (lv' := [(0, .ref (b + o)), (1, .int a0), (2, .int x2)]) rfl ?_
            exact J59 _ ih _ _ hM
  unfold mX0_seekFour at hM
  refine ws_aload_n cx dX0_seekFour_0 rfl (j := 0) rfl ?_
  refine ws_bipush cx dX0_seekFour_1 (v := -9) (by decide) ?_
  obtain ⟨m22, h21, hM⟩ := bnd hM
  refine ws_putI cx ffX0_34 h21 dX0_seekFour_3 ?_
  refine ws_aload_n cx dX0_seekFour_6 rfl (j := 0) rfl ?_
  refine ws_bipush cx dX0_seekFour_7 (v := -9) (by decide) ?_
  obtain ⟨m24, h23, hM⟩ := bnd hM
  refine ws_putI cx ffX0_38 h23 dX0_seekFour_9 ?_
  refine ws_iconst cx dX0_seekFour_12 (v := 0) (by decide) ?_
  refine ws_istore_n cx dX0_seekFour_13 rfl (by decide) (lv' := [(2, .int (0 : Int32)), (0, .ref (b + o)), (1, .int a0)]) rfl ?_
  refine ws_sub [1, 2, 0] (lv' := [(0, .ref (b + o)), (1, .int a0), (2, .int (0 : Int32))]) rfl ?_
  exact L14 _ _ _ hM

def mX9_wholeWay_j35 (S : SH) (a0 : Int32) (a1 : Int32) (me : ME) (y0 : Int32) : Option (Int32 × ME) :=
  some (y0, me)
def mX9_wholeWay_j23 (S : SH) (a0 : Int32) (a1 : Int32) (me : ME) (x2 : Int32) (x3 : Int32) : Option (Int32 × ME) :=
  if (x3 * x3) = x2 then
    mX9_wholeWay_j35 S a0 a1 me x3
  else
    mX9_wholeWay_j35 S a0 a1 me (-1 : Int32)
def mX9_wholeWay_j42 (S : SH) (a0 : Int32) (a1 : Int32) (me : ME) : Option (Int32 × ME) :=
  some ((-1 : Int32), me)
def mX9_wholeWay_L10 (S : SH) (a0 : Int32) (a1 : Int32) (k10 : (ME × Int32 × Int32 → Option (Int32 × ME))) : ME × Int32 × Int32 → Option (Int32 × ME)
  | (me, x2, x3) =>
    if (41 : Int32) < x3 then
      mX9_wholeWay_j42 S a0 a1 me
    else
      if (x3 * x3) < x2 then
        k10 (me, x2, x3 + (1 : Int32))
      else
        mX9_wholeWay_j23 S a0 a1 me x2 x3
def mX9_wholeWay (S : SH) (me : ME) (a0 : Int32) (a1 : Int32) : Option (Int32 × ME) :=
  lpn (mX9_wholeWay_L10 S a0 a1) lpF (me, (a0 * a0) + (a1 * a1), (0 : Int32))
set_option maxRecDepth 100000 in
set_option maxHeartbeats 4000000 in
theorem kX9_wholeWay (l : Launch) (D : va_G) (b : Nat) {S : SH} {me : ME} {a0 : Int32} {a1 : Int32} {q : Int32 × ME} (hM : mX9_wholeWay S me a0 a1 = some q) : Ct l D b yX9_wholeWay cX9_wholeWay 4 (some .int) 0 0 0 0 [.int a0, .int a1] S me S q.2 (some (.int q.1)) := by
  refine ct_of (own := RX9) (nm := "wholeWay") (lv := [(0, .int a0), (1, .int a1)]) (plainFor_of_name (by decide)) rfl rfl (Nat.le_of_ble_eq_true rfl) rfl ⟨rfl, rfl⟩ (fun X cx ex hL => ?_)
  have J35 : ∀ (me : ME) (y0 : Int32), mX9_wholeWay_j35 S a0 a1 me y0 = some q → WS X b 4 S me 35 [] [.int y0] := by
    intro  me y0 hM
    unfold mX9_wholeWay_j35 at hM
    exact ws_iretM cx ex hM dX9_wholeWay_35
  have J23 : ∀ (me : ME) (x2 : Int32) (x3 : Int32), mX9_wholeWay_j23 S a0 a1 me x2 x3 = some q → WS X b 4 S me 23 [(2, .int x2), (3, .int x3)] [] := by
    intro  me x2 x3 hM
    unfold mX9_wholeWay_j23 at hM
    refine ws_iload_n cx dX9_wholeWay_23 rfl (j := 1) rfl ?_
    refine ws_iload_n cx dX9_wholeWay_24 rfl (j := 1) rfl ?_
    refine ws_imul cx dX9_wholeWay_25 ?_
    refine ws_iload_n cx dX9_wholeWay_26 rfl (j := 0) rfl ?_
    refine ws_icmp_ne cx dX9_wholeWay_27 (tgt := 34) (by decide) (fun c1 => ?_) (fun c1 => ?_)
    · have hM := if_f hM c1
      refine ws_iconst cx dX9_wholeWay_34 (v := -1) (by decide) ?_
      refine ws_sub [] (lv' := []) rfl ?_
      exact J35 _ _ hM
    · have hM := if_t hM c1
      refine ws_iload_n cx dX9_wholeWay_30 rfl (j := 1) rfl ?_
      refine ws_goto cx dX9_wholeWay_31 (tgt := 35) (by decide) ?_
      refine ws_sub [] (lv' := []) rfl ?_
      exact J35 _ _ hM
  have J42 : ∀ (me : ME), mX9_wholeWay_j42 S a0 a1 me = some q → WS X b 4 S me 42 [] [] := by
    intro  me hM
    unfold mX9_wholeWay_j42 at hM
    refine ws_iconst cx dX9_wholeWay_42 (v := -1) (by decide) ?_
    exact ws_iretM cx ex hM dX9_wholeWay_43
  have L10 : ∀ (n : Nat) (me : ME) (x2 : Int32) (x3 : Int32), lpn (mX9_wholeWay_L10 S a0 a1) n (me, x2, x3) = some q → WS X b 4 S me 10 [(2, .int x2), (3, .int x3)] [] := by
    intro  n
    induction n with
    | zero => intro me x2 x3 hM; exact absurd hM (by intro h; cases h)
    | succ n ih =>
      intro me x2 x3 hM
      have hM : mX9_wholeWay_L10 S a0 a1 (lpn (mX9_wholeWay_L10 S a0 a1) n) (me, x2, x3) = some q := hM
      unfold mX9_wholeWay_L10 at hM
      refine ws_iload_n cx dX9_wholeWay_10 rfl (j := 1) rfl ?_
      refine ws_bipush cx dX9_wholeWay_11 (v := 41) (by decide) ?_
      refine ws_icmp_gt cx dX9_wholeWay_13 (tgt := 42) (by decide) (fun c2 => ?_) (fun c2 => ?_)
      · have hM := if_t hM c2
        refine ws_sub [] (lv' := []) rfl ?_
        exact J42 _ hM
      · have hM := if_f hM c2
        refine ws_iload_n cx dX9_wholeWay_16 rfl (j := 1) rfl ?_
        refine ws_iload_n cx dX9_wholeWay_17 rfl (j := 1) rfl ?_
        refine ws_imul cx dX9_wholeWay_18 ?_
        refine ws_iload_n cx dX9_wholeWay_19 rfl (j := 0) rfl ?_
        refine ws_icmp_lt cx dX9_wholeWay_20 (tgt := 36) (by decide) (fun c3 => ?_) (fun c3 => ?_)
        · have hM := if_t hM c3
          refine ws_iinc cx dX9_wholeWay_36 (j := 1) rfl (v := x3 + (1 : Int32)) rfl (by decide) (lv' := [(3, .int (x3 + (1 : Int32))), (2, .int x2)]) rfl ?_
          refine ws_goto cx dX9_wholeWay_39 (tgt := 10) (by decide) ?_
          refine ws_sub [1, 0] (lv' := [(2, .int x2), (3, .int (x3 + (1 : Int32)))]) rfl ?_
          exact ih _ _ _ hM
        · have hM := if_f hM c3
          refine ws_sub [0, 1] (lv' := [(2, .int x2), (3, .int x3)]) rfl ?_
          exact J23 _ _ _ hM
  unfold mX9_wholeWay at hM
  refine ws_iload_n cx dX9_wholeWay_0 rfl (j := 0) rfl ?_
  refine ws_iload_n cx dX9_wholeWay_1 rfl (j := 0) rfl ?_
  refine ws_imul cx dX9_wholeWay_2 ?_
  refine ws_iload_n cx dX9_wholeWay_3 rfl (j := 1) rfl ?_
  refine ws_iload_n cx dX9_wholeWay_4 rfl (j := 1) rfl ?_
  refine ws_imul cx dX9_wholeWay_5 ?_
  refine ws_iadd cx dX9_wholeWay_6 ?_
  refine ws_istore_n cx dX9_wholeWay_7 rfl (by decide) (lv' := [(2, .int ((a0 * a0) + (a1 * a1))), (0, .int a0), (1, .int a1)]) rfl ?_
  refine ws_iconst cx dX9_wholeWay_8 (v := 0) (by decide) ?_
  refine ws_istore_n cx dX9_wholeWay_9 rfl (by decide) (lv' := [(3, .int (0 : Int32)), (2, .int ((a0 * a0) + (a1 * a1))), (0, .int a0), (1, .int a1)]) rfl ?_
  refine ws_sub [1, 0] (lv' := [(2, .int ((a0 * a0) + (a1 * a1))), (3, .int (0 : Int32))]) rfl ?_
  exact L10 _ _ _ _ hM
