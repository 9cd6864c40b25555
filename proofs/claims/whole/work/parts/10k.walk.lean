def mX10_isOpen_j25 (S : SH) (o : Nat) (a0 : Int32) (me : ME) : Option (Int32 × ME) :=
  some ((0 : Int32), me)
def mX10_isOpen_j62 (S : SH) (o : Nat) (a0 : Int32) (me : ME) : Option (Int32 × ME) :=
  some ((0 : Int32), me)
def mX10_isOpen_j106 (S : SH) (o : Nat) (a0 : Int32) (me : ME) : Option (Int32 × ME) :=
  some ((0 : Int32), me)
def mX10_isOpen_j108 (S : SH) (o : Nat) (a0 : Int32) (k2 : (ME × Int32 → Option (Int32 × ME))) (k29 : (ME × Int32 × Int32 → Option (Int32 × ME))) (k37 : (ME × Int32 × Int32 × Int32 → Option (Int32 × ME))) (k67 : (ME × Int32 × Int32 × Int32 × Int32 → Option (Int32 × ME))) (k76 : (ME × Int32 × Int32 × Int32 × Int32 × Int32 → Option (Int32 × ME))) (me : ME) (x2 : Int32) (x3 : Int32) (x4 : Int32) (x5 : Int32) (x6 : Int32) : Option (Int32 × ME) :=
  k76 (me, x2, x3, x4, x5, x6 + (1 : Int32))
def mX10_isOpen_j114 (S : SH) (o : Nat) (a0 : Int32) (k2 : (ME × Int32 → Option (Int32 × ME))) (k29 : (ME × Int32 × Int32 → Option (Int32 × ME))) (k37 : (ME × Int32 × Int32 × Int32 → Option (Int32 × ME))) (k67 : (ME × Int32 × Int32 × Int32 × Int32 → Option (Int32 × ME))) (me : ME) (x2 : Int32) (x3 : Int32) (x4 : Int32) (x5 : Int32) : Option (Int32 × ME) :=
  k67 (me, x2, x3, x4, x5 + (1 : Int32))
def mX10_isOpen_L76 (S : SH) (o : Nat) (a0 : Int32) (k2 : (ME × Int32 → Option (Int32 × ME))) (k29 : (ME × Int32 × Int32 → Option (Int32 × ME))) (k37 : (ME × Int32 × Int32 × Int32 → Option (Int32 × ME))) (k67 : (ME × Int32 × Int32 × Int32 × Int32 → Option (Int32 × ME))) (k76 : (ME × Int32 × Int32 × Int32 × Int32 × Int32 → Option (Int32 × ME))) : ME × Int32 × Int32 × Int32 × Int32 × Int32 → Option (Int32 × ME)
  | (me, x2, x3, x4, x5, x6) =>
    if x4 ≤ x6 then
      mX10_isOpen_j114 S o a0 k2 k29 k37 k67 me x2 x3 x4 x5
    else
      if a0 = (2 : Int32) then
        (ck S 10 o).bind fun _ => (mX10_three S me o x2 x3 x5 x6 x4 (3 : Int32)).bind fun q3 =>
        if (lg_cmp q3.1 (0 : Int64)) = 0 then
          mX10_isOpen_j108 S o a0 k2 k29 k37 k67 k76 q3.2 x2 x3 x4 x5 x6
        else
          mX10_isOpen_j106 S o a0 q3.2
      else
        mX10_isOpen_j108 S o a0 k2 k29 k37 k67 k76 me x2 x3 x4 x5 x6
def mX10_isOpen_j120 (S : SH) (o : Nat) (a0 : Int32) (k2 : (ME × Int32 → Option (Int32 × ME))) (k29 : (ME × Int32 × Int32 → Option (Int32 × ME))) (k37 : (ME × Int32 × Int32 × Int32 → Option (Int32 × ME))) (me : ME) (x2 : Int32) (x3 : Int32) (x4 : Int32) : Option (Int32 × ME) :=
  k37 (me, x2, x3, x4 + (1 : Int32))
def mX10_isOpen_L67 (S : SH) (o : Nat) (a0 : Int32) (k2 : (ME × Int32 → Option (Int32 × ME))) (k29 : (ME × Int32 × Int32 → Option (Int32 × ME))) (k37 : (ME × Int32 × Int32 × Int32 → Option (Int32 × ME))) (k67 : (ME × Int32 × Int32 × Int32 × Int32 → Option (Int32 × ME))) : ME × Int32 × Int32 × Int32 × Int32 → Option (Int32 × ME)
  | (me, x2, x3, x4, x5) =>
    if x3 ≤ x5 then
      mX10_isOpen_j120 S o a0 k2 k29 k37 me x2 x3 x4
    else
      lpn (mX10_isOpen_L76 S o a0 k2 k29 k37 k67) lpF (me, x2, x3, x4, x5, (0 : Int32))
def mX10_isOpen_j64 (S : SH) (o : Nat) (a0 : Int32) (k2 : (ME × Int32 → Option (Int32 × ME))) (k29 : (ME × Int32 × Int32 → Option (Int32 × ME))) (k37 : (ME × Int32 × Int32 × Int32 → Option (Int32 × ME))) (me : ME) (x2 : Int32) (x3 : Int32) (x4 : Int32) : Option (Int32 × ME) :=
  lpn (mX10_isOpen_L67 S o a0 k2 k29 k37) lpF (me, x2, x3, x4, (0 : Int32))
def mX10_isOpen_j126 (S : SH) (o : Nat) (a0 : Int32) (k2 : (ME × Int32 → Option (Int32 × ME))) (k29 : (ME × Int32 × Int32 → Option (Int32 × ME))) (me : ME) (x2 : Int32) (x3 : Int32) : Option (Int32 × ME) :=
  k29 (me, x2, x3 + (1 : Int32))
def mX10_isOpen_L37 (S : SH) (o : Nat) (a0 : Int32) (k2 : (ME × Int32 → Option (Int32 × ME))) (k29 : (ME × Int32 × Int32 → Option (Int32 × ME))) (k37 : (ME × Int32 × Int32 × Int32 → Option (Int32 × ME))) : ME × Int32 × Int32 × Int32 → Option (Int32 × ME)
  | (me, x2, x3, x4) =>
    if (3 : Int32) ≤ x4 then
      mX10_isOpen_j126 S o a0 k2 k29 me x2 x3
    else
      if a0 = (1 : Int32) then
        (ck S 10 o).bind fun _ => (mX10_two S me o x2 x3 x4 (3 : Int32)).bind fun q10 =>
        if (lg_cmp q10.1 (0 : Int64)) = 0 then
          mX10_isOpen_j64 S o a0 k2 k29 k37 q10.2 x2 x3 x4
        else
          mX10_isOpen_j62 S o a0 q10.2
      else
        mX10_isOpen_j64 S o a0 k2 k29 k37 me x2 x3 x4
def mX10_isOpen_j132 (S : SH) (o : Nat) (a0 : Int32) (k2 : (ME × Int32 → Option (Int32 × ME))) (me : ME) (x2 : Int32) : Option (Int32 × ME) :=
  k2 (me, x2 + (1 : Int32))
def mX10_isOpen_L29 (S : SH) (o : Nat) (a0 : Int32) (k2 : (ME × Int32 → Option (Int32 × ME))) (k29 : (ME × Int32 × Int32 → Option (Int32 × ME))) : ME × Int32 × Int32 → Option (Int32 × ME)
  | (me, x2, x3) =>
    if x2 ≤ x3 then
      mX10_isOpen_j132 S o a0 k2 me x2
    else
      lpn (mX10_isOpen_L37 S o a0 k2 k29) lpF (me, x2, x3, (0 : Int32))
def mX10_isOpen_j27 (S : SH) (o : Nat) (a0 : Int32) (k2 : (ME × Int32 → Option (Int32 × ME))) (me : ME) (x2 : Int32) : Option (Int32 × ME) :=
  lpn (mX10_isOpen_L29 S o a0 k2) lpF (me, x2, (0 : Int32))
def mX10_isOpen_j138 (S : SH) (o : Nat) (a0 : Int32) (me : ME) : Option (Int32 × ME) :=
  some ((1 : Int32), me)
def mX10_isOpen_L2 (S : SH) (o : Nat) (a0 : Int32) (k2 : (ME × Int32 → Option (Int32 × ME))) : ME × Int32 → Option (Int32 × ME)
  | (me, x2) =>
    (gI S me 10 22 o).bind fun v15 =>
    if v15 ≤ x2 then
      mX10_isOpen_j138 S o a0 me
    else
      if a0 = 0 then
        (ck S 10 o).bind fun _ => (mX10_cellAt S me o x2 (3 : Int32)).bind fun q19 =>
        if (lg_cmp q19.1 (0 : Int64)) = 0 then
          mX10_isOpen_j27 S o a0 k2 q19.2 x2
        else
          mX10_isOpen_j25 S o a0 q19.2
      else
        mX10_isOpen_j27 S o a0 k2 me x2
def mX10_isOpen (S : SH) (me : ME) (o : Nat) (a0 : Int32) : Option (Int32 × ME) :=
  lpn (mX10_isOpen_L2 S o a0) lpF (me, (0 : Int32))
set_option maxRecDepth 100000 in
set_option maxHeartbeats 4000000 in
theorem kX10_isOpen (l : Launch) (D : va_G) (b : Nat) {S : SH} {me : ME} {o : Nat} {a0 : Int32} {q : Int32 × ME} (hM : mX10_isOpen S me o a0 = some q) : Ct l D b yX10_isOpen cX10_isOpen 7 (some .boolean) 2 48 0 0 [.ref (b + o), .int a0] S me S q.2 (some (.int q.1)) := by
  refine ct_of (own := RX10) (nm := "isOpen") (lv := [(0, .ref (b + o)), (1, .int a0)]) (plainFor_of_name (by decide)) rfl rfl (Nat.le_of_ble_eq_true rfl) rfl ⟨rfl, rfl⟩ (fun X cx ex hL => ?_)
  have J25 : ∀ (me : ME), mX10_isOpen_j25 S o a0 me = some q → WS X b 7 S me 25 [] [] := by
    intro  me hM
    unfold mX10_isOpen_j25 at hM
    refine ws_iconst cx dX10_isOpen_25 (v := 0) (by decide) ?_
    exact ws_zretM cx ex (by decide) hM dX10_isOpen_26
  have J62 : ∀ (me : ME), mX10_isOpen_j62 S o a0 me = some q → WS X b 7 S me 62 [] [] := by
    intro  me hM
    unfold mX10_isOpen_j62 at hM
    refine ws_iconst cx dX10_isOpen_62 (v := 0) (by decide) ?_
    exact ws_zretM cx ex (by decide) hM dX10_isOpen_63
  have J106 : ∀ (me : ME), mX10_isOpen_j106 S o a0 me = some q → WS X b 7 S me 106 [] [] := by
    intro  me hM
    unfold mX10_isOpen_j106 at hM
    refine ws_iconst cx dX10_isOpen_106 (v := 0) (by decide) ?_
    exact ws_zretM cx ex (by decide) hM dX10_isOpen_107
  have J108 : ∀ (k2 : (ME × Int32 → Option (Int32 × ME))), (∀ (me : ME) (x2 : Int32), k2 (me, x2) = some q → WS X b 7 S me 2 [(0, .ref (b + o)), (1, .int a0), (2, .int x2)] []) → ∀ (k29 : (ME × Int32 × Int32 → Option (Int32 × ME))), (∀ (me : ME) (x2 : Int32) (x3 : Int32), k29 (me, x2, x3) = some q → WS X b 7 S me 29 [(0, .ref (b + o)), (1, .int a0), (2, .int x2), (3, .int x3)] []) → ∀ (k37 : (ME × Int32 × Int32 × Int32 → Option (Int32 × ME))), (∀ (me : ME) (x2 : Int32) (x3 : Int32) (x4 : Int32), k37 (me, x2, x3, x4) = some q → WS X b 7 S me 37 [(0, .ref (b + o)), (1, .int a0), (2, .int x2), (3, .int x3), (4, .int x4)] []) → ∀ (k67 : (ME × Int32 × Int32 × Int32 × Int32 → Option (Int32 × ME))), (∀ (me : ME) (x2 : Int32) (x3 : Int32) (x4 : Int32) (x5 : Int32), k67 (me, x2, x3, x4, x5) = some q → WS X b 7 S me 67 [(0, .ref (b + o)), (1, .int a0), (2, .int x2), (3, .int x3), (4, .int x4), (5, .int x5)] []) → ∀ (k76 : (ME × Int32 × Int32 × Int32 × Int32 × Int32 → Option (Int32 × ME))), (∀ (me : ME) (x2 : Int32) (x3 : Int32) (x4 : Int32) (x5 : Int32) (x6 : Int32), k76 (me, x2, x3, x4, x5, x6) = some q → WS X b 7 S me 76 [(0, .ref (b + o)), (1, .int a0), (2, .int x2), (3, .int x3), (4, .int x4), (5, .int x5), (6, .int x6)] []) → ∀ (me : ME) (x2 : Int32) (x3 : Int32) (x4 : Int32) (x5 : Int32) (x6 : Int32), mX10_isOpen_j108 S o a0 k2 k29 k37 k67 k76 me x2 x3 x4 x5 x6 = some q → WS X b 7 S me 108 [(0, .ref (b + o)), (1, .int a0), (2, .int x2), (3, .int x3), (4, .int x4), (5, .int x5), (6, .int x6)] [] := by
    intro k2 hk2 k29 hk29 k37 hk37 k67 hk67 k76 hk76 me x2 x3 x4 x5 x6 hM
    unfold mX10_isOpen_j108 at hM
    refine ws_iinc cx dX10_isOpen_108 (j := 6) rfl (v := x6 + (1 : Int32)) rfl (by decide) (lv' := [(6, .int (x6 + (1 : Int32))), (0, .ref (b + o)), (1, .int a0), (2, .int x2), (3, .int x3), (4, .int x4), (5, .int x5)]) rfl ?_
    refine ws_goto cx dX10_isOpen_111 (tgt := 76) (by decide) ?_
    refine ws_sub [1, 2, 3, 4, 5, 6, 0] (lv' := [(0, .ref (b + o)), (1, .int a0), (2, .int x2), (3, .int x3), (4, .int x4), (5, .int x5), (6, .int (x6 + (1 : Int32)))]) rfl ?_
    exact hk76 _ _ _ _ _ _ hM
  have J114 : ∀ (k2 : (ME × Int32 → Option (Int32 × ME))), (∀ (me : ME) (x2 : Int32), k2 (me, x2) = some q → WS X b 7 S me 2 [(0, .ref (b + o)), (1, .int a0), (2, .int x2)] []) → ∀ (k29 : (ME × Int32 × Int32 → Option (Int32 × ME))), (∀ (me : ME) (x2 : Int32) (x3 : Int32), k29 (me, x2, x3) = some q → WS X b 7 S me 29 [(0, .ref (b + o)), (1, .int a0), (2, .int x2), (3, .int x3)] []) → ∀ (k37 : (ME × Int32 × Int32 × Int32 → Option (Int32 × ME))), (∀ (me : ME) (x2 : Int32) (x3 : Int32) (x4 : Int32), k37 (me, x2, x3, x4) = some q → WS X b 7 S me 37 [(0, .ref (b + o)), (1, .int a0), (2, .int x2), (3, .int x3), (4, .int x4)] []) → ∀ (k67 : (ME × Int32 × Int32 × Int32 × Int32 → Option (Int32 × ME))), (∀ (me : ME) (x2 : Int32) (x3 : Int32) (x4 : Int32) (x5 : Int32), k67 (me, x2, x3, x4, x5) = some q → WS X b 7 S me 67 [(0, .ref (b + o)), (1, .int a0), (2, .int x2), (3, .int x3), (4, .int x4), (5, .int x5)] []) → ∀ (me : ME) (x2 : Int32) (x3 : Int32) (x4 : Int32) (x5 : Int32), mX10_isOpen_j114 S o a0 k2 k29 k37 k67 me x2 x3 x4 x5 = some q → WS X b 7 S me 114 [(0, .ref (b + o)), (1, .int a0), (2, .int x2), (3, .int x3), (4, .int x4), (5, .int x5)] [] := by
    intro k2 hk2 k29 hk29 k37 hk37 k67 hk67 me x2 x3 x4 x5 hM
    unfold mX10_isOpen_j114 at hM
    refine ws_iinc cx dX10_isOpen_114 (j := 5) rfl (v := x5 + (1 : Int32)) rfl (by decide) (lv' := [(5, .int (x5 + (1 : Int32))), (0, .ref (b + o)), (1, .int a0), (2, .int x2), (3, .int x3), (4, .int x4)]) rfl ?_
    refine ws_goto cx dX10_isOpen_117 (tgt := 67) (by decide) ?_
    refine ws_sub [1, 2, 3, 4, 5, 0] (lv' := [(0, .ref (b + o)), (1, .int a0), (2, .int x2), (3, .int x3), (4, .int x4), (5, .int (x5 + (1 : Int32)))]) rfl ?_
    exact hk67 _ _ _ _ _ hM
  have L76 : ∀ (k2 : (ME × Int32 → Option (Int32 × ME))), (∀ (me : ME) (x2 : Int32), k2 (me, x2) = some q → WS X b 7 S me 2 [(0, .ref (b + o)), (1, .int a0), (2, .int x2)] []) → ∀ (k29 : (ME × Int32 × Int32 → Option (Int32 × ME))), (∀ (me : ME) (x2 : Int32) (x3 : Int32), k29 (me, x2, x3) = some q → WS X b 7 S me 29 [(0, .ref (b + o)), (1, .int a0), (2, .int x2), (3, .int x3)] []) → ∀ (k37 : (ME × Int32 × Int32 × Int32 → Option (Int32 × ME))), (∀ (me : ME) (x2 : Int32) (x3 : Int32) (x4 : Int32), k37 (me, x2, x3, x4) = some q → WS X b 7 S me 37 [(0, .ref (b + o)), (1, .int a0), (2, .int x2), (3, .int x3), (4, .int x4)] []) → ∀ (k67 : (ME × Int32 × Int32 × Int32 × Int32 → Option (Int32 × ME))), (∀ (me : ME) (x2 : Int32) (x3 : Int32) (x4 : Int32) (x5 : Int32), k67 (me, x2, x3, x4, x5) = some q → WS X b 7 S me 67 [(0, .ref (b + o)), (1, .int a0), (2, .int x2), (3, .int x3), (4, .int x4), (5, .int x5)] []) → ∀ (n : Nat) (me : ME) (x2 : Int32) (x3 : Int32) (x4 : Int32) (x5 : Int32) (x6 : Int32), lpn (mX10_isOpen_L76 S o a0 k2 k29 k37 k67) n (me, x2, x3, x4, x5, x6) = some q → WS X b 7 S me 76 [(0, .ref (b + o)), (1, .int a0), (2, .int x2), (3, .int x3), (4, .int x4), (5, .int x5), (6, .int x6)] [] := by
    intro k2 hk2 k29 hk29 k37 hk37 k67 hk67 n
    induction n with
    | zero => intro me x2 x3 x4 x5 x6 hM; exact absurd hM (by intro h; cases h)
    | succ n ih =>
      intro me x2 x3 x4 x5 x6 hM
      have hM : mX10_isOpen_L76 S o a0 k2 k29 k37 k67 (lpn (mX10_isOpen_L76 S o a0 k2 k29 k37 k67) n) (me, x2, x3, x4, x5, x6) = some q := hM
      unfold mX10_isOpen_L76 at hM
      refine ws_iload cx dX10_isOpen_76 (j := 6) rfl ?_
      refine ws_iload cx dX10_isOpen_78 (j := 4) rfl ?_
      refine ws_icmp_ge cx dX10_isOpen_80 (tgt := 114) (by decide) (fun c1 => ?_) (fun c1 => ?_)
      · have hM := if_t hM c1
        refine ws_sub [0, 1, 2, 3, 4, 5] (lv' := [(0, .ref (b + o)), (1, .int a0), (2, .int x2), (3, .int x3), (4, .int x4), (5, .int x5)]) rfl ?_
        exact J114 _ hk2 _ hk29 _ hk37 _ hk67 _ _ _ _ _ hM
      · have hM := if_f hM c1
        refine ws_iload_n cx dX10_isOpen_83 rfl (j := 1) rfl ?_
        refine ws_iconst cx dX10_isOpen_84 (v := 2) (by decide) ?_
        refine ws_icmp_ne cx dX10_isOpen_85 (tgt := 108) (by decide) (fun c2 => ?_) (fun c2 => ?_)
        · have hM := if_f hM c2
          refine ws_sub [0, 1, 2, 3, 4, 5, 6] (lv' := [(0, .ref (b + o)), (1, .int a0), (2, .int x2), (3, .int x3), (4, .int x4), (5, .int x5), (6, .int x6)]) rfl ?_
          exact J108 _ hk2 _ hk29 _ hk37 _ hk67 _ ih _ _ _ _ _ _ hM
        · have hM := if_t hM c2
          refine ws_aload_n cx dX10_isOpen_88 rfl (j := 0) rfl ?_
          refine ws_iload_n cx dX10_isOpen_89 rfl (j := 2) rfl ?_
          refine ws_iload_n cx dX10_isOpen_90 rfl (j := 3) rfl ?_
          refine ws_iload cx dX10_isOpen_91 (j := 5) rfl ?_
          refine ws_iload cx dX10_isOpen_93 (j := 6) rfl ?_
          refine ws_iload cx dX10_isOpen_95 (j := 4) rfl ?_
          refine ws_iconst cx dX10_isOpen_97 (v := 3) (by decide) ?_
          obtain ⟨_, h5, hM⟩ := bnd hM
          obtain ⟨q3, h4, hM⟩ := bnd hM
          refine ws_callV cx (rest := []) (st' := [.long q3.1]) (kX10_three l D b h4) mvX10_three (ck_k h5) (by decide) (q := (RX10, TX10, 31)) rfl seX10_three lkX10_172 rfl ⟨by decide, by decide⟩ (Nat.le_of_ble_eq_true rfl) ⟨rfl, rfl⟩ (Or.inl ⟨rfl, rfl⟩) rfl rfl dX10_isOpen_98 ?_
          refine ws_lconst cx dX10_isOpen_101 (v := 0) (by decide) ?_
          refine ws_lcmp cx dX10_isOpen_102 ?_
          refine ws_if_eq cx dX10_isOpen_103 (tgt := 108) (by decide) (fun c6 => ?_) (fun c6 => ?_)
          · have hM := if_t hM c6
            refine ws_sub [0, 1, 2, 3, 4, 5, 6] (lv' := [(0, .ref (b + o)), (1, .int a0), (2, .int x2), (3, .int x3), (4, .int x4), (5, .int x5), (6, .int x6)]) rfl ?_
            exact J108 _ hk2 _ hk29 _ hk37 _ hk67 _ ih _ _ _ _ _ _ hM
          · have hM := if_f hM c6
            refine ws_sub [] (lv' := []) rfl ?_
            exact J106 _ hM
  have J120 : ∀ (k2 : (ME × Int32 → Option (Int32 × ME))), (∀ (me : ME) (x2 : Int32), k2 (me, x2) = some q → WS X b 7 S me 2 [(0, .ref (b + o)), (1, .int a0), (2, .int x2)] []) → ∀ (k29 : (ME × Int32 × Int32 → Option (Int32 × ME))), (∀ (me : ME) (x2 : Int32) (x3 : Int32), k29 (me, x2, x3) = some q → WS X b 7 S me 29 [(0, .ref (b + o)), (1, .int a0), (2, .int x2), (3, .int x3)] []) → ∀ (k37 : (ME × Int32 × Int32 × Int32 → Option (Int32 × ME))), (∀ (me : ME) (x2 : Int32) (x3 : Int32) (x4 : Int32), k37 (me, x2, x3, x4) = some q → WS X b 7 S me 37 [(0, .ref (b + o)), (1, .int a0), (2, .int x2), (3, .int x3), (4, .int x4)] []) → ∀ (me : ME) (x2 : Int32) (x3 : Int32) (x4 : Int32), mX10_isOpen_j120 S o a0 k2 k29 k37 me x2 x3 x4 = some q → WS X b 7 S me 120 [(0, .ref (b + o)), (1, .int a0), (2, .int x2), (3, .int x3), (4, .int x4)] [] := by
    intro k2 hk2 k29 hk29 k37 hk37 me x2 x3 x4 hM
    unfold mX10_isOpen_j120 at hM
    refine ws_iinc cx dX10_isOpen_120 (j := 4) rfl (v := x4 + (1 : Int32)) rfl (by decide) (lv' := [(4, .int (x4 + (1 : Int32))), (0, .ref (b + o)), (1, .int a0), (2, .int x2), (3, .int x3)]) rfl ?_
    refine ws_goto cx dX10_isOpen_123 (tgt := 37) (by decide) ?_
    refine ws_sub [1, 2, 3, 4, 0] (lv' := [(0, .ref (b + o)), (1, .int a0), (2, .int x2), (3, .int x3), (4, .int (x4 + (1 : Int32)))]) rfl ?_
    exact hk37 _ _ _ _ hM
  have L67 : ∀ (k2 : (ME × Int32 → Option (Int32 × ME))), (∀ (me : ME) (x2 : Int32), k2 (me, x2) = some q → WS X b 7 S me 2 [(0, .ref (b + o)), (1, .int a0), (2, .int x2)] []) → ∀ (k29 : (ME × Int32 × Int32 → Option (Int32 × ME))), (∀ (me : ME) (x2 : Int32) (x3 : Int32), k29 (me, x2, x3) = some q → WS X b 7 S me 29 [(0, .ref (b + o)), (1, .int a0), (2, .int x2), (3, .int x3)] []) → ∀ (k37 : (ME × Int32 × Int32 × Int32 → Option (Int32 × ME))), (∀ (me : ME) (x2 : Int32) (x3 : Int32) (x4 : Int32), k37 (me, x2, x3, x4) = some q → WS X b 7 S me 37 [(0, .ref (b + o)), (1, .int a0), (2, .int x2), (3, .int x3), (4, .int x4)] []) → ∀ (n : Nat) (me : ME) (x2 : Int32) (x3 : Int32) (x4 : Int32) (x5 : Int32), lpn (mX10_isOpen_L67 S o a0 k2 k29 k37) n (me, x2, x3, x4, x5) = some q → WS X b 7 S me 67 [(0, .ref (b + o)), (1, .int a0), (2, .int x2), (3, .int x3), (4, .int x4), (5, .int x5)] [] := by
    intro k2 hk2 k29 hk29 k37 hk37 n
    induction n with
    | zero => intro me x2 x3 x4 x5 hM; exact absurd hM (by intro h; cases h)
    | succ n ih =>
      intro me x2 x3 x4 x5 hM
      have hM : mX10_isOpen_L67 S o a0 k2 k29 k37 (lpn (mX10_isOpen_L67 S o a0 k2 k29 k37) n) (me, x2, x3, x4, x5) = some q := hM
      unfold mX10_isOpen_L67 at hM
      refine ws_iload cx dX10_isOpen_67 (j := 5) rfl ?_
      refine ws_iload_n cx dX10_isOpen_69 rfl (j := 3) rfl ?_
      refine ws_icmp_ge cx dX10_isOpen_70 (tgt := 120) (by decide) (fun c7 => ?_) (fun c7 => ?_)
      · have hM := if_t hM c7
        refine ws_sub [0, 1, 2, 3, 4] (lv' := [(0, .ref (b + o)), (1, .int a0), (2, .int x2), (3, .int x3), (4, .int x4)]) rfl ?_
        exact J120 _ hk2 _ hk29 _ hk37 _ _ _ _ hM
      · have hM := if_f hM c7
        refine ws_iconst cx dX10_isOpen_73 (v := 0) (by decide) ?_
        refine ws_istore cx dX10_isOpen_74 (by decide) (lv' := [(6, .int (0 : Int32)), (0, .ref (b + o)), (1, .int a0), (2, .int x2), (3, .int x3), (4, .int x4), (5, .int x5)]) rfl ?_
        refine ws_sub [1, 2, 3, 4, 5, 6, 0] (lv' := [(0, .ref (b + o)), (1, .int a0), (2, .int x2), (3, .int x3), (4, .int x4), (5, .int x5), (6, .int (0 : Int32))]) rfl ?_
        exact L76 _ hk2 _ hk29 _ hk37 _ ih _ _ _ _ _ _ _ hM
  have J64 : ∀ (k2 : (ME × Int32 → Option (Int32 × ME))), (∀ (me : ME) (x2 : Int32), k2 (me, x2) = some q → WS X b 7 S me 2 [(0, .ref (b + o)), (1, .int a0), (2, .int x2)] []) → ∀ (k29 : (ME × Int32 × Int32 → Option (Int32 × ME))), (∀ (me : ME) (x2 : Int32) (x3 : Int32), k29 (me, x2, x3) = some q → WS X b 7 S me 29 [(0, .ref (b + o)), (1, .int a0), (2, .int x2), (3, .int x3)] []) → ∀ (k37 : (ME × Int32 × Int32 × Int32 → Option (Int32 × ME))), (∀ (me : ME) (x2 : Int32) (x3 : Int32) (x4 : Int32), k37 (me, x2, x3, x4) = some q → WS X b 7 S me 37 [(0, .ref (b + o)), (1, .int a0), (2, .int x2), (3, .int x3), (4, .int x4)] []) → ∀ (me : ME) (x2 : Int32) (x3 : Int32) (x4 : Int32), mX10_isOpen_j64 S o a0 k2 k29 k37 me x2 x3 x4 = some q → WS X b 7 S me 64 [(0, .ref (b + o)), (1, .int a0), (2, .int x2), (3, .int x3), (4, .int x4)] [] := by
    intro k2 hk2 k29 hk29 k37 hk37 me x2 x3 x4 hM
    unfold mX10_isOpen_j64 at hM
    refine ws_iconst cx dX10_isOpen_64 (v := 0) (by decide) ?_
    refine ws_istore cx dX10_isOpen_65 (by decide) (lv' := [(5, .int (0 : Int32)), (0, .ref (b + o)), (1, .int a0), (2, .int x2), (3, .int x3), (4, .int x4)]) rfl ?_
    refine ws_sub [1, 2, 3, 4, 5, 0] (lv' := [(0, .ref (b + o)), (1, .int a0), (2, .int x2), (3, .int x3), (4, .int x4), (5, .int (0 : Int32))]) rfl ?_
    exact L67 _ hk2 _ hk29 _ hk37 _ _ _ _ _ _ hM
  have J126 : ∀ (k2 : (ME × Int32 → Option (Int32 × ME))), (∀ (me : ME) (x2 : Int32), k2 (me, x2) = some q → WS X b 7 S me 2 [(0, .ref (b + o)), (1, .int a0), (2, .int x2)] []) → ∀ (k29 : (ME × Int32 × Int32 → Option (Int32 × ME))), (∀ (me : ME) (x2 : Int32) (x3 : Int32), k29 (me, x2, x3) = some q → WS X b 7 S me 29 [(0, .ref (b + o)), (1, .int a0), (2, .int x2), (3, .int x3)] []) → ∀ (me : ME) (x2 : Int32) (x3 : Int32), mX10_isOpen_j126 S o a0 k2 k29 me x2 x3 = some q → WS X b 7 S me 126 [(0, .ref (b + o)), (1, .int a0), (2, .int x2), (3, .int x3)] [] := by
    intro k2 hk2 k29 hk29 me x2 x3 hM
    unfold mX10_isOpen_j126 at hM
    refine ws_iinc cx dX10_isOpen_126 (j := 3) rfl (v := x3 + (1 : Int32)) rfl (by decide) (lv' := [(3, .int (x3 + (1 : Int32))), (0, .ref (b + o)), (1, .int a0), (2, .int x2)]) rfl ?_
    refine ws_goto cx dX10_isOpen_129 (tgt := 29) (by decide) ?_
    refine ws_sub [1, 2, 3, 0] (lv' := [(0, .ref (b + o)), (1, .int a0), (2, .int x2), (3, .int (x3 + (1 : Int32)))]) rfl ?_
    exact hk29 _ _ _ hM
  have L37 : ∀ (k2 : (ME × Int32 → Option (Int32 × ME))), (∀ (me : ME) (x2 : Int32), k2 (me, x2) = some q → WS X b 7 S me 2 [(0, .ref (b + o)), (1, .int a0), (2, .int x2)] []) → ∀ (k29 : (ME × Int32 × Int32 → Option (Int32 × ME))), (∀ (me : ME) (x2 : Int32) (x3 : Int32), k29 (me, x2, x3) = some q → WS X b 7 S me 29 [(0, .ref (b + o)), (1, .int a0), (2, .int x2), (3, .int x3)] []) → ∀ (n : Nat) (me : ME) (x2 : Int32) (x3 : Int32) (x4 : Int32), lpn (mX10_isOpen_L37 S o a0 k2 k29) n (me, x2, x3, x4) = some q → WS X b 7 S me 37 [(0, .ref (b + o)), (1, .int a0), (2, .int x2), (3, .int x3), (4, .int x4)] [] := by
    intro k2 hk2 k29 hk29 n
    induction n with
    | zero => intro me x2 x3 x4 hM; exact absurd hM (by intro h; cases h)
    | succ n ih =>
      intro me x2 x3 x4 hM
      have hM : mX10_isOpen_L37 S o a0 k2 k29 (lpn (mX10_isOpen_L37 S o a0 k2 k29) n) (me, x2, x3, x4) = some q := hM
      unfold mX10_isOpen_L37 at hM
      refine ws_iload cx dX10_isOpen_37 (j := 4) rfl ?_
      refine ws_iconst cx dX10_isOpen_39 (v := 3) (by decide) ?_
      refine ws_icmp_ge cx dX10_isOpen_40 (tgt := 126) (by decide) (fun c8 => ?_) (fun c8 => ?_)
      · have hM := if_t hM c8
        refine ws_sub [0, 1, 2, 3] (lv' := [(0, .ref (b + o)), (1, .int a0), (2, .int x2), (3, .int x3)]) rfl ?_
        exact J126 _ hk2 _ hk29 _ _ _ hM
      · have hM := if_f hM c8
        refine ws_iload_n cx dX10_isOpen_43 rfl (j := 1) rfl ?_
        refine ws_iconst cx dX10_isOpen_44 (v := 1) (by decide) ?_
        refine ws_icmp_ne cx dX10_isOpen_45 (tgt := 64) (by decide) (fun c9 => ?_) (fun c9 => ?_)
        · have hM := if_f hM c9
          refine ws_sub [0, 1, 2, 3, 4] (lv' := [(0, .ref (b + o)), (1, .int a0), (2, .int x2), (3, .int x3), (4, .int x4)]) rfl ?_
          exact J64 _ hk2 _ hk29 _ ih _ _ _ _ hM
        · have hM := if_t hM c9
          refine ws_aload_n cx dX10_isOpen_48 rfl (j := 0) rfl ?_
          refine ws_iload_n cx dX10_isOpen_49 rfl (j := 2) rfl ?_
          refine ws_iload_n cx dX10_isOpen_50 rfl (j := 3) rfl ?_
          refine ws_iload cx dX10_isOpen_51 (j := 4) rfl ?_
          refine ws_iconst cx dX10_isOpen_53 (v := 3) (by decide) ?_
          obtain ⟨_, h12, hM⟩ := bnd hM
          obtain ⟨q10, h11, hM⟩ := bnd hM
          refine ws_callV cx (rest := []) (st' := [.long q10.1]) (kX10_two l D b h11) mvX10_two (ck_k h12) (by decide) (q := (RX10, TX10, 31)) rfl seX10_two lkX10_168 rfl ⟨by decide, by decide⟩ (Nat.le_of_ble_eq_true rfl) ⟨rfl, rfl⟩ (Or.inl ⟨rfl, rfl⟩) rfl rfl dX10_isOpen_54 ?_
          refine ws_lconst cx dX10_isOpen_57 (v := 0) (by decide) ?_
          refine ws_lcmp cx dX10_isOpen_58 ?_
          refine ws_if_eq cx dX10_isOpen_59 (tgt := 64) (by decide) (fun c13 => ?_) (fun c13 => ?_)
          · have hM := if_t hM c13
            refine ws_sub [0, 1, 2, 3, 4] (lv' := [(0, .ref (b + o)), (1, .int a0), (2, .int x2), (3, .int x3), (4, .int x4)]) rfl ?_
            exact J64 _ hk2 _ hk29 _ ih _ _ _ _ hM
          · have hM := if_f hM c13
            refine ws_sub [] (lv' := []) rfl ?_
            exact J62 _ hM
  have J132 : ∀ (k2 : (ME × Int32 → Option (Int32 × ME))), (∀ (me : ME) (x2 : Int32), k2 (me, x2) = some q → WS X b 7 S me 2 [(0, .ref (b + o)), (1, .int a0), (2, .int x2)] []) → ∀ (me : ME) (x2 : Int32), mX10_isOpen_j132 S o a0 k2 me x2 = some q → WS X b 7 S me 132 [(0, .ref (b + o)), (1, .int a0), (2, .int x2)] [] := by
    intro k2 hk2 me x2 hM
    unfold mX10_isOpen_j132 at hM
    refine ws_iinc cx dX10_isOpen_132 (j := 2) rfl (v := x2 + (1 : Int32)) rfl (by decide) (lv' := [(2, .int (x2 + (1 : Int32))), (0, .ref (b + o)), (1, .int a0)]) rfl ?_
    refine ws_goto cx dX10_isOpen_135 (tgt := 2) (by decide) ?_
    refine ws_sub [1, 2, 0] (lv' := [(0, .ref (b + o)), (1, .int a0), (2, .int (x2 + (1 : Int32)))]) rfl ?_
    exact hk2 _ _ hM
  have L29 : ∀ (k2 : (ME × Int32 → Option (Int32 × ME))), (∀ (me : ME) (x2 : Int32), k2 (me, x2) = some q → WS X b 7 S me 2 [(0, .ref (b + o)), (1, .int a0), (2, .int x2)] []) → ∀ (n : Nat) (me : ME) (x2 : Int32) (x3 : Int32), lpn (mX10_isOpen_L29 S o a0 k2) n (me, x2, x3) = some q → WS X b 7 S me 29 [(0, .ref (b + o)), (1, .int a0), (2, .int x2), (3, .int x3)] [] := by
    intro k2 hk2 n
    induction n with
    | zero => intro me x2 x3 hM; exact absurd hM (by intro h; cases h)
    | succ n ih =>
      intro me x2 x3 hM
      have hM : mX10_isOpen_L29 S o a0 k2 (lpn (mX10_isOpen_L29 S o a0 k2) n) (me, x2, x3) = some q := hM
      unfold mX10_isOpen_L29 at hM
      refine ws_iload_n cx dX10_isOpen_29 rfl (j := 3) rfl ?_
      refine ws_iload_n cx dX10_isOpen_30 rfl (j := 2) rfl ?_
      refine ws_icmp_ge cx dX10_isOpen_31 (tgt := 132) (by decide) (fun c14 => ?_) (fun c14 => ?_)
      · have hM := if_t hM c14
        refine ws_sub [0, 1, 2] (lv' := [(0, .ref (b + o)), (1, .int a0), (2, .int x2)]) rfl ?_
        exact J132 _ hk2 _ _ hM
      · have hM := if_f hM c14
        refine ws_iconst cx dX10_isOpen_34 (v := 0) (by decide) ?_
        refine ws_istore cx dX10_isOpen_35 (by decide) (lv' := [(4, .int (0 : Int32)), (0, .ref (b + o)), (1, .int a0), (2, .int x2), (3, .int x3)]) rfl ?_
        refine ws_sub [1, 2, 3, 4, 0] (lv' := [(0, .ref (b + o)), (1, .int a0), (2, .int x2), (3, .int x3), (4, .int (0 : Int32))]) rfl ?_
        exact L37 _ hk2 _ ih _ _ _ _ _ hM
  have J27 : ∀ (k2 : (ME × Int32 → Option (Int32 × ME))), (∀ (me : ME) (x2 : Int32), k2 (me, x2) = some q → WS X b 7 S me 2 [(0, .ref (b + o)), (1, .int a0), (2, .int x2)] []) → ∀ (me : ME) (x2 : Int32), mX10_isOpen_j27 S o a0 k2 me x2 = some q → WS X b 7 S me 27 [(0, .ref (b + o)), (1, .int a0), (2, .int x2)] [] := by
    intro k2 hk2 me x2 hM
    unfold mX10_isOpen_j27 at hM
    refine ws_iconst cx dX10_isOpen_27 (v := 0) (by decide) ?_
    refine ws_istore_n cx dX10_isOpen_28 rfl (by decide) (lv' := [(3, .int (0 : Int32)), (0, .ref (b + o)), (1, .int a0), (2, .int x2)]) rfl ?_
    refine ws_sub [1, 2, 3, 0] (lv' := [(0, .ref (b + o)), (1, .int a0), (2, .int x2), (3, .int (0 : Int32))]) rfl ?_
    exact L29 _ hk2 _ _ _ _ hM
  have J138 : ∀ (me : ME), mX10_isOpen_j138 S o a0 me = some q → WS X b 7 S me 138 [] [] := by
    intro  me hM
    unfold mX10_isOpen_j138 at hM
    refine ws_iconst cx dX10_isOpen_138 (v := 1) (by decide) ?_
    exact ws_zretM cx ex (by decide) hM dX10_isOpen_139
  have L2 : ∀ (n : Nat) (me : ME) (x2 : Int32), lpn (mX10_isOpen_L2 S o a0) n (me, x2) = some q → WS X b 7 S me 2 [(0, .ref (b + o)), (1, .int a0), (2, .int x2)] [] := by
    intro  n
    induction n with
    | zero => intro me x2 hM; exact absurd hM (by intro h; cases h)
    | succ n ih =>
      intro me x2 hM
      have hM : mX10_isOpen_L2 S o a0 (lpn (mX10_isOpen_L2 S o a0) n) (me, x2) = some q := hM
      unfold mX10_isOpen_L2 at hM
      refine ws_iload_n cx dX10_isOpen_2 rfl (j := 2) rfl ?_
      refine ws_aload_n cx dX10_isOpen_3 rfl (j := 0) rfl ?_
      obtain ⟨v15, h16, hM⟩ := bnd hM
      refine ws_getI cx ffX10_154 h16 dX10_isOpen_4 ?_
      refine ws_icmp_ge cx dX10_isOpen_7 (tgt := 138) (by decide) (fun c17 => ?_) (fun c17 => ?_)
      · have hM := if_t hM c17
        refine ws_sub [] (lv' := []) rfl ?_
        exact J138 _ hM
      · have hM := if_f hM c17
        refine ws_iload_n cx dX10_isOpen_10 rfl (j := 1) rfl ?_
        refine ws_if_ne cx dX10_isOpen_11 (tgt := 27) (by decide) (fun c18 => ?_) (fun c18 => ?_)
        · have hM := if_f hM c18
          refine ws_sub [0, 1, 2] (lv' := [(0, .ref (b + o)), (1, .int a0), (2, .int x2)]) rfl ?_
          exact J27 _ ih _ _ hM
        · have hM := if_t hM c18
          refine ws_aload_n cx dX10_isOpen_14 rfl (j := 0) rfl ?_
          refine ws_iload_n cx dX10_isOpen_15 rfl (j := 2) rfl ?_
          refine ws_iconst cx dX10_isOpen_16 (v := 3) (by decide) ?_
          obtain ⟨_, h21, hM⟩ := bnd hM
          obtain ⟨q19, h20, hM⟩ := bnd hM
          refine ws_callV cx (rest := []) (st' := [.long q19.1]) (kX10_cellAt l D b h20) mvX10_cellAt (ck_k h21) (by decide) (q := (RX10, TX10, 31)) rfl seX10_cellAt lkX10_160 rfl ⟨by decide, by decide⟩ (Nat.le_of_ble_eq_true rfl) ⟨rfl, rfl⟩ (Or.inl ⟨rfl, rfl⟩) rfl rfl dX10_isOpen_17 ?_
          refine ws_lconst cx dX10_isOpen_20 (v := 0) (by decide) ?_
          refine ws_lcmp cx dX10_isOpen_21 ?_
          refine ws_if_eq cx dX10_isOpen_22 (tgt := 27) (by decide) (fun c22 => ?_) (fun c22 => ?_)
          · have hM := if_t hM c22
            refine ws_sub [0, 1, 2] (lv' := [(0, .ref (b + o)), (1, .int a0), (2, .int x2)]) rfl ?_
            exact J27 _ ih _ _ hM
          · have hM := if_f hM c22
            refine ws_sub [] (lv' := []) rfl ?_
            exact J25 _ hM
  unfold mX10_isOpen at hM
  refine ws_iconst cx dX10_isOpen_0 (v := 0) (by decide) ?_
  refine ws_istore_n cx dX10_isOpen_1 rfl (by decide) (lv' := [(2, .int (0 : Int32)), (0, .ref (b + o)), (1, .int a0)]) rfl ?_
  refine ws_sub [1, 2, 0] (lv' := [(0, .ref (b + o)), (1, .int a0), (2, .int (0 : Int32))]) rfl ?_
  exact L2 _ _ _ hM

def mX10_solves_j57 (S : SH) (o : Nat) (me : ME) (x1 : Int32) (x2 : Int32) (x3 : Int32) (x4 : Int64) (y0 : Int64) : Option (Unit × ME) :=
  (sJ S me 10 27 o (y0 * x4)).bind fun m2 =>
  (ck S 10 o).bind fun _ => (mX10_three S m2 o x1 x2 x3 (3 : Int32) (1 : Int32) (2 : Int32)).bind fun q3 =>
  (sJ S q3.2 10 24 o (y0 * q3.1)).bind fun m7 =>
  (ck S 10 o).bind fun _ => (mX10_three S m7 o x1 x2 x3 (0 : Int32) (3 : Int32) (2 : Int32)).bind fun q8 =>
  (sJ S q8.2 10 25 o (y0 * q8.1)).bind fun m12 =>
  (ck S 10 o).bind fun _ => (mX10_three S m12 o x1 x2 x3 (0 : Int32) (1 : Int32) (3 : Int32)).bind fun q13 =>
  (sJ S q13.2 10 26 o (y0 * q13.1)).bind fun m17 =>
  some ((), m17)
def mX10_solves_j43 (S : SH) (o : Nat) (me : ME) (x1 : Int32) (x2 : Int32) (x3 : Int32) (x4 : Int64) : Option (Unit × ME) :=
  if 0 ≤ (lg_cmp x4 (0 : Int64)) then
    mX10_solves_j57 S o me x1 x2 x3 x4 (1 : Int64)
  else
    mX10_solves_j57 S o me x1 x2 x3 x4 (-1 : Int64)
def mX10_solves_j126 (S : SH) (o : Nat) (k2 : (ME × Int32 → Option (Unit × ME))) (k12 : (ME × Int32 × Int32 → Option (Unit × ME))) (me : ME) (x1 : Int32) (x2 : Int32) : Option (Unit × ME) :=
  k12 (me, x1, x2 + (1 : Int32))
def mX10_solves_L19 (S : SH) (o : Nat) (k2 : (ME × Int32 → Option (Unit × ME))) (k12 : (ME × Int32 × Int32 → Option (Unit × ME))) (k19 : (ME × Int32 × Int32 × Int32 → Option (Unit × ME))) : ME × Int32 × Int32 × Int32 → Option (Unit × ME)
  | (me, x1, x2, x3) =>
    if x2 ≤ x3 then
      mX10_solves_j126 S o k2 k12 me x1 x2
    else
      (ck S 10 o).bind fun _ => (mX10_three S me o x1 x2 x3 (0 : Int32) (1 : Int32) (2 : Int32)).bind fun q20 =>
      if (lg_cmp q20.1 (0 : Int64)) = 0 then
        k19 (q20.2, x1, x2, x3 + (1 : Int32))
      else
        mX10_solves_j43 S o q20.2 x1 x2 x3 q20.1
def mX10_solves_j132 (S : SH) (o : Nat) (k2 : (ME × Int32 → Option (Unit × ME))) (me : ME) (x1 : Int32) : Option (Unit × ME) :=
  k2 (me, x1 + (1 : Int32))
def mX10_solves_L12 (S : SH) (o : Nat) (k2 : (ME × Int32 → Option (Unit × ME))) (k12 : (ME × Int32 × Int32 → Option (Unit × ME))) : ME × Int32 × Int32 → Option (Unit × ME)
  | (me, x1, x2) =>
    if x1 ≤ x2 then
      mX10_solves_j132 S o k2 me x1
    else
      lpn (mX10_solves_L19 S o k2 k12) lpF (me, x1, x2, (0 : Int32))
def mX10_solves_j138 (S : SH) (o : Nat) (me : ME) : Option (Unit × ME) :=
  some ((), me)
def mX10_solves_L2 (S : SH) (o : Nat) (k2 : (ME × Int32 → Option (Unit × ME))) : ME × Int32 → Option (Unit × ME)
  | (me, x1) =>
    (gI S me 10 22 o).bind fun v25 =>
    if v25 ≤ x1 then
      mX10_solves_j138 S o me
    else
      lpn (mX10_solves_L12 S o k2) lpF (me, x1, (0 : Int32))
def mX10_solves (S : SH) (me : ME) (o : Nat) : Option (Unit × ME) :=
  lpn (mX10_solves_L2 S o) lpF (me, (0 : Int32))
set_option maxRecDepth 100000 in
set_option maxHeartbeats 4000000 in
theorem kX10_solves (l : Launch) (D : va_G) (b : Nat) {S : SH} {me : ME} {o : Nat} {q : Unit × ME} (hM : mX10_solves S me o = some q) : Ct l D b yX10_solves cX10_solves 8 none 2 48 0 0 [.ref (b + o)] S me S q.2 none := by
  refine ct_of (own := RX10) (nm := "solves") (lv := [(0, .ref (b + o))]) (plainFor_of_name (by decide)) rfl rfl (Nat.le_of_ble_eq_true rfl) rfl ⟨rfl, rfl⟩ (fun X cx ex hL => ?_)
  have J57 : ∀ (me : ME) (x1 : Int32) (x2 : Int32) (x3 : Int32) (x4 : Int64) (y0 : Int64), mX10_solves_j57 S o me x1 x2 x3 x4 y0 = some q → WS X b 8 S me 57 [(0, .ref (b + o)), (1, .int x1), (2, .int x2), (3, .int x3), (4, .long x4)] [.long y0] := by
    intro  me x1 x2 x3 x4 y0 hM
    unfold mX10_solves_j57 at hM
    refine ws_lstore cx dX10_solves_57 (by decide) (lv' := [(6, .long y0), (0, .ref (b + o)), (1, .int x1), (2, .int x2), (3, .int x3), (4, .long x4)]) rfl ?_
    refine ws_aload_n cx dX10_solves_59 rfl (j := 1) rfl ?_
    refine ws_lload cx dX10_solves_60 (j := 0) rfl ?_
    refine ws_lload cx dX10_solves_62 (j := 5) rfl ?_
    refine ws_lmul cx dX10_solves_64 ?_
    obtain ⟨m2, h1, hM⟩ := bnd hM
    refine ws_putJ cx ffX10_178 h1 dX10_solves_65 ?_
    refine ws_aload_n cx dX10_solves_68 rfl (j := 1) rfl ?_
    refine ws_lload cx dX10_solves_69 (j := 0) rfl ?_
    refine ws_aload_n cx dX10_solves_71 rfl (j := 1) rfl ?_
    refine ws_iload_n cx dX10_solves_72 rfl (j := 2) rfl ?_
    refine ws_iload_n cx dX10_solves_73 rfl (j := 3) rfl ?_
    refine ws_iload_n cx dX10_solves_74 rfl (j := 4) rfl ?_
    refine ws_iconst cx dX10_solves_75 (v := 3) (by decide) ?_
    refine ws_iconst cx dX10_solves_76 (v := 1) (by decide) ?_
    refine ws_iconst cx dX10_solves_77 (v := 2) (by decide) ?_
    obtain ⟨_, h5, hM⟩ := bnd hM
    obtain ⟨q3, h4, hM⟩ := bnd hM
    refine ws_callV cx (rest := [.long y0, .ref (b + o)]) (st' := [.long q3.1, .long y0, .ref (b + o)]) (kX10_three l D b h4) mvX10_three (ck_k h5) (by decide) (q := (RX10, TX10, 31)) rfl seX10_three lkX10_172 rfl ⟨by decide, by decide⟩ (Nat.le_of_ble_eq_true rfl) ⟨rfl, rfl⟩ (Or.inl ⟨rfl, rfl⟩) rfl rfl dX10_solves_78 ?_
    refine ws_lmul cx dX10_solves_81 ?_
    obtain ⟨m7, h6, hM⟩ := bnd hM
    refine ws_putJ cx ffX10_182 h6 dX10_solves_82 ?_
    refine ws_aload_n cx dX10_solves_85 rfl (j := 1) rfl ?_
    refine ws_lload cx dX10_solves_86 (j := 0) rfl ?_
    refine ws_aload_n cx dX10_solves_88 rfl (j := 1) rfl ?_
    refine ws_iload_n cx dX10_solves_89 rfl (j := 2) rfl ?_
    refine ws_iload_n cx dX10_solves_90 rfl (j := 3) rfl ?_
    refine ws_iload_n cx dX10_solves_91 rfl (j := 4) rfl ?_
    refine ws_iconst cx dX10_solves_92 (v := 0) (by decide) ?_
    refine ws_iconst cx dX10_solves_93 (v := 3) (by decide) ?_
    refine ws_iconst cx dX10_solves_94 (v := 2) (by decide) ?_
    obtain ⟨_, h10, hM⟩ := bnd hM
    obtain ⟨q8, h9, hM⟩ := bnd hM
    refine ws_callV cx (rest := [.long y0, .ref (b + o)]) (st' := [.long q8.1, .long y0, .ref (b + o)]) (kX10_three l D b h9) mvX10_three (ck_k h10) (by decide) (q := (RX10, TX10, 31)) rfl seX10_three lkX10_172 rfl ⟨by decide, by decide⟩ (Nat.le_of_ble_eq_true rfl) ⟨rfl, rfl⟩ (Or.inl ⟨rfl, rfl⟩) rfl rfl dX10_solves_95 ?_
    refine ws_lmul cx dX10_solves_98 ?_
    obtain ⟨m12, h11, hM⟩ := bnd hM
    refine ws_putJ cx ffX10_185 h11 dX10_solves_99 ?_
    refine ws_aload_n cx dX10_solves_102 rfl (j := 1) rfl ?_
    refine ws_lload cx dX10_solves_103 (j := 0) rfl ?_
    refine ws_aload_n cx dX10_solves_105 rfl (j := 1) rfl ?_
    refine ws_iload_n cx dX10_solves_106 rfl (j := 2) rfl ?_
    refine ws_iload_n cx dX10_solves_107 rfl (j := 3) rfl ?_
    refine ws_iload_n cx dX10_solves_108 rfl (j := 4) rfl ?_
    refine ws_iconst cx dX10_solves_109 (v := 0) (by decide) ?_
    refine ws_iconst cx dX10_solves_110 (v := 1) (by decide) ?_
    refine ws_iconst cx dX10_solves_111 (v := 3) (by decide) ?_
    obtain ⟨_, h15, hM⟩ := bnd hM
    obtain ⟨q13, h14, hM⟩ := bnd hM
    refine ws_callV cx (rest := [.long y0, .ref (b + o)]) (st' := [.long q13.1, .long y0, .ref (b + o)]) (kX10_three l D b h14) mvX10_three (ck_k h15) (by decide) (q := (RX10, TX10, 31)) rfl seX10_three lkX10_172 rfl ⟨by decide, by decide⟩ (Nat.le_of_ble_eq_true rfl) ⟨rfl, rfl⟩ (Or.inl ⟨rfl, rfl⟩) rfl rfl dX10_solves_112 ?_
    refine ws_lmul cx dX10_solves_115 ?_
    obtain ⟨m17, h16, hM⟩ := bnd hM
    refine ws_putJ cx ffX10_188 h16 dX10_solves_116 ?_
    exact ws_vretM cx ex hM dX10_solves_119
  have J43 : ∀ (me : ME) (x1 : Int32) (x2 : Int32) (x3 : Int32) (x4 : Int64), mX10_solves_j43 S o me x1 x2 x3 x4 = some q → WS X b 8 S me 43 [(0, .ref (b + o)), (1, .int x1), (2, .int x2), (3, .int x3), (4, .long x4)] [] := by
    intro  me x1 x2 x3 x4 hM
    unfold mX10_solves_j43 at hM
    refine ws_lload cx dX10_solves_43 (j := 4) rfl ?_
    refine ws_lconst cx dX10_solves_45 (v := 0) (by decide) ?_
    refine ws_lcmp cx dX10_solves_46 ?_
    refine ws_if_ge cx dX10_solves_47 (tgt := 56) (by decide) (fun c18 => ?_) (fun c18 => ?_)
    · have hM := if_t hM c18
      refine ws_lconst cx dX10_solves_56 (v := 1) (by decide) ?_
      refine ws_sub [0, 1, 2, 3, 4] (lv' := [(0, .ref (b + o)), (1, .int x1), (2, .int x2), (3, .int x3), (4, .long x4)]) rfl ?_
      exact J57 _ _ _ _ _ _ hM
    · have hM := if_f hM c18
      refine ws_ldc2 cx cwX10_176 dX10_solves_50 ?_
      refine ws_goto cx dX10_solves_53 (tgt := 57) (by decide) ?_
      refine ws_sub [0, 1, 2, 3, 4] (lv' := [(0, .ref (b + o)), (1, .int x1), (2, .int x2), (3, .int x3), (4, .long x4)]) rfl ?_
      exact J57 _ _ _ _ _ _ hM
  have J126 : ∀ (k2 : (ME × Int32 → Option (Unit × ME))), (∀ (me : ME) (x1 : Int32), k2 (me, x1) = some q → WS X b 8 S me 2 [(0, .ref (b + o)), (1, .int x1)] []) → ∀ (k12 : (ME × Int32 × Int32 → Option (Unit × ME))), (∀ (me : ME) (x1 : Int32) (x2 : Int32), k12 (me, x1, x2) = some q → WS X b 8 S me 12 [(0, .ref (b + o)), (1, .int x1), (2, .int x2)] []) → ∀ (me : ME) (x1 : Int32) (x2 : Int32), mX10_solves_j126 S o k2 k12 me x1 x2 = some q → WS X b 8 S me 126 [(0, .ref (b + o)), (1, .int x1), (2, .int x2)] [] := by
    intro k2 hk2 k12 hk12 me x1 x2 hM
    unfold mX10_solves_j126 at hM
    refine ws_iinc cx dX10_solves_126 (j := 2) rfl (v := x2 + (1 : Int32)) rfl (by decide) (lv' := [(2, .int (x2 + (1 : Int32))), (0, .ref (b + o)), (1, .int x1)]) rfl ?_
    refine ws_goto cx dX10_solves_129 (tgt := 12) (by decide) ?_
    refine ws_sub [1, 2, 0] (lv' := [(0, .ref (b + o)), (1, .int x1), (2, .int (x2 + (1 : Int32)))]) rfl ?_
    exact hk12 _ _ _ hM
  have L19 : ∀ (k2 : (ME × Int32 → Option (Unit × ME))), (∀ (me : ME) (x1 : Int32), k2 (me, x1) = some q → WS X b 8 S me 2 [(0, .ref (b + o)), (1, .int x1)] []) → ∀ (k12 : (ME × Int32 × Int32 → Option (Unit × ME))), (∀ (me : ME) (x1 : Int32) (x2 : Int32), k12 (me, x1, x2) = some q → WS X b 8 S me 12 [(0, .ref (b + o)), (1, .int x1), (2, .int x2)] []) → ∀ (n : Nat) (me : ME) (x1 : Int32) (x2 : Int32) (x3 : Int32), lpn (mX10_solves_L19 S o k2 k12) n (me, x1, x2, x3) = some q → WS X b 8 S me 19 [(0, .ref (b + o)), (1, .int x1), (2, .int x2), (3, .int x3)] [] := by
    intro k2 hk2 k12 hk12 n
    induction n with
    | zero => intro me x1 x2 x3 hM; exact absurd hM (by intro h; cases h)
    | succ n ih =>
      intro me x1 x2 x3 hM
      have hM : mX10_solves_L19 S o k2 k12 (lpn (mX10_solves_L19 S o k2 k12) n) (me, x1, x2, x3) = some q := hM
      unfold mX10_solves_L19 at hM
      refine ws_iload_n cx dX10_solves_19 rfl (j := 3) rfl ?_
      refine ws_iload_n cx dX10_solves_20 rfl (j := 2) rfl ?_
      refine ws_icmp_ge cx dX10_solves_21 (tgt := 126) (by decide) (fun c19 => ?_) (fun c19 => ?_)
      · have hM := if_t hM c19
        refine ws_sub [0, 1, 2] (lv' := [(0, .ref (b + o)), (1, .int x1), (2, .int x2)]) rfl ?_
        exact J126 _ hk2 _ hk12 _ _ _ hM
      · have hM := if_f hM c19
        refine ws_aload_n cx dX10_solves_24 rfl (j := 0) rfl ?_
        refine ws_iload_n cx dX10_solves_25 rfl (j := 1) rfl ?_
        refine ws_iload_n cx dX10_solves_26 rfl (j := 2) rfl ?_
        refine ws_iload_n cx dX10_solves_27 rfl (j := 3) rfl ?_
        refine ws_iconst cx dX10_solves_28 (v := 0) (by decide) ?_
        refine ws_iconst cx dX10_solves_29 (v := 1) (by decide) ?_
        refine ws_iconst cx dX10_solves_30 (v := 2) (by decide) ?_
        obtain ⟨_, h22, hM⟩ := bnd hM
        obtain ⟨q20, h21, hM⟩ := bnd hM
        refine ws_callV cx (rest := []) (st' := [.long q20.1]) (kX10_three l D b h21) mvX10_three (ck_k h22) (by decide) (q := (RX10, TX10, 31)) rfl seX10_three lkX10_172 rfl ⟨by decide, by decide⟩ (Nat.le_of_ble_eq_true rfl) ⟨rfl, rfl⟩ (Or.inl ⟨rfl, rfl⟩) rfl rfl dX10_solves_31 ?_
        refine ws_lstore cx dX10_solves_34 (by decide) (lv' := [(4, .long q20.1), (0, .ref (b + o)), (1, .int x1), (2, .int x2), (3, .int x3)]) rfl ?_
        refine ws_lload cx dX10_solves_36 (j := 0) rfl ?_
        refine ws_lconst cx dX10_solves_38 (v := 0) (by decide) ?_
        refine ws_lcmp cx dX10_solves_39 ?_
        refine ws_if_eq cx dX10_solves_40 (tgt := 120) (by decide) (fun c23 => ?_) (fun c23 => ?_)
        · have hM := if_t hM c23
          refine ws_iinc cx dX10_solves_120 (j := 4) rfl (v := x3 + (1 : Int32)) rfl (by decide) (lv' := [(3, .int (x3 + (1 : Int32))), (4, .long q20.1), (0, .ref (b + o)), (1, .int x1), (2, .int x2)]) rfl ?_
          refine ws_goto cx dX10_solves_123 (tgt := 19) (by decide) ?_
          refine ws_sub [2, 3, 4, 0] (lv' := [(0, .ref (b + o)), (1, .int x1), (2, .int x2), (3, .int (x3 + (1 : Int32)))]) rfl ?_
          exact ih _ _ _ _ hM
        · have hM := if_f hM c23
          refine ws_sub [1, 2, 3, 4, 0] (lv' := [(0, .ref (b + o)), (1, .int x1), (2, .int x2), (3, .int x3), (4, .long q20.1)]) rfl ?_
          exact J43 _ _ _ _ _ hM
  have J132 : ∀ (k2 : (ME × Int32 → Option (Unit × ME))), (∀ (me : ME) (x1 : Int32), k2 (me, x1) = some q → WS X b 8 S me 2 [(0, .ref (b + o)), (1, .int x1)] []) → ∀ (me : ME) (x1 : Int32), mX10_solves_j132 S o k2 me x1 = some q → WS X b 8 S me 132 [(0, .ref (b + o)), (1, .int x1)] [] := by
    intro k2 hk2 me x1 hM
    unfold mX10_solves_j132 at hM
    refine ws_iinc cx dX10_solves_132 (j := 1) rfl (v := x1 + (1 : Int32)) rfl (by decide) (lv' := [(1, .int (x1 + (1 : Int32))), (0, .ref (b + o))]) rfl ?_
    refine ws_goto cx dX10_solves_135 (tgt := 2) (by decide) ?_
    refine ws_sub [1, 0] (lv' := [(0, .ref (b + o)), (1, .int (x1 + (1 : Int32)))]) rfl ?_
    exact hk2 _ _ hM
  have L12 : ∀ (k2 : (ME × Int32 → Option (Unit × ME))), (∀ (me : ME) (x1 : Int32), k2 (me, x1) = some q → WS X b 8 S me 2 [(0, .ref (b + o)), (1, .int x1)] []) → ∀ (n : Nat) (me : ME) (x1 : Int32) (x2 : Int32), lpn (mX10_solves_L12 S o k2) n (me, x1, x2) = some q → WS X b 8 S me 12 [(0, .ref (b + o)), (1, .int x1), (2, .int x2)] [] := by
    intro k2 hk2 n
    induction n with
    | zero => intro me x1 x2 hM; exact absurd hM (by intro h; cases h)
    | succ n ih =>
      intro me x1 x2 hM
      have hM : mX10_solves_L12 S o k2 (lpn (mX10_solves_L12 S o k2) n) (me, x1, x2) = some q := hM
      unfold mX10_solves_L12 at hM
      refine ws_iload_n cx dX10_solves_12 rfl (j := 2) rfl ?_
      refine ws_iload_n cx dX10_solves_13 rfl (j := 1) rfl ?_
      refine ws_icmp_ge cx dX10_solves_14 (tgt := 132) (by decide) (fun c24 => ?_) (fun c24 => ?_)
      · have hM := if_t hM c24
        refine ws_sub [0, 1] (lv' := [(0, .ref (b + o)), (1, .int x1)]) rfl ?_
        exact J132 _ hk2 _ _ hM
      · have hM := if_f hM c24
        refine ws_iconst cx dX10_solves_17 (v := 0) (by decide) ?_
        refine ws_istore_n cx dX10_solves_18 rfl (by decide) (lv' := [(3, .int (0 : Int32)), (0, .ref (b + o)), (1, .int x1), (2, .int x2)]) rfl ?_
        refine ws_sub [1, 2, 3, 0] (lv' := [(0, .ref (b + o)), (1, .int x1), (2, .int x2), (3, .int (0 : Int32))]) rfl ?_
        exact L19 _ hk2 _ ih _ _ _ _ _ hM
  have J138 : ∀ (me : ME), mX10_solves_j138 S o me = some q → WS X b 8 S me 138 [] [] := by
    intro  me hM
    unfold mX10_solves_j138 at hM
    exact ws_vretM cx ex hM dX10_solves_138
  have L2 : ∀ (n : Nat) (me : ME) (x1 : Int32), lpn (mX10_solves_L2 S o) n (me, x1) = some q → WS X b 8 S me 2 [(0, .ref (b + o)), (1, .int x1)] [] := by
    intro  n
    induction n with
    | zero => intro me x1 hM; exact absurd hM (by intro h; cases h)
    | succ n ih =>
      intro me x1 hM
      have hM : mX10_solves_L2 S o (lpn (mX10_solves_L2 S o) n) (me, x1) = some q := hM
      unfold mX10_solves_L2 at hM
      refine ws_iload_n cx dX10_solves_2 rfl (j := 1) rfl ?_
      refine ws_aload_n cx dX10_solves_3 rfl (j := 0) rfl ?_
      obtain ⟨v25, h26, hM⟩ := bnd hM
      refine ws_getI cx ffX10_154 h26 dX10_solves_4 ?_
      refine ws_icmp_ge cx dX10_solves_7 (tgt := 138) (by decide) (fun c27 => ?_) (fun c27 => ?_)
      · have hM := if_t hM c27
        refine ws_sub [] (lv' := []) rfl ?_
        exact J138 _ hM
      · have hM := if_f hM c27
        refine ws_iconst cx dX10_solves_10 (v := 0) (by decide) ?_
        refine ws_istore_n cx dX10_solves_11 rfl (by decide) (lv' := [(2, .int (0 : Int32)), (0, .ref (b + o)), (1, .int x1)]) rfl ?_
        refine ws_sub [1, 2, 0] (lv' := [(0, .ref (b + o)), (1, .int x1), (2, .int (0 : Int32))]) rfl ?_
        exact L12 _ ih _ _ _ _ hM
  unfold mX10_solves at hM
  refine ws_iconst cx dX10_solves_0 (v := 0) (by decide) ?_
  refine ws_istore_n cx dX10_solves_1 rfl (by decide) (lv' := [(1, .int (0 : Int32)), (0, .ref (b + o))]) rfl ?_
  refine ws_sub [1, 0] (lv' := [(0, .ref (b + o)), (1, .int (0 : Int32))]) rfl ?_
  exact L2 _ _ _ hM

def mX10_isFilled_j71 (S : SH) (o : Nat) (k4 : (ME × Int32 × Int32 → Option (Int32 × ME))) (me : ME) (x2 : Int32) (y0 : Int32) : Option (Int32 × ME) :=
  k4 (me, y0, x2 + (1 : Int32))
def mX10_isFilled_j70 (S : SH) (o : Nat) (k4 : (ME × Int32 × Int32 → Option (Int32 × ME))) (me : ME) (x2 : Int32) : Option (Int32 × ME) :=
  mX10_isFilled_j71 S o k4 me x2 (0 : Int32)
def mX10_isFilled_j78 (S : SH) (o : Nat) (me : ME) (x1 : Int32) : Option (Int32 × ME) :=
  if x1 = 0 ∨ x1 = 1 then some (x1, me) else none
def mX10_isFilled_L4 (S : SH) (o : Nat) (k4 : (ME × Int32 × Int32 → Option (Int32 × ME))) : ME × Int32 × Int32 → Option (Int32 × ME)
  | (me, x1, x2) =>
    (gI S me 10 22 o).bind fun v2 =>
    if v2 ≤ x2 then
      mX10_isFilled_j78 S o me x1
    else
      if x1 = 0 then
        mX10_isFilled_j70 S o k4 me x2
      else
        (ck S 10 o).bind fun _ => (mX10_cellAt S me o x2 (0 : Int32)).bind fun q6 =>
        (gJ S q6.2 10 24 o).bind fun v9 =>
        (ck S 10 o).bind fun _ => (mX10_cellAt S q6.2 o x2 (1 : Int32)).bind fun q11 =>
        (gJ S q11.2 10 25 o).bind fun v14 =>
        (ck S 10 o).bind fun _ => (mX10_cellAt S q11.2 o x2 (2 : Int32)).bind fun q16 =>
        (gJ S q16.2 10 26 o).bind fun v19 =>
        (ck S 10 o).bind fun _ => (mX10_cellAt S q16.2 o x2 (3 : Int32)).bind fun q21 =>
        (gJ S q21.2 10 27 o).bind fun v24 =>
        if (lg_cmp (((q6.1 * v9) + (q11.1 * v14)) + (q16.1 * v19)) (q21.1 * v24)) = 0 then
          mX10_isFilled_j71 S o k4 q21.2 x2 (1 : Int32)
        else
          mX10_isFilled_j70 S o k4 q21.2 x2
def mX10_isFilled (S : SH) (me : ME) (o : Nat) : Option (Int32 × ME) :=
  lpn (mX10_isFilled_L4 S o) lpF (me, (1 : Int32), (0 : Int32))
set_option maxRecDepth 100000 in
set_option maxHeartbeats 4000000 in
theorem kX10_isFilled (l : Launch) (D : va_G) (b : Nat) {S : SH} {me : ME} {o : Nat} {q : Int32 × ME} (hM : mX10_isFilled S me o = some q) : Ct l D b yX10_isFilled cX10_isFilled 3 (some .boolean) 1 22 0 0 [.ref (b + o)] S me S q.2 (some (.int q.1)) := by
  refine ct_of (own := RX10) (nm := "isFilled") (lv := [(0, .ref (b + o))]) (plainFor_of_name (by decide)) rfl rfl (Nat.le_of_ble_eq_true rfl) rfl ⟨rfl, rfl⟩ (fun X cx ex hL => ?_)
  have J71 : ∀ (k4 : (ME × Int32 × Int32 → Option (Int32 × ME))), (∀ (me : ME) (x1 : Int32) (x2 : Int32), k4 (me, x1, x2) = some q → WS X b 3 S me 4 [(0, .ref (b + o)), (1, .int x1), (2, .int x2)] []) → ∀ (me : ME) (x2 : Int32) (y0 : Int32), mX10_isFilled_j71 S o k4 me x2 y0 = some q → WS X b 3 S me 71 [(0, .ref (b + o)), (2, .int x2)] [.int y0] := by
    intro k4 hk4 me x2 y0 hM
    unfold mX10_isFilled_j71 at hM
    refine ws_istore_n cx dX10_isFilled_71 rfl (by decide) (lv' := [(1, .int y0), (0, .ref (b + o)), (2, .int x2)]) rfl ?_
    refine ws_iinc cx dX10_isFilled_72 (j := 2) rfl (v := x2 + (1 : Int32)) rfl (by decide) (lv' := [(2, .int (x2 + (1 : Int32))), (1, .int y0), (0, .ref (b + o))]) rfl ?_
    refine ws_goto cx dX10_isFilled_75 (tgt := 4) (by decide) ?_
    refine ws_sub [2, 1, 0] (lv' := [(0, .ref (b + o)), (1, .int y0), (2, .int (x2 + (1 : Int32)))]) rfl ?_
    exact hk4 _ _ _ hM
  have J70 : ∀ (k4 : (ME × Int32 × Int32 → Option (Int32 × ME))), (∀ (me : ME) (x1 : Int32) (x2 : Int32), k4 (me, x1, x2) = some q → WS X b 3 S me 4 [(0, .ref (b + o)), (1, .int x1), (2, .int x2)] []) → ∀ (me : ME) (x2 : Int32), mX10_isFilled_j70 S o k4 me x2 = some q → WS X b 3 S me 70 [(0, .ref (b + o)), (2, .int x2)] [] := by
    intro k4 hk4 me x2 hM
    unfold mX10_isFilled_j70 at hM
    refine ws_iconst cx dX10_isFilled_70 (v := 0) (by decide) ?_
    refine ws_sub [0, 1] (lv' := [(0, .ref (b + o)), (2, .int x2)]) rfl ?_
    exact J71 _ hk4 _ _ _ hM
  have J78 : ∀ (me : ME) (x1 : Int32), mX10_isFilled_j78 S o me x1 = some q → WS X b 3 S me 78 [(1, .int x1)] [] := by
    intro  me x1 hM
    unfold mX10_isFilled_j78 at hM
    refine ws_iload_n cx dX10_isFilled_78 rfl (j := 0) rfl ?_
    obtain ⟨h1, hM⟩ := ite_o hM
    exact ws_zretM cx ex h1 hM dX10_isFilled_79
  have L4 : ∀ (n : Nat) (me : ME) (x1 : Int32) (x2 : Int32), lpn (mX10_isFilled_L4 S o) n (me, x1, x2) = some q → WS X b 3 S me 4 [(0, .ref (b + o)), (1, .int x1), (2, .int x2)] [] := by
    intro  n
    induction n with
    | zero => intro me x1 x2 hM; exact absurd hM (by intro h; cases h)
    | succ n ih =>
      intro me x1 x2 hM
      have hM : mX10_isFilled_L4 S o (lpn (mX10_isFilled_L4 S o) n) (me, x1, x2) = some q := hM
      unfold mX10_isFilled_L4 at hM
      refine ws_iload_n cx dX10_isFilled_4 rfl (j := 2) rfl ?_
      refine ws_aload_n cx dX10_isFilled_5 rfl (j := 0) rfl ?_
      obtain ⟨v2, h3, hM⟩ := bnd hM
      refine ws_getI cx ffX10_154 h3 dX10_isFilled_6 ?_
      refine ws_icmp_ge cx dX10_isFilled_9 (tgt := 78) (by decide) (fun c4 => ?_) (fun c4 => ?_)
      · have hM := if_t hM c4
        refine ws_sub [1] (lv' := [(1, .int x1)]) rfl ?_
        exact J78 _ _ hM
      · have hM := if_f hM c4
        refine ws_iload_n cx dX10_isFilled_12 rfl (j := 1) rfl ?_
        refine ws_if_eq cx dX10_isFilled_13 (tgt := 70) (by decide) (fun c5 => ?_) (fun c5 => ?_)
        · have hM := if_t hM c5
          refine ws_sub [0, 2] (lv' := [(0, .ref (b + o)), (2, .int x2)]) rfl ?_
          exact J70 _ ih _ _ hM
        · have hM := if_f hM c5
          refine ws_aload_n cx dX10_isFilled_16 rfl (j := 0) rfl ?_
          refine ws_iload_n cx dX10_isFilled_17 rfl (j := 2) rfl ?_
          refine ws_iconst cx dX10_isFilled_18 (v := 0) (by decide) ?_
          obtain ⟨_, h8, hM⟩ := bnd hM
          obtain ⟨q6, h7, hM⟩ := bnd hM
          refine ws_callV cx (rest := []) (st' := [.long q6.1]) (kX10_cellAt l D b h7) mvX10_cellAt (ck_k h8) (by decide) (q := (RX10, TX10, 31)) rfl seX10_cellAt lkX10_160 rfl ⟨by decide, by decide⟩ (Nat.le_of_ble_eq_true rfl) ⟨rfl, rfl⟩ (Or.inl ⟨rfl, rfl⟩) rfl rfl dX10_isFilled_19 ?_
          refine ws_aload_n cx dX10_isFilled_22 rfl (j := 0) rfl ?_
          obtain ⟨v9, h10, hM⟩ := bnd hM
          refine ws_getJ cx ffX10_182 h10 dX10_isFilled_23 ?_
          refine ws_lmul cx dX10_isFilled_26 ?_
          refine ws_aload_n cx dX10_isFilled_27 rfl (j := 0) rfl ?_
          refine ws_iload_n cx dX10_isFilled_28 rfl (j := 2) rfl ?_
          refine ws_iconst cx dX10_isFilled_29 (v := 1) (by decide) ?_
          obtain ⟨_, h13, hM⟩ := bnd hM
          obtain ⟨q11, h12, hM⟩ := bnd hM
          refine ws_callV cx (rest := [.long (q6.1 * v9)]) (st' := [.long q11.1, .long (q6.1 * v9)]) (kX10_cellAt l D b h12) mvX10_cellAt (ck_k h13) (by decide) (q := (RX10, TX10, 31)) rfl seX10_cellAt lkX10_160 rfl ⟨by decide, by decide⟩ (Nat.le_of_ble_eq_true rfl) ⟨rfl, rfl⟩ (Or.inl ⟨rfl, rfl⟩) rfl rfl dX10_isFilled_30 ?_
          refine ws_aload_n cx dX10_isFilled_33 rfl (j := 0) rfl ?_
          obtain ⟨v14, h15, hM⟩ := bnd hM
          refine ws_getJ cx ffX10_185 h15 dX10_isFilled_34 ?_
          refine ws_lmul cx dX10_isFilled_37 ?_
          refine ws_ladd cx dX10_isFilled_38 ?_
          refine ws_aload_n cx dX10_isFilled_39 rfl (j := 0) rfl ?_
          refine ws_iload_n cx dX10_isFilled_40 rfl (j := 2) rfl ?_
          refine ws_iconst cx dX10_isFilled_41 (v := 2) (by decide) ?_
          obtain ⟨_, h18, hM⟩ := bnd hM
          obtain ⟨q16, h17, hM⟩ := bnd hM
          refine ws_callV cx (rest := [.long ((q6.1 * v9) + (q11.1 * v14))]) (st' := [.long q16.1, .long ((q6.1 * v9) + (q11.1 * v14))]) (kX10_cellAt l D b h17) mvX10_cellAt (ck_k h18) (by decide) (q := (RX10, TX10, 31)) rfl seX10_cellAt lkX10_160 rfl ⟨by decide, by decide⟩ (Nat.le_of_ble_eq_true rfl) ⟨rfl, rfl⟩ (Or.inl ⟨rfl, rfl⟩) rfl rfl dX10_isFilled_42 ?_
          refine ws_aload_n cx dX10_isFilled_45 rfl (j := 0) rfl ?_
          obtain ⟨v19, h20, hM⟩ := bnd hM
          refine ws_getJ cx ffX10_188 h20 dX10_isFilled_46 ?_
          refine ws_lmul cx dX10_isFilled_49 ?_
          refine ws_ladd cx dX10_isFilled_50 ?_
          refine ws_aload_n cx dX10_isFilled_51 rfl (j := 0) rfl ?_
          refine ws_iload_n cx dX10_isFilled_52 rfl (j := 2) rfl ?_
          refine ws_iconst cx dX10_isFilled_53 (v := 3) (by decide) ?_
          obtain ⟨_, h23, hM⟩ := bnd hM
          obtain ⟨q21, h22, hM⟩ := bnd hM
          refine ws_callV cx (rest := [.long (((q6.1 * v9) + (q11.1 * v14)) + (q16.1 * v19))]) (st' := [.long q21.1, .long (((q6.1 * v9) + (q11.1 * v14)) + (q16.1 * v19))]) (kX10_cellAt l D b h22) mvX10_cellAt (ck_k h23) (by decide) (q := (RX10, TX10, 31)) rfl seX10_cellAt lkX10_160 rfl ⟨by decide, by decide⟩ (Nat.le_of_ble_eq_true rfl) ⟨rfl, rfl⟩ (Or.inl ⟨rfl, rfl⟩) rfl rfl dX10_isFilled_54 ?_
          refine ws_aload_n cx dX10_isFilled_57 rfl (j := 0) rfl ?_
          obtain ⟨v24, h25, hM⟩ := bnd hM
          refine ws_getJ cx ffX10_178 h25 dX10_isFilled_58 ?_
          refine ws_lmul cx dX10_isFilled_61 ?_
          refine ws_lcmp cx dX10_isFilled_62 ?_
          refine ws_if_ne cx dX10_isFilled_63 (tgt := 70) (by decide) (fun c26 => ?_) (fun c26 => ?_)
          · have hM := if_f hM c26
            refine ws_sub [0, 2] (lv' := [(0, .ref (b + o)), (2, .int x2)]) rfl ?_
            exact J70 _ ih _ _ hM
          · have hM := if_t hM c26
            refine ws_iconst cx dX10_isFilled_66 (v := 1) (by decide) ?_
            refine ws_goto cx dX10_isFilled_67 (tgt := 71) (by decide) ?_
            refine ws_sub [0, 2] (lv' := [(0, .ref (b + o)), (2, .int x2)]) rfl ?_
            exact J71 _ ih _ _ _ hM
  unfold mX10_isFilled at hM
  refine ws_iconst cx dX10_isFilled_0 (v := 1) (by decide) ?_
  refine ws_istore_n cx dX10_isFilled_1 rfl (by decide) (lv' := [(1, .int (1 : Int32)), (0, .ref (b + o))]) rfl ?_
  refine ws_iconst cx dX10_isFilled_2 (v := 0) (by decide) ?_
  refine ws_istore_n cx dX10_isFilled_3 rfl (by decide) (lv' := [(2, .int (0 : Int32)), (1, .int (1 : Int32)), (0, .ref (b + o))]) rfl ?_
  refine ws_sub [2, 1, 0] (lv' := [(0, .ref (b + o)), (1, .int (1 : Int32)), (2, .int (0 : Int32))]) rfl ?_
  exact L4 _ _ _ _ hM

def mX10_differs (S : SH) (me : ME) (o : Nat) (a0 : Int32) : Option (Int64 × ME) :=
  (gJ S me 10 24 o).bind fun v1 =>
  (ck S 10 o).bind fun _ => (mX10_xOf S me o a0).bind fun q3 =>
  (gJ S q3.2 10 27 o).bind fun v6 =>
  (gJ S q3.2 10 25 o).bind fun v8 =>
  (ck S 10 o).bind fun _ => (mX10_yOf S q3.2 o a0).bind fun q10 =>
  (gJ S q10.2 10 27 o).bind fun v13 =>
  (gJ S q10.2 10 26 o).bind fun v15 =>
  (ck S 10 o).bind fun _ => (mX10_timeOf S q10.2 o a0).bind fun q17 =>
  (gJ S q17.2 10 27 o).bind fun v20 =>
  some ((((v1 - (q3.1.toInt64 * v6)) * (v1 - (q3.1.toInt64 * v6))) + ((v8 - (q10.1.toInt64 * v13)) * (v8 - (q10.1.toInt64 * v13)))) - ((v15 - (q17.1.toInt64 * v20)) * (v15 - (q17.1.toInt64 * v20))), q17.2)
set_option maxRecDepth 100000 in
set_option maxHeartbeats 4000000 in
theorem kX10_differs (l : Launch) (D : va_G) (b : Nat) {S : SH} {me : ME} {o : Nat} {a0 : Int32} {q : Int64 × ME} (hM : mX10_differs S me o a0 = some q) : Ct l D b yX10_differs cX10_differs 8 (some .long) 1 22 0 0 [.ref (b + o), .int a0] S me S q.2 (some (.long q.1)) := by
  refine ct_of (own := RX10) (nm := "differs") (lv := [(0, .ref (b + o)), (1, .int a0)]) (plainFor_of_name (by decide)) rfl rfl (Nat.le_of_ble_eq_true rfl) rfl ⟨rfl, rfl⟩ (fun X cx ex hL => ?_)
  unfold mX10_differs at hM
  refine ws_aload_n cx dX10_differs_0 rfl (j := 0) rfl ?_
  obtain ⟨v1, h2, hM⟩ := bnd hM
  refine ws_getJ cx ffX10_182 h2 dX10_differs_1 ?_
  refine ws_aload_n cx dX10_differs_4 rfl (j := 0) rfl ?_
  refine ws_iload_n cx dX10_differs_5 rfl (j := 1) rfl ?_
  obtain ⟨_, h5, hM⟩ := bnd hM
  obtain ⟨q3, h4, hM⟩ := bnd hM
  refine ws_callV cx (rest := [.long v1]) (st' := [.int q3.1, .long v1]) (kX10_xOf l D b h4) mvX10_xOf (ck_k h5) (by decide) (q := (RX10, TX10, 31)) rfl seX10_xOf lkX10_116 rfl ⟨by decide, by decide⟩ (Nat.le_of_ble_eq_true rfl) ⟨rfl, rfl⟩ (Or.inl ⟨rfl, rfl⟩) rfl rfl dX10_differs_6 ?_
  refine ws_i2l cx dX10_differs_9 ?_
  refine ws_aload_n cx dX10_differs_10 rfl (j := 0) rfl ?_
  obtain ⟨v6, h7, hM⟩ := bnd hM
  refine ws_getJ cx ffX10_178 h7 dX10_differs_11 ?_
  refine ws_lmul cx dX10_differs_14 ?_
  refine ws_lsub cx dX10_differs_15 ?_
  refine ws_lstore_n cx dX10_differs_16 rfl (by decide) (lv' := [(2, .long (v1 - (q3.1.toInt64 * v6))), (0, .ref (b + o)), (1, .int a0)]) rfl ?_
  refine ws_aload_n cx dX10_differs_17 rfl (j := 1) rfl ?_
  obtain ⟨v8, h9, hM⟩ := bnd hM
  refine ws_getJ cx ffX10_185 h9 dX10_differs_18 ?_
  refine ws_aload_n cx dX10_differs_21 rfl (j := 1) rfl ?_
  refine ws_iload_n cx dX10_differs_22 rfl (j := 2) rfl ?_
  obtain ⟨_, h12, hM⟩ := bnd hM
  obtain ⟨q10, h11, hM⟩ := bnd hM
  refine ws_callV cx (rest := [.long v8]) (st' := [.int q10.1, .long v8]) (kX10_yOf l D b h11) mvX10_yOf (ck_k h12) (by decide) (q := (RX10, TX10, 31)) rfl seX10_yOf lkX10_119 rfl ⟨by decide, by decide⟩ (Nat.le_of_ble_eq_true rfl) ⟨rfl, rfl⟩ (Or.inl ⟨rfl, rfl⟩) rfl rfl dX10_differs_23 ?_
  refine ws_i2l cx dX10_differs_26 ?_
  refine ws_aload_n cx dX10_differs_27 rfl (j := 1) rfl ?_
  obtain ⟨v13, h14, hM⟩ := bnd hM
  refine ws_getJ cx ffX10_178 h14 dX10_differs_28 ?_
  refine ws_lmul cx dX10_differs_31 ?_
  refine ws_lsub cx dX10_differs_32 ?_
  refine ws_lstore cx dX10_differs_33 (by decide) (lv' := [(4, .long (v8 - (q10.1.toInt64 * v13))), (2, .long (v1 - (q3.1.toInt64 * v6))), (0, .ref (b + o)), (1, .int a0)]) rfl ?_
  refine ws_aload_n cx dX10_differs_35 rfl (j := 2) rfl ?_
  obtain ⟨v15, h16, hM⟩ := bnd hM
  refine ws_getJ cx ffX10_188 h16 dX10_differs_36 ?_
  refine ws_aload_n cx dX10_differs_39 rfl (j := 2) rfl ?_
  refine ws_iload_n cx dX10_differs_40 rfl (j := 3) rfl ?_
  obtain ⟨_, h19, hM⟩ := bnd hM
  obtain ⟨q17, h18, hM⟩ := bnd hM
  refine ws_callV cx (rest := [.long v15]) (st' := [.int q17.1, .long v15]) (kX10_timeOf l D b h18) mvX10_timeOf (ck_k h19) (by decide) (q := (RX10, TX10, 31)) rfl seX10_timeOf lkX10_110 rfl ⟨by decide, by decide⟩ (Nat.le_of_ble_eq_true rfl) ⟨rfl, rfl⟩ (Or.inl ⟨rfl, rfl⟩) rfl rfl dX10_differs_41 ?_
  refine ws_i2l cx dX10_differs_44 ?_
  refine ws_aload_n cx dX10_differs_45 rfl (j := 2) rfl ?_
  obtain ⟨v20, h21, hM⟩ := bnd hM
  refine ws_getJ cx ffX10_178 h21 dX10_differs_46 ?_
  refine ws_lmul cx dX10_differs_49 ?_
  refine ws_lsub cx dX10_differs_50 ?_
  refine ws_lstore cx dX10_differs_51 (by decide) (lv' := [(6, .long (v15 - (q17.1.toInt64 * v20))), (4, .long (v8 - (q10.1.toInt64 * v13))), (2, .long (v1 - (q3.1.toInt64 * v6))), (0, .ref (b + o)), (1, .int a0)]) rfl ?_
  refine ws_lload_n cx dX10_differs_53 rfl (j := 2) rfl ?_
  refine ws_lload_n cx dX10_differs_54 rfl (j := 2) rfl ?_
  refine ws_lmul cx dX10_differs_55 ?_
  refine ws_lload cx dX10_differs_56 (j := 1) rfl ?_
  refine ws_lload cx dX10_differs_58 (j := 1) rfl ?_
  refine ws_lmul cx dX10_differs_60 ?_
  refine ws_ladd cx dX10_differs_61 ?_
  refine ws_lload cx dX10_differs_62 (j := 0) rfl ?_
  refine ws_lload cx dX10_differs_64 (j := 0) rfl ?_
  refine ws_lmul cx dX10_differs_66 ?_
  refine ws_lsub cx dX10_differs_67 ?_
  exact ws_lretM cx ex hM dX10_differs_68

def mX10_verdictOf_j24 (S : SH) (o : Nat) (a0 : Int32) (me : ME) (y0 : Int32) : Option (Int32 × ME) :=
  some (y0, me)
def mX10_verdictOf_j76 (S : SH) (o : Nat) (a0 : Int32) (me : ME) (y0 : Int32) : Option (Int32 × ME) :=
  some (y0, me)
def mX10_verdictOf_j75 (S : SH) (o : Nat) (a0 : Int32) (me : ME) : Option (Int32 × ME) :=
  mX10_verdictOf_j76 S o a0 me (2 : Int32)
def mX10_verdictOf (S : SH) (me : ME) (o : Nat) (a0 : Int32) : Option (Int32 × ME) :=
  (ck S 10 o).bind fun _ => (mX10_rankOf S me o a0).bind fun q1 =>
  if (3 : Int32) ≤ q1.1 then
    (ck S 10 o).bind fun _ => (mX10_solves S q1.2 o).bind fun q5 =>
    (ck S 10 o).bind fun _ => (mX10_firstOf S q5.2 o a0).bind fun q8 =>
    (ck S 10 o).bind fun _ => (mX10_isFilled S q8.2 o).bind fun q11 =>
    if q11.1 = 0 then
      mX10_verdictOf_j75 S o a0 q11.2
    else
      (ck S 10 o).bind fun _ => (mX10_differs S q11.2 o q8.1).bind fun q15 =>
      if (lg_cmp q15.1 (0 : Int64)) = 0 then
        (gJ S q15.2 10 26 o).bind fun v19 =>
        (ck S 10 o).bind fun _ => (mX10_timeOf S q15.2 o q8.1).bind fun q21 =>
        (gJ S q21.2 10 27 o).bind fun v24 =>
        if 0 < (lg_cmp v19 (q21.1.toInt64 * v24)) then
          mX10_verdictOf_j75 S o a0 q21.2
        else
          mX10_verdictOf_j76 S o a0 q21.2 (0 : Int32)
      else
        mX10_verdictOf_j75 S o a0 q15.2
  else
    (ck S 10 o).bind fun _ => (mX10_isOpen S q1.2 o q1.1).bind fun q27 =>
    if q27.1 = 0 then
      mX10_verdictOf_j24 S o a0 q27.2 (2 : Int32)
    else
      mX10_verdictOf_j24 S o a0 q27.2 (1 : Int32)
set_option maxRecDepth 100000 in
set_option maxHeartbeats 4000000 in
theorem kX10_verdictOf (l : Launch) (D : va_G) (b : Nat) {S : SH} {me : ME} {o : Nat} {a0 : Int32} {q : Int32 × ME} (hM : mX10_verdictOf S me o a0 = some q) : Ct l D b yX10_verdictOf cX10_verdictOf 4 (some .int) 4 95 0 0 [.ref (b + o), .int a0] S me S q.2 (some (.int q.1)) := by
  refine ct_of (own := RX10) (nm := "verdictOf") (lv := [(0, .ref (b + o)), (1, .int a0)]) (plainFor_of_name (by decide)) rfl rfl (Nat.le_of_ble_eq_true rfl) rfl ⟨rfl, rfl⟩ (fun X cx ex hL => ?_)
  have J24 : ∀ (me : ME) (y0 : Int32), mX10_verdictOf_j24 S o a0 me y0 = some q → WS X b 4 S me 24 [] [.int y0] := by
    intro  me y0 hM
    unfold mX10_verdictOf_j24 at hM
    exact ws_iretM cx ex hM dX10_verdictOf_24
  have J76 : ∀ (me : ME) (y0 : Int32), mX10_verdictOf_j76 S o a0 me y0 = some q → WS X b 4 S me 76 [] [.int y0] := by
    intro  me y0 hM
    unfold mX10_verdictOf_j76 at hM
    exact ws_iretM cx ex hM dX10_verdictOf_76
  have J75 : ∀ (me : ME), mX10_verdictOf_j75 S o a0 me = some q → WS X b 4 S me 75 [] [] := by
    intro  me hM
    unfold mX10_verdictOf_j75 at hM
    refine ws_iconst cx dX10_verdictOf_75 (v := 2) (by decide) ?_
    refine ws_sub [] (lv' := []) rfl ?_
    exact J76 _ _ hM
  unfold mX10_verdictOf at hM
  refine ws_aload_n cx dX10_verdictOf_0 rfl (j := 0) rfl ?_
  refine ws_iload_n cx dX10_verdictOf_1 rfl (j := 1) rfl ?_
  obtain ⟨_, h3, hM⟩ := bnd hM
  obtain ⟨q1, h2, hM⟩ := bnd hM
  refine ws_callV cx (rest := []) (st' := [.int q1.1]) (kX10_rankOf l D b h2) mvX10_rankOf (ck_k h3) (by decide) (q := (RX10, TX10, 31)) rfl seX10_rankOf lkX10_191 rfl ⟨by decide, by decide⟩ (Nat.le_of_ble_eq_true rfl) ⟨rfl, rfl⟩ (Or.inl ⟨rfl, rfl⟩) rfl rfl dX10_verdictOf_2 ?_
  refine ws_istore_n cx dX10_verdictOf_5 rfl (by decide) (lv' := [(2, .int q1.1), (0, .ref (b + o)), (1, .int a0)]) rfl ?_
  refine ws_iload_n cx dX10_verdictOf_6 rfl (j := 0) rfl ?_
  refine ws_iconst cx dX10_verdictOf_7 (v := 3) (by decide) ?_
  refine ws_icmp_ge cx dX10_verdictOf_8 (tgt := 25) (by decide) (fun c4 => ?_) (fun c4 => ?_)
  · have hM := if_t hM c4
    refine ws_aload_n cx dX10_verdictOf_25 rfl (j := 1) rfl ?_
    obtain ⟨_, h7, hM⟩ := bnd hM
    obtain ⟨q5, h6, hM⟩ := bnd hM
    refine ws_callV cx (rest := []) (st' := []) (kX10_solves l D b h6) mvX10_solves (ck_k h7) (by decide) (q := (RX10, TX10, 31)) rfl seX10_solves lkX10_197 rfl ⟨by decide, by decide⟩ (Nat.le_of_ble_eq_true rfl) ⟨rfl, rfl⟩ (Or.inl ⟨rfl, rfl⟩) rfl rfl dX10_verdictOf_26 ?_
    refine ws_aload_n cx dX10_verdictOf_29 rfl (j := 1) rfl ?_
    refine ws_iload_n cx dX10_verdictOf_30 rfl (j := 2) rfl ?_
    obtain ⟨_, h10, hM⟩ := bnd hM
    obtain ⟨q8, h9, hM⟩ := bnd hM
    refine ws_callV cx (rest := []) (st' := [.int q8.1]) (kX10_firstOf l D b h9) mvX10_firstOf (ck_k h10) (by decide) (q := (RX10, TX10, 31)) rfl seX10_firstOf lkX10_157 rfl ⟨by decide, by decide⟩ (Nat.le_of_ble_eq_true rfl) ⟨rfl, rfl⟩ (Or.inl ⟨rfl, rfl⟩) rfl rfl dX10_verdictOf_31 ?_
    refine ws_istore_n cx dX10_verdictOf_34 rfl (by decide) (lv' := [(3, .int q8.1), (2, .int q1.1), (0, .ref (b + o)), (1, .int a0)]) rfl ?_
    refine ws_aload_n cx dX10_verdictOf_35 rfl (j := 2) rfl ?_
    obtain ⟨_, h13, hM⟩ := bnd hM
    obtain ⟨q11, h12, hM⟩ := bnd hM
    refine ws_callV cx (rest := []) (st' := [.int q11.1]) (kX10_isFilled l D b h12) mvX10_isFilled (ck_k h13) (by decide) (q := (RX10, TX10, 31)) rfl seX10_isFilled lkX10_200 rfl ⟨by decide, by decide⟩ (Nat.le_of_ble_eq_true rfl) ⟨rfl, rfl⟩ (Or.inl ⟨rfl, rfl⟩) rfl rfl dX10_verdictOf_36 ?_
    refine ws_if_eq cx dX10_verdictOf_39 (tgt := 75) (by decide) (fun c14 => ?_) (fun c14 => ?_)
    · have hM := if_t hM c14
      refine ws_sub [] (lv' := []) rfl ?_
      exact J75 _ hM
    · have hM := if_f hM c14
      refine ws_aload_n cx dX10_verdictOf_42 rfl (j := 2) rfl ?_
      refine ws_iload_n cx dX10_verdictOf_43 rfl (j := 0) rfl ?_
      obtain ⟨_, h17, hM⟩ := bnd hM
      obtain ⟨q15, h16, hM⟩ := bnd hM
      refine ws_callV cx (rest := []) (st' := [.long q15.1]) (kX10_differs l D b h16) mvX10_differs (ck_k h17) (by decide) (q := (RX10, TX10, 31)) rfl seX10_differs lkX10_203 rfl ⟨by decide, by decide⟩ (Nat.le_of_ble_eq_true rfl) ⟨rfl, rfl⟩ (Or.inl ⟨rfl, rfl⟩) rfl rfl dX10_verdictOf_44 ?_
      refine ws_lconst cx dX10_verdictOf_47 (v := 0) (by decide) ?_
      refine ws_lcmp cx dX10_verdictOf_48 ?_
      refine ws_if_ne cx dX10_verdictOf_49 (tgt := 75) (by decide) (fun c18 => ?_) (fun c18 => ?_)
      · have hM := if_f hM c18
        refine ws_sub [] (lv' := []) rfl ?_
        exact J75 _ hM
      · have hM := if_t hM c18
        refine ws_aload_n cx dX10_verdictOf_52 rfl (j := 2) rfl ?_
        obtain ⟨v19, h20, hM⟩ := bnd hM
        refine ws_getJ cx ffX10_188 h20 dX10_verdictOf_53 ?_
        refine ws_aload_n cx dX10_verdictOf_56 rfl (j := 2) rfl ?_
        refine ws_iload_n cx dX10_verdictOf_57 rfl (j := 0) rfl ?_
        obtain ⟨_, h23, hM⟩ := bnd hM
        obtain ⟨q21, h22, hM⟩ := bnd hM
        refine ws_callV cx (rest := [.long v19]) (st' := [.int q21.1, .long v19]) (kX10_timeOf l D b h22) mvX10_timeOf (ck_k h23) (by decide) (q := (RX10, TX10, 31)) rfl seX10_timeOf lkX10_110 rfl ⟨by decide, by decide⟩ (Nat.le_of_ble_eq_true rfl) ⟨rfl, rfl⟩ (Or.inl ⟨rfl, rfl⟩) rfl rfl dX10_verdictOf_58 ?_
        refine ws_i2l cx dX10_verdictOf_61 ?_
        refine ws_aload_n cx dX10_verdictOf_62 rfl (j := 2) rfl ?_
        obtain ⟨v24, h25, hM⟩ := bnd hM
        refine ws_getJ cx ffX10_178 h25 dX10_verdictOf_63 ?_
        refine ws_lmul cx dX10_verdictOf_66 ?_
        refine ws_lcmp cx dX10_verdictOf_67 ?_
        refine ws_if_gt cx dX10_verdictOf_68 (tgt := 75) (by decide) (fun c26 => ?_) (fun c26 => ?_)
        · have hM := if_t hM c26
          refine ws_sub [] (lv' := []) rfl ?_
          exact J75 _ hM
        · have hM := if_f hM c26
          refine ws_iconst cx dX10_verdictOf_71 (v := 0) (by decide) ?_
          refine ws_goto cx dX10_verdictOf_72 (tgt := 76) (by decide) ?_
          refine ws_sub [] (lv' := []) rfl ?_
          exact J76 _ _ hM
  · have hM := if_f hM c4
    refine ws_aload_n cx dX10_verdictOf_11 rfl (j := 1) rfl ?_
    refine ws_iload_n cx dX10_verdictOf_12 rfl (j := 0) rfl ?_
    obtain ⟨_, h29, hM⟩ := bnd hM
    obtain ⟨q27, h28, hM⟩ := bnd hM
    refine ws_callV cx (rest := []) (st' := [.int q27.1]) (kX10_isOpen l D b h28) mvX10_isOpen (ck_k h29) (by decide) (q := (RX10, TX10, 31)) rfl seX10_isOpen lkX10_194 rfl ⟨by decide, by decide⟩ (Nat.le_of_ble_eq_true rfl) ⟨rfl, rfl⟩ (Or.inl ⟨rfl, rfl⟩) rfl rfl dX10_verdictOf_13 ?_
    refine ws_if_eq cx dX10_verdictOf_16 (tgt := 23) (by decide) (fun c30 => ?_) (fun c30 => ?_)
    · have hM := if_t hM c30
      refine ws_iconst cx dX10_verdictOf_23 (v := 2) (by decide) ?_
      refine ws_sub [] (lv' := []) rfl ?_
      exact J24 _ _ hM
    · have hM := if_f hM c30
      refine ws_iconst cx dX10_verdictOf_19 (v := 1) (by decide) ?_
      refine ws_goto cx dX10_verdictOf_20 (tgt := 24) (by decide) ?_
      refine ws_sub [] (lv' := []) rfl ?_
      exact J24 _ _ hM

def mX10_verdict_j27 (S : SH) (o : Nat) (a0 : Int32) (me : ME) (y0 : Int32) : Option (Int32 × ME) :=
  some (y0, me)
def mX10_verdict (S : SH) (me : ME) (o : Nat) (a0 : Int32) : Option (Int32 × ME) :=
  (gR S 10 3 o).bind fun v1 =>
  (aI S me 11 v1 (0 : Int32)).bind fun v3 =>
  (mX10_in S me a0 (1 : Int32) (((1 : Int32) <<< (v3 &&& 31)) - (1 : Int32))).bind fun q5 =>
  if q5.1 = 0 then
    mX10_verdict_j27 S o a0 q5.2 (-1 : Int32)
  else
    (ck S 10 o).bind fun _ => (mX10_verdictOf S q5.2 o a0).bind fun q8 =>
    mX10_verdict_j27 S o a0 q8.2 q8.1
set_option maxRecDepth 100000 in
set_option maxHeartbeats 4000000 in
theorem kX10_verdict (l : Launch) (D : va_G) (b : Nat) {S : SH} {me : ME} {o : Nat} {a0 : Int32} {q : Int32 × ME} (hM : mX10_verdict S me o a0 = some q) : Ct l D b yX10_verdict cX10_verdict 2 (some .int) 5 118 0 0 [.ref (b + o), .int a0] S me S q.2 (some (.int q.1)) := by
  refine ct_of (own := RX10) (nm := "verdict") (lv := [(0, .ref (b + o)), (1, .int a0)]) (plainFor_of_name (by decide)) rfl rfl (Nat.le_of_ble_eq_true rfl) rfl ⟨rfl, rfl⟩ (fun X cx ex hL => ?_)
  have J27 : ∀ (me : ME) (y0 : Int32), mX10_verdict_j27 S o a0 me y0 = some q → WS X b 2 S me 27 [] [.int y0] := by
    intro  me y0 hM
    unfold mX10_verdict_j27 at hM
    exact ws_iretM cx ex hM dX10_verdict_27
  unfold mX10_verdict at hM
  refine ws_iload_n cx dX10_verdict_0 rfl (j := 1) rfl ?_
  refine ws_iconst cx dX10_verdict_1 (v := 1) (by decide) ?_
  refine ws_iconst cx dX10_verdict_2 (v := 1) (by decide) ?_
  refine ws_aload_n cx dX10_verdict_3 rfl (j := 0) rfl ?_
  obtain ⟨v1, h2, hM⟩ := bnd hM
  refine ws_getR cx ffX10_16 h2 dX10_verdict_4 ?_
  refine ws_iconst cx dX10_verdict_7 (v := 0) (by decide) ?_
  obtain ⟨v3, h4, hM⟩ := bnd hM
  refine ws_iald cx h4 dX10_verdict_8 ?_
  refine ws_ishl cx dX10_verdict_9 ?_
  refine ws_iconst cx dX10_verdict_10 (v := 1) (by decide) ?_
  refine ws_isub cx dX10_verdict_11 ?_
  obtain ⟨q5, h6, hM⟩ := bnd hM
  refine ws_callS cx (rest := []) (st' := [.int q5.1]) (kX10_in l D b h6) mvX10_in lkX10_48 rfl ⟨by decide, by decide⟩ (Nat.le_of_ble_eq_true rfl) ⟨rfl, rfl⟩ (Or.inl ⟨rfl, rfl⟩) rfl rfl dX10_verdict_12 ?_
  refine ws_if_eq cx dX10_verdict_15 (tgt := 26) (by decide) (fun c7 => ?_) (fun c7 => ?_)
  · have hM := if_t hM c7
    refine ws_iconst cx dX10_verdict_26 (v := -1) (by decide) ?_
    refine ws_sub [] (lv' := []) rfl ?_
    exact J27 _ _ hM
  · have hM := if_f hM c7
    refine ws_aload_n cx dX10_verdict_18 rfl (j := 0) rfl ?_
    refine ws_iload_n cx dX10_verdict_19 rfl (j := 1) rfl ?_
    obtain ⟨_, h10, hM⟩ := bnd hM
    obtain ⟨q8, h9, hM⟩ := bnd hM
    refine ws_callV cx (rest := []) (st' := [.int q8.1]) (kX10_verdictOf l D b h9) mvX10_verdictOf (ck_k h10) (by decide) (q := (RX10, TX10, 31)) rfl seX10_verdictOf lkX10_207 rfl ⟨by decide, by decide⟩ (Nat.le_of_ble_eq_true rfl) ⟨rfl, rfl⟩ (Or.inl ⟨rfl, rfl⟩) rfl rfl dX10_verdict_20 ?_
    refine ws_goto cx dX10_verdict_23 (tgt := 27) (by decide) ?_
    refine ws_sub [] (lv' := []) rfl ?_
    exact J27 _ _ hM

def mX10_bits_j20 (S : SH) (a0 : Int32) (me : ME) (x1 : Int32) : Option (Int32 × ME) :=
  some (x1, me)
def mX10_bits_L4 (S : SH) (a0 : Int32) (k4 : (ME × Int32 × Int32 → Option (Int32 × ME))) : ME × Int32 × Int32 → Option (Int32 × ME)
  | (me, x1, x2) =>
    if x2 = 0 then
      mX10_bits_j20 S a0 me x1
    else
      k4 (me, x1 + (1 : Int32), x2 &&& (x2 - (1 : Int32)))
def mX10_bits (S : SH) (me : ME) (a0 : Int32) : Option (Int32 × ME) :=
  lpn (mX10_bits_L4 S a0) lpF (me, (0 : Int32), a0)
set_option maxRecDepth 100000 in
set_option maxHeartbeats 4000000 in
theorem kX10_bits (l : Launch) (D : va_G) (b : Nat) {S : SH} {me : ME} {a0 : Int32} {q : Int32 × ME} (hM : mX10_bits S me a0 = some q) : Ct l D b yX10_bits cX10_bits 3 (some .int) 0 0 0 0 [.int a0] S me S q.2 (some (.int q.1)) := by
  refine ct_of (own := RX10) (nm := "bits") (lv := [(0, .int a0)]) (plainFor_of_name (by decide)) rfl rfl (Nat.le_of_ble_eq_true rfl) rfl ⟨rfl, rfl⟩ (fun X cx ex hL => ?_)
  have J20 : ∀ (me : ME) (x1 : Int32), mX10_bits_j20 S a0 me x1 = some q → WS X b 3 S me 20 [(1, .int x1)] [] := by
    intro  me x1 hM
    unfold mX10_bits_j20 at hM
    refine ws_iload_n cx dX10_bits_20 rfl (j := 0) rfl ?_
    exact ws_iretM cx ex hM dX10_bits_21
  have L4 : ∀ (n : Nat) (me : ME) (x1 : Int32) (x2 : Int32), lpn (mX10_bits_L4 S a0) n (me, x1, x2) = some q → WS X b 3 S me 4 [(1, .int x1), (2, .int x2)] [] := by
    intro  n
    induction n with
    | zero => intro me x1 x2 hM; exact absurd hM (by intro h; cases h)
    | succ n ih =>
      intro me x1 x2 hM
      have hM : mX10_bits_L4 S a0 (lpn (mX10_bits_L4 S a0) n) (me, x1, x2) = some q := hM
      unfold mX10_bits_L4 at hM
      refine ws_iload_n cx dX10_bits_4 rfl (j := 1) rfl ?_
      refine ws_if_eq cx dX10_bits_5 (tgt := 20) (by decide) (fun c1 => ?_) (fun c1 => ?_)
      · have hM := if_t hM c1
        refine ws_sub [0] (lv' := [(1, .int x1)]) rfl ?_
        exact J20 _ _ hM
      · have hM := if_f hM c1
        refine ws_iinc cx dX10_bits_8 (j := 0) rfl (v := x1 + (1 : Int32)) rfl (by decide) (lv' := [(1, .int (x1 + (1 : Int32))), (2, .int x2)]) rfl ?_
        refine ws_iload_n cx dX10_bits_11 rfl (j := 1) rfl ?_
        refine ws_iload_n cx dX10_bits_12 rfl (j := 1) rfl ?_
        refine ws_iconst cx dX10_bits_13 (v := 1) (by decide) ?_
        refine ws_isub cx dX10_bits_14 ?_
        refine ws_iand cx dX10_bits_15 ?_
        refine ws_istore_n cx dX10_bits_16 rfl (by decide) (lv' := [(2, .int (x2 &&& (x2 - (1 : Int32)))), (1, .int (x1 + (1 : Int32)))]) rfl ?_
        refine ws_goto cx dX10_bits_17 (tgt := 4) (by decide) ?_
        refine ws_sub [1, 0] (lv' := [(1, .int (x1 + (1 : Int32))), (2, .int (x2 &&& (x2 - (1 : Int32))))]) rfl ?_
        exact ih _ _ _ hM
  unfold mX10_bits at hM
  refine ws_iconst cx dX10_bits_0 (v := 0) (by decide) ?_
  refine ws_istore_n cx dX10_bits_1 rfl (by decide) (lv' := [(1, .int (0 : Int32)), (0, .int a0)]) rfl ?_
  refine ws_iload_n cx dX10_bits_2 rfl (j := 1) rfl ?_
  refine ws_istore_n cx dX10_bits_3 rfl (by decide) (lv' := [(2, .int a0), (1, .int (0 : Int32)), (0, .int a0)]) rfl ?_
  refine ws_sub [1, 0] (lv' := [(1, .int (0 : Int32)), (2, .int a0)]) rfl ?_
  exact L4 _ _ _ _ hM

def mX10_outOf_j53 (S : SH) (o : Nat) (a0 : Int32) (me : ME) (x3 : Int32) : Option (Int32 × ME) :=
  some (x3, me)
def mX10_outOf_j55 (S : SH) (o : Nat) (a0 : Int32) (k2 : (ME × Int32 → Option (Int32 × ME))) (k9 : (ME × Int32 × Int32 → Option (Int32 × ME))) (me : ME) (x2 : Int32) (x3 : Int32) : Option (Int32 × ME) :=
  k9 (me, x2, x3 + (1 : Int32))
def mX10_outOf_j61 (S : SH) (o : Nat) (a0 : Int32) (k2 : (ME × Int32 → Option (Int32 × ME))) (me : ME) (x2 : Int32) : Option (Int32 × ME) :=
  k2 (me, x2 + (1 : Int32))
def mX10_outOf_L9 (S : SH) (o : Nat) (a0 : Int32) (k2 : (ME × Int32 → Option (Int32 × ME))) (k9 : (ME × Int32 × Int32 → Option (Int32 × ME))) : ME × Int32 × Int32 → Option (Int32 × ME)
  | (me, x2, x3) =>
    (gR S 10 3 o).bind fun v1 =>
    (aI S me 11 v1 (0 : Int32)).bind fun v3 =>
    if ((1 : Int32) <<< (v3 &&& 31)) ≤ x3 then
      mX10_outOf_j61 S o a0 k2 me x2
    else
      (mX10_bits S me x3).bind fun q6 =>
      if q6.1 = x2 then
        if (x3 &&& a0) = x3 then
          if x3 = a0 then
            mX10_outOf_j55 S o a0 k2 k9 q6.2 x2 x3
          else
            (ck S 10 o).bind fun _ => (mX10_verdictOf S q6.2 o (a0 &&& (x3 ^^^ (-1 : Int32)))).bind fun q11 =>
            if q11.1 = 0 then
              mX10_outOf_j53 S o a0 q11.2 x3
            else
              mX10_outOf_j55 S o a0 k2 k9 q11.2 x2 x3
        else
          mX10_outOf_j55 S o a0 k2 k9 q6.2 x2 x3
      else
        mX10_outOf_j55 S o a0 k2 k9 q6.2 x2 x3
def mX10_outOf_j67 (S : SH) (o : Nat) (a0 : Int32) (me : ME) : Option (Int32 × ME) :=
  some ((-9 : Int32), me)
def mX10_outOf_L2 (S : SH) (o : Nat) (a0 : Int32) (k2 : (ME × Int32 → Option (Int32 × ME))) : ME × Int32 → Option (Int32 × ME)
  | (me, x2) =>
    if (3 : Int32) ≤ x2 then
      mX10_outOf_j67 S o a0 me
    else
      lpn (mX10_outOf_L9 S o a0 k2) lpF (me, x2, (0 : Int32))
def mX10_outOf (S : SH) (me : ME) (o : Nat) (a0 : Int32) : Option (Int32 × ME) :=
  lpn (mX10_outOf_L2 S o a0) lpF (me, (0 : Int32))
set_option maxRecDepth 100000 in
set_option maxHeartbeats 4000000 in
theorem kX10_outOf (l : Launch) (D : va_G) (b : Nat) {S : SH} {me : ME} {o : Nat} {a0 : Int32} {q : Int32 × ME} (hM : mX10_outOf S me o a0 = some q) : Ct l D b yX10_outOf cX10_outOf 4 (some .int) 5 118 0 0 [.ref (b + o), .int a0] S me S q.2 (some (.int q.1)) := by
  refine ct_of (own := RX10) (nm := "outOf") (lv := [(0, .ref (b + o)), (1, .int a0)]) (plainFor_of_name (by decide)) rfl rfl (Nat.le_of_ble_eq_true rfl) rfl ⟨rfl, rfl⟩ (fun X cx ex hL => ?_)
  have J53 : ∀ (me : ME) (x3 : Int32), mX10_outOf_j53 S o a0 me x3 = some q → WS X b 4 S me 53 [(3, .int x3)] [] := by
    intro  me x3 hM
    unfold mX10_outOf_j53 at hM
    refine ws_iload_n cx dX10_outOf_53 rfl (j := 0) rfl ?_
    exact ws_iretM cx ex hM dX10_outOf_54
  have J55 : ∀ (k2 : (ME × Int32 → Option (Int32 × ME))), (∀ (me : ME) (x2 : Int32), k2 (me, x2) = some q → WS X b 4 S me 2 [(0, .ref (b + o)), (1, .int a0), (2, .int x2)] []) → ∀ (k9 : (ME × Int32 × Int32 → Option (Int32 × ME))), (∀ (me : ME) (x2 : Int32) (x3 : Int32), k9 (me, x2, x3) = some q → WS X b 4 S me 9 [(0, .ref (b + o)), (1, .int a0), (2, .int x2), (3, .int x3)] []) → ∀ (me : ME) (x2 : Int32) (x3 : Int32), mX10_outOf_j55 S o a0 k2 k9 me x2 x3 = some q → WS X b 4 S me 55 [(0, .ref (b + o)), (1, .int a0), (2, .int x2), (3, .int x3)] [] := by
    intro k2 hk2 k9 hk9 me x2 x3 hM
    unfold mX10_outOf_j55 at hM
    refine ws_iinc cx dX10_outOf_55 (j := 3) rfl (v := x3 + (1 : Int32)) rfl (by decide) (lv' := [(3, .int (x3 + (1 : Int32))), (0, .ref (b + o)), (1, .int a0), (2, .int x2)]) rfl ?_
    refine ws_goto cx dX10_outOf_58 (tgt := 9) (by decide) ?_
    refine ws_sub [1, 2, 3, 0] (lv' := [(0, .ref (b + o)), (1, .int a0), (2, .int x2), (3, .int (x3 + (1 : Int32)))]) rfl ?_
    exact hk9 _ _ _ hM
  have J61 : ∀ (k2 : (ME × Int32 → Option (Int32 × ME))), (∀ (me : ME) (x2 : Int32), k2 (me, x2) = some q → WS X b 4 S me 2 [(0, .ref (b + o)), (1, .int a0), (2, .int x2)] []) → ∀ (me : ME) (x2 : Int32), mX10_outOf_j61 S o a0 k2 me x2 = some q → WS X b 4 S me 61 [(0, .ref (b + o)), (1, .int a0), (2, .int x2)] [] := by
    intro k2 hk2 me x2 hM
    unfold mX10_outOf_j61 at hM
    refine ws_iinc cx dX10_outOf_61 (j := 2) rfl (v := x2 + (1 : Int32)) rfl (by decide) (lv' := [(2, .int (x2 + (1 : Int32))), (0, .ref (b + o)), (1, .int a0)]) rfl ?_
    refine ws_goto cx dX10_outOf_64 (tgt := 2) (by decide) ?_
    refine ws_sub [1, 2, 0] (lv' := [(0, .ref (b + o)), (1, .int a0), (2, .int (x2 + (1 : Int32)))]) rfl ?_
    exact hk2 _ _ hM
  have L9 : ∀ (k2 : (ME × Int32 → Option (Int32 × ME))), (∀ (me : ME) (x2 : Int32), k2 (me, x2) = some q → WS X b 4 S me 2 [(0, .ref (b + o)), (1, .int a0), (2, .int x2)] []) → ∀ (n : Nat) (me : ME) (x2 : Int32) (x3 : Int32), lpn (mX10_outOf_L9 S o a0 k2) n (me, x2, x3) = some q → WS X b 4 S me 9 [(0, .ref (b + o)), (1, .int a0), (2, .int x2), (3, .int x3)] [] := by
    intro k2 hk2 n
    induction n with
    | zero => intro me x2 x3 hM; exact absurd hM (by intro h; cases h)
    | succ n ih =>
      intro me x2 x3 hM
      have hM : mX10_outOf_L9 S o a0 k2 (lpn (mX10_outOf_L9 S o a0 k2) n) (me, x2, x3) = some q := hM
      unfold mX10_outOf_L9 at hM
      refine ws_iload_n cx dX10_outOf_9 rfl (j := 3) rfl ?_
      refine ws_iconst cx dX10_outOf_10 (v := 1) (by decide) ?_
      refine ws_aload_n cx dX10_outOf_11 rfl (j := 0) rfl ?_
      obtain ⟨v1, h2, hM⟩ := bnd hM
      refine ws_getR cx ffX10_16 h2 dX10_outOf_12 ?_
      refine ws_iconst cx dX10_outOf_15 (v := 0) (by decide) ?_
      obtain ⟨v3, h4, hM⟩ := bnd hM
      refine ws_iald cx h4 dX10_outOf_16 ?_
      refine ws_ishl cx dX10_outOf_17 ?_
      refine ws_icmp_ge cx dX10_outOf_18 (tgt := 61) (by decide) (fun c5 => ?_) (fun c5 => ?_)
      · have hM := if_t hM c5
        refine ws_sub [0, 1, 2] (lv' := [(0, .ref (b + o)), (1, .int a0), (2, .int x2)]) rfl ?_
        exact J61 _ hk2 _ _ hM
      · have hM := if_f hM c5
        refine ws_iload_n cx dX10_outOf_21 rfl (j := 3) rfl ?_
        obtain ⟨q6, h7, hM⟩ := bnd hM
        refine ws_callS cx (rest := []) (st' := [.int q6.1]) (kX10_bits l D b h7) mvX10_bits lkX10_210 rfl ⟨by decide, by decide⟩ (Nat.le_of_ble_eq_true rfl) ⟨rfl, rfl⟩ (Or.inl ⟨rfl, rfl⟩) rfl rfl dX10_outOf_22 ?_
        refine ws_iload_n cx dX10_outOf_25 rfl (j := 2) rfl ?_
        refine ws_icmp_ne cx dX10_outOf_26 (tgt := 55) (by decide) (fun c8 => ?_) (fun c8 => ?_)
        · have hM := if_f hM c8
          refine ws_sub [0, 1, 2, 3] (lv' := [(0, .ref (b + o)), (1, .int a0), (2, .int x2), (3, .int x3)]) rfl ?_
          exact J55 _ hk2 _ ih _ _ _ hM
        · have hM := if_t hM c8
          refine ws_iload_n cx dX10_outOf_29 rfl (j := 3) rfl ?_
          refine ws_iload_n cx dX10_outOf_30 rfl (j := 1) rfl ?_
          refine ws_iand cx dX10_outOf_31 ?_
          refine ws_iload_n cx dX10_outOf_32 rfl (j := 3) rfl ?_
          refine ws_icmp_ne cx dX10_outOf_33 (tgt := 55) (by decide) (fun c9 => ?_) (fun c9 => ?_)
          · have hM := if_f hM c9
            refine ws_sub [0, 1, 2, 3] (lv' := [(0, .ref (b + o)), (1, .int a0), (2, .int x2), (3, .int x3)]) rfl ?_
            exact J55 _ hk2 _ ih _ _ _ hM
          · have hM := if_t hM c9
            refine ws_iload_n cx dX10_outOf_36 rfl (j := 3) rfl ?_
            refine ws_iload_n cx dX10_outOf_37 rfl (j := 1) rfl ?_
            refine ws_icmp_eq cx dX10_outOf_38 (tgt := 55) (by decide) (fun c10 => ?_) (fun c10 => ?_)
            · have hM := if_t hM c10
              refine ws_sub [0, 1, 2, 3] (lv' := [(0, .ref (b + o)), (1, .int a0), (2, .int x2), (3, .int x3)]) rfl ?_
              exact J55 _ hk2 _ ih _ _ _ hM
            · have hM := if_f hM c10
              refine ws_aload_n cx dX10_outOf_41 rfl (j := 0) rfl ?_
              refine ws_iload_n cx dX10_outOf_42 rfl (j := 1) rfl ?_
              refine ws_iload_n cx dX10_outOf_43 rfl (j := 3) rfl ?_
              refine ws_iconst cx dX10_outOf_44 (v := -1) (by decide) ?_
              refine ws_ixor cx dX10_outOf_45 ?_
              refine ws_iand cx dX10_outOf_46 ?_
              obtain ⟨_, h13, hM⟩ := bnd hM
              obtain ⟨q11, h12, hM⟩ := bnd hM
              refine ws_callV cx (rest := []) (st' := [.int q11.1]) (kX10_verdictOf l D b h12) mvX10_verdictOf (ck_k h13) (by decide) (q := (RX10, TX10, 31)) rfl seX10_verdictOf lkX10_207 rfl ⟨by decide, by decide⟩ (Nat.le_of_ble_eq_true rfl) ⟨rfl, rfl⟩ (Or.inl ⟨rfl, rfl⟩) rfl rfl dX10_outOf_47 ?_
              refine ws_if_ne cx dX10_outOf_50 (tgt := 55) (by decide) (fun c14 => ?_) (fun c14 => ?_)
              · have hM := if_f hM c14
                refine ws_sub [0, 1, 2, 3] (lv' := [(0, .ref (b + o)), (1, .int a0), (2, .int x2), (3, .int x3)]) rfl ?_
                exact J55 _ hk2 _ ih _ _ _ hM
              · have hM := if_t hM c14
                refine ws_sub [3] (lv' := [(3, .int x3)]) rfl ?_
                exact J53 _ _ hM
  have J67 : ∀ (me : ME), mX10_outOf_j67 S o a0 me = some q → WS X b 4 S me 67 [] [] := by
    intro  me hM
    unfold mX10_outOf_j67 at hM
    refine ws_bipush cx dX10_outOf_67 (v := -9) (by decide) ?_
    exact ws_iretM cx ex hM dX10_outOf_69
  have L2 : ∀ (n : Nat) (me : ME) (x2 : Int32), lpn (mX10_outOf_L2 S o a0) n (me, x2) = some q → WS X b 4 S me 2 [(0, .ref (b + o)), (1, .int a0), (2, .int x2)] [] := by
    intro  n
    induction n with
    | zero => intro me x2 hM; exact absurd hM (by intro h; cases h)
    | succ n ih =>
      intro me x2 hM
      have hM : mX10_outOf_L2 S o a0 (lpn (mX10_outOf_L2 S o a0) n) (me, x2) = some q := hM
      unfold mX10_outOf_L2 at hM
      refine ws_iload_n cx dX10_outOf_2 rfl (j := 2) rfl ?_
      refine ws_iconst cx dX10_outOf_3 (v := 3) (by decide) ?_
      refine ws_icmp_ge cx dX10_outOf_4 (tgt := 67) (by decide) (fun c15 => ?_) (fun c15 => ?_)
      · have hM := if_t hM c15
        refine ws_sub [] (lv' := []) rfl ?_
        exact J67 _ hM
      · have hM := if_f hM c15
        refine ws_iconst cx dX10_outOf_7 (v := 0) (by decide) ?_
        refine ws_istore_n cx dX10_outOf_8 rfl (by decide) (lv' := [(3, .int (0 : Int32)), (0, .ref (b + o)), (1, .int a0), (2, .int x2)]) rfl ?_
        refine ws_sub [1, 2, 3, 0] (lv' := [(0, .ref (b + o)), (1, .int a0), (2, .int x2), (3, .int (0 : Int32))]) rfl ?_
        exact L9 _ ih _ _ _ _ hM
  unfold mX10_outOf at hM
  refine ws_iconst cx dX10_outOf_0 (v := 0) (by decide) ?_
  refine ws_istore_n cx dX10_outOf_1 rfl (by decide) (lv' := [(2, .int (0 : Int32)), (0, .ref (b + o)), (1, .int a0)]) rfl ?_
  refine ws_sub [1, 2, 0] (lv' := [(0, .ref (b + o)), (1, .int a0), (2, .int (0 : Int32))]) rfl ?_
  exact L2 _ _ _ hM

def mX10_worstOf_j78 (S : SH) (o : Nat) (a0 : Int32) (k5 : (ME × Int64 × Int32 → Option (Int32 × ME))) (me : ME) (x2 : Int64) (x4 : Int32) : Option (Int32 × ME) :=
  k5 (me, x2, x4 + (1 : Int32))
def mX10_worstOf_j77 (S : SH) (o : Nat) (a0 : Int32) (k5 : (ME × Int64 × Int32 → Option (Int32 × ME))) (me : ME) (x4 : Int32) (y0 : Int64) : Option (Int32 × ME) :=
  mX10_worstOf_j78 S o a0 k5 me y0 x4
def mX10_worstOf_j48 (S : SH) (o : Nat) (a0 : Int32) (k5 : (ME × Int64 × Int32 → Option (Int32 × ME))) (me : ME) (x2 : Int64) (x4 : Int32) (y0 : Int64) : Option (Int32 × ME) :=
  (gJ S me 10 27 o).bind fun v1 =>
  (gJ S me 10 27 o).bind fun v3 =>
  if (v1 * v3) = 0 then none else
  if (lg_cmp (y0 / (v1 * v3)) x2) ≤ 0 then
    mX10_worstOf_j77 S o a0 k5 me x4 x2
  else
    mX10_worstOf_j77 S o a0 k5 me x4 (y0 / (v1 * v3))
def mX10_worstOf_j99 (S : SH) (o : Nat) (a0 : Int32) (me : ME) (y0 : Int32) : Option (Int32 × ME) :=
  some (y0, me)
def mX10_worstOf_j84 (S : SH) (o : Nat) (a0 : Int32) (me : ME) (x2 : Int64) : Option (Int32 × ME) :=
  if (lg_cmp x2 (999999999 : Int64)) ≤ 0 then
    mX10_worstOf_j99 S o a0 me x2.toInt32
  else
    mX10_worstOf_j99 S o a0 me (999999999 : Int32)
def mX10_worstOf_L5 (S : SH) (o : Nat) (a0 : Int32) (k5 : (ME × Int64 × Int32 → Option (Int32 × ME))) : ME × Int64 × Int32 → Option (Int32 × ME)
  | (me, x2, x4) =>
    (gR S 10 3 o).bind fun v8 =>
    (aI S me 11 v8 (0 : Int32)).bind fun v10 =>
    if v10 ≤ x4 then
      mX10_worstOf_j84 S o a0 me x2
    else
      (mX10_has S me a0 x4).bind fun q13 =>
      if q13.1 = 0 then
        mX10_worstOf_j78 S o a0 k5 q13.2 x2 x4
      else
        (ck S 10 o).bind fun _ => (mX10_differs S q13.2 o x4).bind fun q16 =>
        if 0 ≤ (lg_cmp q16.1 (0 : Int64)) then
          mX10_worstOf_j48 S o a0 k5 q16.2 x2 x4 q16.1
        else
          mX10_worstOf_j48 S o a0 k5 q16.2 x2 x4 (-q16.1)
def mX10_worstOf (S : SH) (me : ME) (o : Nat) (a0 : Int32) : Option (Int32 × ME) :=
  lpn (mX10_worstOf_L5 S o a0) lpF (me, (0 : Int64), (0 : Int32))
set_option maxRecDepth 100000 in
set_option maxHeartbeats 4000000 in
theorem kX10_worstOf (l : Launch) (D : va_G) (b : Nat) {S : SH} {me : ME} {o : Nat} {a0 : Int32} {q : Int32 × ME} (hM : mX10_worstOf S me o a0 = some q) : Ct l D b yX10_worstOf cX10_worstOf 7 (some .int) 2 49 0 0 [.ref (b + o), .int a0] S me S q.2 (some (.int q.1)) := by
  refine ct_of (own := RX10) (nm := "worstOf") (lv := [(0, .ref (b + o)), (1, .int a0)]) (plainFor_of_name (by decide)) rfl rfl (Nat.le_of_ble_eq_true rfl) rfl ⟨rfl, rfl⟩ (fun X cx ex hL => ?_)
  have J78 : ∀ (k5 : (ME × Int64 × Int32 → Option (Int32 × ME))), (∀ (me : ME) (x2 : Int64) (x4 : Int32), k5 (me, x2, x4) = some q → WS X b 7 S me 5 [(0, .ref (b + o)), (1, .int a0), (2, .long x2), (4, .int x4)] []) → ∀ (me : ME) (x2 : Int64) (x4 : Int32), mX10_worstOf_j78 S o a0 k5 me x2 x4 = some q → WS X b 7 S me 78 [(0, .ref (b + o)), (1, .int a0), (2, .long x2), (4, .int x4)] [] := by
    intro k5 hk5 me x2 x4 hM
    unfold mX10_worstOf_j78 at hM
    refine ws_iinc cx dX10_worstOf_78 (j := 3) rfl (v := x4 + (1 : Int32)) rfl (by decide) (lv' := [(4, .int (x4 + (1 : Int32))), (0, .ref (b + o)), (1, .int a0), (2, .long x2)]) rfl ?_
    refine ws_goto cx dX10_worstOf_81 (tgt := 5) (by decide) ?_
    refine ws_sub [1, 2, 3, 0] (lv' := [(0, .ref (b + o)), (1, .int a0), (2, .long x2), (4, .int (x4 + (1 : Int32)))]) rfl ?_
    exact hk5 _ _ _ hM
  have J77 : ∀ (k5 : (ME × Int64 × Int32 → Option (Int32 × ME))), (∀ (me : ME) (x2 : Int64) (x4 : Int32), k5 (me, x2, x4) = some q → WS X b 7 S me 5 [(0, .ref (b + o)), (1, .int a0), (2, .long x2), (4, .int x4)] []) → ∀ (me : ME) (x4 : Int32) (y0 : Int64), mX10_worstOf_j77 S o a0 k5 me x4 y0 = some q → WS X b 7 S me 77 [(0, .ref (b + o)), (1, .int a0), (4, .int x4)] [.long y0] := by
    intro k5 hk5 me x4 y0 hM
    unfold mX10_worstOf_j77 at hM
    refine ws_lstore_n cx dX10_worstOf_77 rfl (by decide) (lv' := [(2, .long y0), (0, .ref (b + o)), (1, .int a0), (4, .int x4)]) rfl ?_
    refine ws_sub [1, 2, 0, 3] (lv' := [(0, .ref (b + o)), (1, .int a0), (2, .long y0), (4, .int x4)]) rfl ?_
    exact J78 _ hk5 _ _ _ hM
  have J48 : ∀ (k5 : (ME × Int64 × Int32 → Option (Int32 × ME))), (∀ (me : ME) (x2 : Int64) (x4 : Int32), k5 (me, x2, x4) = some q → WS X b 7 S me 5 [(0, .ref (b + o)), (1, .int a0), (2, .long x2), (4, .int x4)] []) → ∀ (me : ME) (x2 : Int64) (x4 : Int32) (y0 : Int64), mX10_worstOf_j48 S o a0 k5 me x2 x4 y0 = some q → WS X b 7 S me 48 [(0, .ref (b + o)), (1, .int a0), (2, .long x2), (4, .int x4)] [.long y0] := by
    intro k5 hk5 me x2 x4 y0 hM
    unfold mX10_worstOf_j48 at hM
    refine ws_lstore cx dX10_worstOf_48 (by decide) (lv' := [(5, .long y0), (0, .ref (b + o)), (1, .int a0), (2, .long x2), (4, .int x4)]) rfl ?_
    refine ws_lload cx dX10_worstOf_50 (j := 0) rfl ?_
    refine ws_aload_n cx dX10_worstOf_52 rfl (j := 1) rfl ?_
    obtain ⟨v1, h2, hM⟩ := bnd hM
    refine ws_getJ cx ffX10_178 h2 dX10_worstOf_53 ?_
    refine ws_aload_n cx dX10_worstOf_56 rfl (j := 1) rfl ?_
    obtain ⟨v3, h4, hM⟩ := bnd hM
    refine ws_getJ cx ffX10_178 h4 dX10_worstOf_57 ?_
    refine ws_lmul cx dX10_worstOf_60 ?_
    obtain ⟨h5, hM⟩ := if_n hM
    refine ws_ldiv cx h5 dX10_worstOf_61 ?_
    refine ws_lstore cx dX10_worstOf_62 (by decide) (lv' := [(5, .long (y0 / (v1 * v3))), (0, .ref (b + o)), (1, .int a0), (2, .long x2), (4, .int x4)]) rfl ?_
    refine ws_lload cx dX10_worstOf_64 (j := 0) rfl ?_
    refine ws_lload_n cx dX10_worstOf_66 rfl (j := 3) rfl ?_
    refine ws_lcmp cx dX10_worstOf_67 ?_
    refine ws_if_le cx dX10_worstOf_68 (tgt := 76) (by decide) (fun c6 => ?_) (fun c6 => ?_)
    · have hM := if_t hM c6
      refine ws_lload_n cx dX10_worstOf_76 rfl (j := 3) rfl ?_
      refine ws_sub [1, 2, 4] (lv' := [(0, .ref (b + o)), (1, .int a0), (4, .int x4)]) rfl ?_
      exact J77 _ hk5 _ _ _ hM
    · have hM := if_f hM c6
      refine ws_lload cx dX10_worstOf_71 (j := 0) rfl ?_
      refine ws_goto cx dX10_worstOf_73 (tgt := 77) (by decide) ?_
      refine ws_sub [1, 2, 4] (lv' := [(0, .ref (b + o)), (1, .int a0), (4, .int x4)]) rfl ?_
      exact J77 _ hk5 _ _ _ hM
  have J99 : ∀ (me : ME) (y0 : Int32), mX10_worstOf_j99 S o a0 me y0 = some q → WS X b 7 S me 99 [] [.int y0] := by
    intro  me y0 hM
    unfold mX10_worstOf_j99 at hM
    exact ws_iretM cx ex hM dX10_worstOf_99
  have J84 : ∀ (me : ME) (x2 : Int64), mX10_worstOf_j84 S o a0 me x2 = some q → WS X b 7 S me 84 [(2, .long x2)] [] := by
    intro  me x2 hM
    unfold mX10_worstOf_j84 at hM
    refine ws_lload_n cx dX10_worstOf_84 rfl (j := 0) rfl ?_
    refine ws_ldc2 cx cwX10_213 dX10_worstOf_85 ?_
    refine ws_lcmp cx dX10_worstOf_88 ?_
    refine ws_if_le cx dX10_worstOf_89 (tgt := 97) (by decide) (fun c7 => ?_) (fun c7 => ?_)
    · have hM := if_t hM c7
      refine ws_lload_n cx dX10_worstOf_97 rfl (j := 0) rfl ?_
      refine ws_l2i cx dX10_worstOf_98 ?_
      refine ws_sub [] (lv' := []) rfl ?_
      exact J99 _ _ hM
    · have hM := if_f hM c7
      refine ws_ldc cx cwX10_215 dX10_worstOf_92 ?_
      refine ws_goto cx dX10_worstOf_94 (tgt := 99) (by decide) ?_
      refine ws_sub [] (lv' := []) rfl ?_
      exact J99 _ _ hM
  have L5 : ∀ (n : Nat) (me : ME) (x2 : Int64) (x4 : Int32), lpn (mX10_worstOf_L5 S o a0) n (me, x2, x4) = some q → WS X b 7 S me 5 [(0, .ref (b + o)), (1, .int a0), (2, .long x2), (4, .int x4)] [] := by
    intro  n
    induction n with
    | zero => intro me x2 x4 hM; exact absurd hM (by intro h; cases h)
    | succ n ih =>
      intro me x2 x4 hM
      have hM : mX10_worstOf_L5 S o a0 (lpn (mX10_worstOf_L5 S o a0) n) (me, x2, x4) = some q := hM
      unfold mX10_worstOf_L5 at hM
      refine ws_iload cx dX10_worstOf_5 (j := 3) rfl ?_
      refine ws_aload_n cx dX10_worstOf_7 rfl (j := 0) rfl ?_
      obtain ⟨v8, h9, hM⟩ := bnd hM
      refine ws_getR cx ffX10_16 h9 dX10_worstOf_8 ?_
      refine ws_iconst cx dX10_worstOf_11 (v := 0) (by decide) ?_
      obtain ⟨v10, h11, hM⟩ := bnd hM
      refine ws_iald cx h11 dX10_worstOf_12 ?_
      refine ws_icmp_ge cx dX10_worstOf_13 (tgt := 84) (by decide) (fun c12 => ?_) (fun c12 => ?_)
      · have hM := if_t hM c12
        refine ws_sub [2] (lv' := [(2, .long x2)]) rfl ?_
        exact J84 _ _ hM
      · have hM := if_f hM c12
        refine ws_iload_n cx dX10_worstOf_16 rfl (j := 1) rfl ?_
        refine ws_iload cx dX10_worstOf_17 (j := 3) rfl ?_
        obtain ⟨q13, h14, hM⟩ := bnd hM
        refine ws_callS cx (rest := []) (st' := [.int q13.1]) (kX10_has l D b h14) mvX10_has lkX10_125 rfl ⟨by decide, by decide⟩ (Nat.le_of_ble_eq_true rfl) ⟨rfl, rfl⟩ (Or.inl ⟨rfl, rfl⟩) rfl rfl dX10_worstOf_19 ?_
        refine ws_if_eq cx dX10_worstOf_22 (tgt := 78) (by decide) (fun c15 => ?_) (fun c15 => ?_)
        · have hM := if_t hM c15
          refine ws_sub [0, 1, 2, 3] (lv' := [(0, .ref (b + o)), (1, .int a0), (2, .long x2), (4, .int x4)]) rfl ?_
          exact J78 _ ih _ _ _ hM
        · have hM := if_f hM c15
          refine ws_aload_n cx dX10_worstOf_25 rfl (j := 0) rfl ?_
          refine ws_iload cx dX10_worstOf_26 (j := 3) rfl ?_
          obtain ⟨_, h18, hM⟩ := bnd hM
          obtain ⟨q16, h17, hM⟩ := bnd hM
          refine ws_callV cx (rest := []) (st' := [.long q16.1]) (kX10_differs l D b h17) mvX10_differs (ck_k h18) (by decide) (q := (RX10, TX10, 31)) rfl seX10_differs lkX10_203 rfl ⟨by decide, by decide⟩ (Nat.le_of_ble_eq_true rfl) ⟨rfl, rfl⟩ (Or.inl ⟨rfl, rfl⟩) rfl rfl dX10_worstOf_28 ?_
          refine ws_lstore cx dX10_worstOf_31 (by decide) (lv' := [(5, .long q16.1), (0, .ref (b + o)), (1, .int a0), (2, .long x2), (4, .int x4)]) rfl ?_
          refine ws_lload cx dX10_worstOf_33 (j := 0) rfl ?_
          refine ws_lconst cx dX10_worstOf_35 (v := 0) (by decide) ?_
          refine ws_lcmp cx dX10_worstOf_36 ?_
          refine ws_if_ge cx dX10_worstOf_37 (tgt := 46) (by decide) (fun c19 => ?_) (fun c19 => ?_)
          · have hM := if_t hM c19
            refine ws_lload cx dX10_worstOf_46 (j := 0) rfl ?_
            refine ws_sub [1, 2, 3, 4] (lv' := [(0, .ref (b + o)), (1, .int a0), (2, .long x2), (4, .int x4)]) rfl ?_
            exact J48 _ ih _ _ _ _ hM
          · have hM := if_f hM c19
            refine ws_lload cx dX10_worstOf_40 (j := 0) rfl ?_
            refine ws_lneg cx dX10_worstOf_42 ?_
            refine ws_goto cx dX10_worstOf_43 (tgt := 48) (by decide) ?_
            refine ws_sub [1, 2, 3, 4] (lv' := [(0, .ref (b + o)), (1, .int a0), (2, .long x2), (4, .int x4)]) rfl ?_
            exact J48 _ ih _ _ _ _ hM
  unfold mX10_worstOf at hM
  refine ws_lconst cx dX10_worstOf_0 (v := 0) (by decide) ?_
  refine ws_lstore_n cx dX10_worstOf_1 rfl (by decide) (lv' := [(2, .long (0 : Int64)), (0, .ref (b + o)), (1, .int a0)]) rfl ?_
  refine ws_iconst cx dX10_worstOf_2 (v := 0) (by decide) ?_
  refine ws_istore cx dX10_worstOf_3 (by decide) (lv' := [(4, .int (0 : Int32)), (2, .long (0 : Int64)), (0, .ref (b + o)), (1, .int a0)]) rfl ?_
  refine ws_sub [2, 3, 1, 0] (lv' := [(0, .ref (b + o)), (1, .int a0), (2, .long (0 : Int64)), (4, .int (0 : Int32))]) rfl ?_
  exact L5 _ _ _ _ hM
