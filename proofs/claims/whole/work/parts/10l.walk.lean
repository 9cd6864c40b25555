def mX10_fourOf_j75 (S : SH) (o : Nat) (a0 : Int32) (k5 : (ME × Int32 × Int32 → Option (Int32 × ME))) (me : ME) (x2 : Int32) (x3 : Int32) : Option (Int32 × ME) :=
  k5 (me, x2, x3 + (1 : Int32))
def mX10_fourOf_j67 (S : SH) (o : Nat) (a0 : Int32) (k5 : (ME × Int32 × Int32 → Option (Int32 × ME))) (me : ME) (x3 : Int32) (x4 : Int32) : Option (Int32 × ME) :=
  (sI S me 10 28 o x4).bind fun m2 =>
  mX10_fourOf_j75 S o a0 k5 m2 x3 x3
def mX10_fourOf_j81 (S : SH) (o : Nat) (a0 : Int32) (me : ME) (x2 : Int32) : Option (Int32 × ME) :=
  some (x2, me)
def mX10_fourOf_L5 (S : SH) (o : Nat) (a0 : Int32) (k5 : (ME × Int32 × Int32 → Option (Int32 × ME))) : ME × Int32 × Int32 → Option (Int32 × ME)
  | (me, x2, x3) =>
    (gR S 10 3 o).bind fun v3 =>
    (aI S me 11 v3 (0 : Int32)).bind fun v5 =>
    if ((1 : Int32) <<< (v5 &&& 31)) ≤ x3 then
      mX10_fourOf_j81 S o a0 me x2
    else
      (mX10_bits S me x3).bind fun q8 =>
      if q8.1 = (4 : Int32) then
        if (x3 &&& a0) = x3 then
          (ck S 10 o).bind fun _ => (mX10_rankOf S q8.2 o x3).bind fun q12 =>
          if q12.1 = (3 : Int32) then
            (ck S 10 o).bind fun _ => (mX10_solves S q12.2 o).bind fun q16 =>
            (ck S 10 o).bind fun _ => (mX10_worstOf S q16.2 o a0).bind fun q19 =>
            if x2 = (-9 : Int32) then
              mX10_fourOf_j67 S o a0 k5 q19.2 x3 q19.1
            else
              (gI S q19.2 10 28 o).bind fun v23 =>
              if v23 ≤ q19.1 then
                mX10_fourOf_j75 S o a0 k5 q19.2 x2 x3
              else
                mX10_fourOf_j67 S o a0 k5 q19.2 x3 q19.1
          else
            mX10_fourOf_j75 S o a0 k5 q12.2 x2 x3
        else
          mX10_fourOf_j75 S o a0 k5 q8.2 x2 x3
      else
        mX10_fourOf_j75 S o a0 k5 q8.2 x2 x3
def mX10_fourOf (S : SH) (me : ME) (o : Nat) (a0 : Int32) : Option (Int32 × ME) :=
  lpn (mX10_fourOf_L5 S o a0) lpF (me, (-9 : Int32), (0 : Int32))
set_option maxRecDepth 100000 in
set_option maxHeartbeats 4000000 in
theorem kX10_fourOf (l : Launch) (D : va_G) (b : Nat) {S : SH} {me : ME} {o : Nat} {a0 : Int32} {q : Int32 × ME} (hM : mX10_fourOf S me o a0 = some q) : Ct l D b yX10_fourOf cX10_fourOf 5 (some .int) 4 95 0 0 [.ref (b + o), .int a0] S me S q.2 (some (.int q.1)) := by
  refine ct_of (own := RX10) (nm := "fourOf") (lv := [(0, .ref (b + o)), (1, .int a0)]) (plainFor_of_name (by decide)) rfl rfl (Nat.le_of_ble_eq_true rfl) rfl ⟨rfl, rfl⟩ (fun X cx ex hL => ?_)
  have J75 : ∀ (k5 : (ME × Int32 × Int32 → Option (Int32 × ME))), (∀ (me : ME) (x2 : Int32) (x3 : Int32), k5 (me, x2, x3) = some q → WS X b 5 S me 5 [(0, .ref (b + o)), (1, .int a0), (2, .int x2), (3, .int x3)] []) → ∀ (me : ME) (x2 : Int32) (x3 : Int32), mX10_fourOf_j75 S o a0 k5 me x2 x3 = some q → WS X b 5 S me 75 [(0, .ref (b + o)), (1, .int a0), (2, .int x2), (3, .int x3)] [] := by
    intro k5 hk5 me x2 x3 hM
    unfold mX10_fourOf_j75 at hM
    refine ws_iinc cx dX10_fourOf_75 (j := 3) rfl (v := x3 + (1 : Int32)) rfl (by decide) (lv' := [(3, .int (x3 + (1 : Int32))), (0, .ref (b + o)), (1, .int a0), (2, .int x2)]) rfl ?_
    refine ws_goto cx dX10_fourOf_78 (tgt := 5) (by decide) ?_
    refine ws_sub [1, 2, 3, 0] (lv' := [(0, .ref (b + o)), (1, .int a0), (2, .int x2), (3, .int (x3 + (1 : Int32)))]) rfl ?_
    exact hk5 _ _ _ hM
  have J67 : ∀ (k5 : (ME × Int32 × Int32 → Option (Int32 × ME))), (∀ (me : ME) (x2 : Int32) (x3 : Int32), k5 (me, x2, x3) = some q → WS X b 5 S me 5 [(0, .ref (b + o)), (1, .int a0), (2, .int x2), (3, .int x3)] []) → ∀ (me : ME) (x3 : Int32) (x4 : Int32), mX10_fourOf_j67 S o a0 k5 me x3 x4 = some q → WS X b 5 S me 67 [(0, .ref (b + o)), (1, .int a0), (3, .int x3), (4, .int x4)] [] := by
    intro k5 hk5 me x3 x4 hM
    unfold mX10_fourOf_j67 at hM
    refine ws_iload_n cx dX10_fourOf_67 rfl (j := 2) rfl ?_
    refine ws_istore_n cx dX10_fourOf_68 rfl (by decide) (lv' := [(2, .int x3), (0, .ref (b + o)), (1, .int a0), (3, .int x3), (4, .int x4)]) rfl ?_
    refine ws_aload_n cx dX10_fourOf_69 rfl (j := 1) rfl ?_
    refine ws_iload cx dX10_fourOf_70 (j := 4) rfl ?_
    obtain ⟨m2, h1, hM⟩ := bnd hM
    refine ws_putI cx ffX10_219 h1 dX10_fourOf_72 ?_
    refine ws_sub [1, 2, 0, 3] (lv' := [(0, .ref (b + o)), (1, .int a0), (2, .int x3), (3, .int x3)]) rfl ?_
    exact J75 _ hk5 _ _ _ hM
  have J81 : ∀ (me : ME) (x2 : Int32), mX10_fourOf_j81 S o a0 me x2 = some q → WS X b 5 S me 81 [(2, .int x2)] [] := by
    intro  me x2 hM
    unfold mX10_fourOf_j81 at hM
    refine ws_iload_n cx dX10_fourOf_81 rfl (j := 0) rfl ?_
    exact ws_iretM cx ex hM dX10_fourOf_82
  have L5 : ∀ (n : Nat) (me : ME) (x2 : Int32) (x3 : Int32), lpn (mX10_fourOf_L5 S o a0) n (me, x2, x3) = some q → WS X b 5 S me 5 [(0, .ref (b + o)), (1, .int a0), (2, .int x2), (3, .int x3)] [] := by
    intro  n
    induction n with
    | zero => intro me x2 x3 hM; exact absurd hM (by intro h; cases h)
    | succ n ih =>
      intro me x2 x3 hM
      have hM : mX10_fourOf_L5 S o a0 (lpn (mX10_fourOf_L5 S o a0) n) (me, x2, x3) = some q := hM
      unfold mX10_fourOf_L5 at hM
      refine ws_iload_n cx dX10_fourOf_5 rfl (j := 3) rfl ?_
      refine ws_iconst cx dX10_fourOf_6 (v := 1) (by decide) ?_
      refine ws_aload_n cx dX10_fourOf_7 rfl (j := 0) rfl ?_
      obtain ⟨v3, h4, hM⟩ := bnd hM
      refine ws_getR cx ffX10_16 h4 dX10_fourOf_8 ?_
      refine ws_iconst cx dX10_fourOf_11 (v := 0) (by decide) ?_
      obtain ⟨v5, h6, hM⟩ := bnd hM
      refine ws_iald cx h6 dX10_fourOf_12 ?_
      refine ws_ishl cx dX10_fourOf_13 ?_
      refine ws_icmp_ge cx dX10_fourOf_14 (tgt := 81) (by decide) (fun c7 => ?_) (fun c7 => ?_)
      · have hM := if_t hM c7
        refine ws_sub [2] (lv' := [(2, .int x2)]) rfl ?_
        exact J81 _ _ hM
      · have hM := if_f hM c7
        refine ws_iload_n cx dX10_fourOf_17 rfl (j := 3) rfl ?_
        obtain ⟨q8, h9, hM⟩ := bnd hM
        refine ws_callS cx (rest := []) (st' := [.int q8.1]) (kX10_bits l D b h9) mvX10_bits lkX10_210 rfl ⟨by decide, by decide⟩ (Nat.le_of_ble_eq_true rfl) ⟨rfl, rfl⟩ (Or.inl ⟨rfl, rfl⟩) rfl rfl dX10_fourOf_18 ?_
        refine ws_iconst cx dX10_fourOf_21 (v := 4) (by decide) ?_
        refine ws_icmp_ne cx dX10_fourOf_22 (tgt := 75) (by decide) (fun c10 => ?_) (fun c10 => ?_)
        · have hM := if_f hM c10
          refine ws_sub [0, 1, 2, 3] (lv' := [(0, .ref (b + o)), (1, .int a0), (2, .int x2), (3, .int x3)]) rfl ?_
          exact J75 _ ih _ _ _ hM
        · have hM := if_t hM c10
          refine ws_iload_n cx dX10_fourOf_25 rfl (j := 3) rfl ?_
          refine ws_iload_n cx dX10_fourOf_26 rfl (j := 1) rfl ?_
          refine ws_iand cx dX10_fourOf_27 ?_
          refine ws_iload_n cx dX10_fourOf_28 rfl (j := 3) rfl ?_
          refine ws_icmp_ne cx dX10_fourOf_29 (tgt := 75) (by decide) (fun c11 => ?_) (fun c11 => ?_)
          · have hM := if_f hM c11
            refine ws_sub [0, 1, 2, 3] (lv' := [(0, .ref (b + o)), (1, .int a0), (2, .int x2), (3, .int x3)]) rfl ?_
            exact J75 _ ih _ _ _ hM
          · have hM := if_t hM c11
            refine ws_aload_n cx dX10_fourOf_32 rfl (j := 0) rfl ?_
            refine ws_iload_n cx dX10_fourOf_33 rfl (j := 3) rfl ?_
            obtain ⟨_, h14, hM⟩ := bnd hM
            obtain ⟨q12, h13, hM⟩ := bnd hM
            refine ws_callV cx (rest := []) (st' := [.int q12.1]) (kX10_rankOf l D b h13) mvX10_rankOf (ck_k h14) (by decide) (q := (RX10, TX10, 31)) rfl seX10_rankOf lkX10_191 rfl ⟨by decide, by decide⟩ (Nat.le_of_ble_eq_true rfl) ⟨rfl, rfl⟩ (Or.inl ⟨rfl, rfl⟩) rfl rfl dX10_fourOf_34 ?_
            refine ws_iconst cx dX10_fourOf_37 (v := 3) (by decide) ?_
            refine ws_icmp_ne cx dX10_fourOf_38 (tgt := 75) (by decide) (fun c15 => ?_) (fun c15 => ?_)
            · have hM := if_f hM c15
              refine ws_sub [0, 1, 2, 3] (lv' := [(0, .ref (b + o)), (1, .int a0), (2, .int x2), (3, .int x3)]) rfl ?_
              exact J75 _ ih _ _ _ hM
            · have hM := if_t hM c15
              refine ws_aload_n cx dX10_fourOf_41 rfl (j := 0) rfl ?_
              obtain ⟨_, h18, hM⟩ := bnd hM
              obtain ⟨q16, h17, hM⟩ := bnd hM
              refine ws_callV cx (rest := []) (st' := []) (kX10_solves l D b h17) mvX10_solves (ck_k h18) (by decide) (q := (RX10, TX10, 31)) rfl seX10_solves lkX10_197 rfl ⟨by decide, by decide⟩ (Nat.le_of_ble_eq_true rfl) ⟨rfl, rfl⟩ (Or.inl ⟨rfl, rfl⟩) rfl rfl dX10_fourOf_42 ?_
              refine ws_aload_n cx dX10_fourOf_45 rfl (j := 0) rfl ?_
              refine ws_iload_n cx dX10_fourOf_46 rfl (j := 1) rfl ?_
              obtain ⟨_, h21, hM⟩ := bnd hM
              obtain ⟨q19, h20, hM⟩ := bnd hM
              refine ws_callV cx (rest := []) (st' := [.int q19.1]) (kX10_worstOf l D b h20) mvX10_worstOf (ck_k h21) (by decide) (q := (RX10, TX10, 31)) rfl seX10_worstOf lkX10_216 rfl ⟨by decide, by decide⟩ (Nat.le_of_ble_eq_true rfl) ⟨rfl, rfl⟩ (Or.inl ⟨rfl, rfl⟩) rfl rfl dX10_fourOf_47 ?_
              refine ws_istore cx dX10_fourOf_50 (by decide) (lv' := [(4, .int q19.1), (0, .ref (b + o)), (1, .int a0), (2, .int x2), (3, .int x3)]) rfl ?_
              refine ws_iload_n cx dX10_fourOf_52 rfl (j := 3) rfl ?_
              refine ws_bipush cx dX10_fourOf_53 (v := -9) (by decide) ?_
              refine ws_icmp_eq cx dX10_fourOf_55 (tgt := 67) (by decide) (fun c22 => ?_) (fun c22 => ?_)
              · have hM := if_t hM c22
                refine ws_sub [1, 2, 4, 0] (lv' := [(0, .ref (b + o)), (1, .int a0), (3, .int x3), (4, .int q19.1)]) rfl ?_
                exact J67 _ ih _ _ _ hM
              · have hM := if_f hM c22
                refine ws_iload cx dX10_fourOf_58 (j := 0) rfl ?_
                refine ws_aload_n cx dX10_fourOf_60 rfl (j := 1) rfl ?_
                obtain ⟨v23, h24, hM⟩ := bnd hM
                refine ws_getI cx ffX10_219 h24 dX10_fourOf_61 ?_
                refine ws_icmp_ge cx dX10_fourOf_64 (tgt := 75) (by decide) (fun c25 => ?_) (fun c25 => ?_)
                · have hM := if_t hM c25
                  refine ws_sub [1, 2, 3, 4] (lv' := [(0, .ref (b + o)), (1, .int a0), (2, .int x2), (3, .int x3)]) rfl ?_
                  exact J75 _ ih _ _ _ hM
                · have hM := if_f hM c25
                  refine ws_sub [1, 2, 4, 0] (lv' := [(0, .ref (b + o)), (1, .int a0), (3, .int x3), (4, .int q19.1)]) rfl ?_
                  exact J67 _ ih _ _ _ hM
  unfold mX10_fourOf at hM
  refine ws_bipush cx dX10_fourOf_0 (v := -9) (by decide) ?_
  refine ws_istore_n cx dX10_fourOf_2 rfl (by decide) (lv' := [(2, .int (-9 : Int32)), (0, .ref (b + o)), (1, .int a0)]) rfl ?_
  refine ws_iconst cx dX10_fourOf_3 (v := 0) (by decide) ?_
  refine ws_istore_n cx dX10_fourOf_4 rfl (by decide) (lv' := [(3, .int (0 : Int32)), (2, .int (-9 : Int32)), (0, .ref (b + o)), (1, .int a0)]) rfl ?_
  refine ws_sub [2, 3, 1, 0] (lv' := [(0, .ref (b + o)), (1, .int a0), (2, .int (-9 : Int32)), (3, .int (0 : Int32))]) rfl ?_
  exact L5 _ _ _ _ hM

def mX10_root_j28 (S : SH) (a0 : Int32) (me : ME) (y0 : Int32) : Option (Int32 × ME) :=
  some (y0, me)
def mX10_root_j15 (S : SH) (a0 : Int32) (me : ME) (x1 : Int32) : Option (Int32 × ME) :=
  if (x1 * x1) = a0 then
    mX10_root_j28 S a0 me x1
  else
    mX10_root_j28 S a0 me (-9 : Int32)
def mX10_root_L2 (S : SH) (a0 : Int32) (k2 : (ME × Int32 → Option (Int32 × ME))) : ME × Int32 → Option (Int32 × ME)
  | (me, x1) =>
    if a0 ≤ (x1 * x1) then
      mX10_root_j15 S a0 me x1
    else
      k2 (me, x1 + (1 : Int32))
def mX10_root (S : SH) (me : ME) (a0 : Int32) : Option (Int32 × ME) :=
  lpn (mX10_root_L2 S a0) lpF (me, (0 : Int32))
set_option maxRecDepth 100000 in
set_option maxHeartbeats 4000000 in
theorem kX10_root (l : Launch) (D : va_G) (b : Nat) {S : SH} {me : ME} {a0 : Int32} {q : Int32 × ME} (hM : mX10_root S me a0 = some q) : Ct l D b yX10_root cX10_root 2 (some .int) 0 0 0 0 [.int a0] S me S q.2 (some (.int q.1)) := by
  refine ct_of (own := RX10) (nm := "root") (lv := [(0, .int a0)]) (plainFor_of_name (by decide)) rfl rfl (Nat.le_of_ble_eq_true rfl) rfl ⟨rfl, rfl⟩ (fun X cx ex hL => ?_)
  have J28 : ∀ (me : ME) (y0 : Int32), mX10_root_j28 S a0 me y0 = some q → WS X b 2 S me 28 [] [.int y0] := by
    intro  me y0 hM
    unfold mX10_root_j28 at hM
    exact ws_iretM cx ex hM dX10_root_28
  have J15 : ∀ (me : ME) (x1 : Int32), mX10_root_j15 S a0 me x1 = some q → WS X b 2 S me 15 [(0, .int a0), (1, .int x1)] [] := by
    intro  me x1 hM
    unfold mX10_root_j15 at hM
    refine ws_iload_n cx dX10_root_15 rfl (j := 1) rfl ?_
    refine ws_iload_n cx dX10_root_16 rfl (j := 1) rfl ?_
    refine ws_imul cx dX10_root_17 ?_
    refine ws_iload_n cx dX10_root_18 rfl (j := 0) rfl ?_
    refine ws_icmp_ne cx dX10_root_19 (tgt := 26) (by decide) (fun c1 => ?_) (fun c1 => ?_)
    · have hM := if_f hM c1
      refine ws_bipush cx dX10_root_26 (v := -9) (by decide) ?_
      refine ws_sub [] (lv' := []) rfl ?_
      exact J28 _ _ hM
    · have hM := if_t hM c1
      refine ws_iload_n cx dX10_root_22 rfl (j := 1) rfl ?_
      refine ws_goto cx dX10_root_23 (tgt := 28) (by decide) ?_
      refine ws_sub [] (lv' := []) rfl ?_
      exact J28 _ _ hM
  have L2 : ∀ (n : Nat) (me : ME) (x1 : Int32), lpn (mX10_root_L2 S a0) n (me, x1) = some q → WS X b 2 S me 2 [(0, .int a0), (1, .int x1)] [] := by
    intro  n
    induction n with
    | zero => intro me x1 hM; exact absurd hM (by intro h; cases h)
    | succ n ih =>
      intro me x1 hM
      have hM : mX10_root_L2 S a0 (lpn (mX10_root_L2 S a0) n) (me, x1) = some q := hM
      unfold mX10_root_L2 at hM
      refine ws_iload_n cx dX10_root_2 rfl (j := 1) rfl ?_
      refine ws_iload_n cx dX10_root_3 rfl (j := 1) rfl ?_
      refine ws_imul cx dX10_root_4 ?_
      refine ws_iload_n cx dX10_root_5 rfl (j := 0) rfl ?_
      refine ws_icmp_ge cx dX10_root_6 (tgt := 15) (by decide) (fun c2 => ?_) (fun c2 => ?_)
      · have hM := if_t hM c2
        refine ws_sub [0, 1] (lv' := [(0, .int a0), (1, .int x1)]) rfl ?_
        exact J15 _ _ hM
      · have hM := if_f hM c2
        refine ws_iinc cx dX10_root_9 (j := 1) rfl (v := x1 + (1 : Int32)) rfl (by decide) (lv' := [(1, .int (x1 + (1 : Int32))), (0, .int a0)]) rfl ?_
        refine ws_goto cx dX10_root_12 (tgt := 2) (by decide) ?_
        refine ws_sub [1, 0] (lv' := [(0, .int a0), (1, .int (x1 + (1 : Int32)))]) rfl ?_
        exact ih _ _ hM
  unfold mX10_root at hM
  refine ws_iconst cx dX10_root_0 (v := 0) (by decide) ?_
  refine ws_istore_n cx dX10_root_1 rfl (by decide) (lv' := [(1, .int (0 : Int32)), (0, .int a0)]) rfl ?_
  refine ws_sub [1, 0] (lv' := [(0, .int a0), (1, .int (0 : Int32))]) rfl ?_
  exact L2 _ _ _ hM

def mX10_layCan_j185 (S : SH) (o : Nat) (a0 : Int32) (k19 : (ME × Int32 × Int32 → Option (Unit × ME))) (k104 : (ME × Int32 × Int32 × Int32 × Int32 × Int32 × Int32 × Int32 → Option (Unit × ME))) (me : ME) (x2 : Int32) (x3 : Int32) (x4 : Int32) (x5 : Int32) (x7 : Int32) (x9 : Int32) (y0 : Int32) : Option (Unit × ME) :=
  k104 (me, x2, x3, x4, x5, x7, y0, x9 + (1 : Int32))
def mX10_layCan_j180 (S : SH) (o : Nat) (a0 : Int32) (k19 : (ME × Int32 × Int32 → Option (Unit × ME))) (k104 : (ME × Int32 × Int32 × Int32 × Int32 × Int32 × Int32 × Int32 → Option (Unit × ME))) (me : ME) (x2 : Int32) (x3 : Int32) (x4 : Int32) (x5 : Int32) (x7 : Int32) (x9 : Int32) : Option (Unit × ME) :=
  mX10_layCan_j185 S o a0 k19 k104 me x2 x3 x4 x5 x7 x9 (1 : Int32)
def mX10_layCan_j184 (S : SH) (o : Nat) (a0 : Int32) (k19 : (ME × Int32 × Int32 → Option (Unit × ME))) (k104 : (ME × Int32 × Int32 × Int32 × Int32 × Int32 × Int32 × Int32 → Option (Unit × ME))) (me : ME) (x2 : Int32) (x3 : Int32) (x4 : Int32) (x5 : Int32) (x7 : Int32) (x9 : Int32) : Option (Unit × ME) :=
  mX10_layCan_j185 S o a0 k19 k104 me x2 x3 x4 x5 x7 x9 (0 : Int32)
def mX10_layCan_j246 (S : SH) (o : Nat) (a0 : Int32) (k19 : (ME × Int32 × Int32 → Option (Unit × ME))) (me : ME) (x2 : Int32) (x3 : Int32) (y0 : Nat) (y1 : Int32) (y2 : Int32) : Option (Unit × ME) :=
  (sI S me 10 29 y0 (y1 + y2)).bind fun m2 =>
  k19 (m2, x2, x3 + (1 : Int32))
def mX10_layCan_j228 (S : SH) (o : Nat) (a0 : Int32) (k19 : (ME × Int32 × Int32 → Option (Unit × ME))) (me : ME) (x2 : Int32) (x3 : Int32) (x8 : Int32) (y0 : Nat) (y1 : Int32) : Option (Unit × ME) :=
  (sI S me 10 30 y0 y1).bind fun m4 =>
  (gI S m4 10 29 o).bind fun v5 =>
  if x8 = 0 then
    mX10_layCan_j246 S o a0 k19 m4 x2 x3 o v5 (0 : Int32)
  else
    mX10_layCan_j246 S o a0 k19 m4 x2 x3 o v5 (1 : Int32)
def mX10_layCan_j224 (S : SH) (o : Nat) (a0 : Int32) (k19 : (ME × Int32 × Int32 → Option (Unit × ME))) (me : ME) (x2 : Int32) (x3 : Int32) (x8 : Int32) (y0 : Nat) : Option (Unit × ME) :=
  (gI S me 10 30 o).bind fun v8 =>
  mX10_layCan_j228 S o a0 k19 me x2 x3 x8 y0 v8
def mX10_layCan_j193 (S : SH) (o : Nat) (a0 : Int32) (k19 : (ME × Int32 × Int32 → Option (Unit × ME))) (me : ME) (x2 : Int32) (x3 : Int32) (x4 : Int32) (x5 : Int32) (x7 : Int32) (x8 : Int32) : Option (Unit × ME) :=
  if x8 = 0 then
    mX10_layCan_j224 S o a0 k19 me x2 x3 x8 o
  else
    (gI S me 10 29 o).bind fun v11 =>
    if v11 = 0 then
      mX10_layCan_j228 S o a0 k19 me x2 x3 x8 o ((((10000 : Int32) * x4) + ((100 : Int32) * x5)) + x7)
    else
      mX10_layCan_j224 S o a0 k19 me x2 x3 x8 o
def mX10_layCan_L104 (S : SH) (o : Nat) (a0 : Int32) (k19 : (ME × Int32 × Int32 → Option (Unit × ME))) (k104 : (ME × Int32 × Int32 × Int32 × Int32 × Int32 × Int32 × Int32 → Option (Unit × ME))) : ME × Int32 × Int32 × Int32 × Int32 × Int32 × Int32 × Int32 → Option (Unit × ME)
  | (me, x2, x3, x4, x5, x7, x8, x9) =>
    (gR S 10 3 o).bind fun v14 =>
    (aI S me 11 v14 (0 : Int32)).bind fun v16 =>
    if v16 ≤ x9 then
      mX10_layCan_j193 S o a0 k19 me x2 x3 x4 x5 x7 x8
    else
      if x8 = 0 then
        mX10_layCan_j193 S o a0 k19 me x2 x3 x4 x5 x7 x8
      else
        (mX10_has S me a0 x9).bind fun q20 =>
        if q20.1 = 0 then
          mX10_layCan_j180 S o a0 k19 k104 q20.2 x2 x3 x4 x5 x7 x9
        else
          (ck S 10 o).bind fun _ => (mX10_timeOf S q20.2 o x9).bind fun q23 =>
          if q23.1 < x7 then
            mX10_layCan_j184 S o a0 k19 k104 q23.2 x2 x3 x4 x5 x7 x9
          else
            (ck S 10 o).bind fun _ => (mX10_xOf S q23.2 o x9).bind fun q27 =>
            (mX10_square S q27.2 (x4 - q27.1)).bind fun q30 =>
            (ck S 10 o).bind fun _ => (mX10_yOf S q30.2 o x9).bind fun q32 =>
            (mX10_square S q32.2 (x5 - q32.1)).bind fun q35 =>
            (ck S 10 o).bind fun _ => (mX10_timeOf S q35.2 o x9).bind fun q37 =>
            (mX10_square S q37.2 (q37.1 - x7)).bind fun q40 =>
            if (q30.1 + q35.1) = q40.1 then
              mX10_layCan_j180 S o a0 k19 k104 q40.2 x2 x3 x4 x5 x7 x9
            else
              mX10_layCan_j184 S o a0 k19 k104 q40.2 x2 x3 x4 x5 x7 x9
def mX10_layCan_j99 (S : SH) (o : Nat) (a0 : Int32) (k19 : (ME × Int32 × Int32 → Option (Unit × ME))) (me : ME) (x2 : Int32) (x3 : Int32) (x4 : Int32) (x5 : Int32) (x7 : Int32) (y0 : Int32) : Option (Unit × ME) :=
  lpn (mX10_layCan_L104 S o a0 k19) lpF (me, x2, x3, x4, x5, x7, y0, (0 : Int32))
def mX10_layCan_j98 (S : SH) (o : Nat) (a0 : Int32) (k19 : (ME × Int32 × Int32 → Option (Unit × ME))) (me : ME) (x2 : Int32) (x3 : Int32) (x4 : Int32) (x5 : Int32) (x7 : Int32) : Option (Unit × ME) :=
  mX10_layCan_j99 S o a0 k19 me x2 x3 x4 x5 x7 (0 : Int32)
def mX10_layCan_j256 (S : SH) (o : Nat) (a0 : Int32) (me : ME) : Option (Unit × ME) :=
  some ((), me)
def mX10_layCan_L19 (S : SH) (o : Nat) (a0 : Int32) (k19 : (ME × Int32 × Int32 → Option (Unit × ME))) : ME × Int32 × Int32 → Option (Unit × ME)
  | (me, x2, x3) =>
    if (900 : Int32) ≤ x3 then
      mX10_layCan_j256 S o a0 me
    else
      (ck S 10 o).bind fun _ => (mX10_xOf S me o x2).bind fun q44 =>
      (mX10_square S q44.2 ((x3 / (30 : Int32)) - q44.1)).bind fun q47 =>
      (ck S 10 o).bind fun _ => (mX10_yOf S q47.2 o x2).bind fun q49 =>
      (mX10_square S q49.2 ((x3 - x3 / (30 : Int32) * (30 : Int32)) - q49.1)).bind fun q52 =>
      (mX10_root S q52.2 (q47.1 + q52.1)).bind fun q54 =>
      (ck S 10 o).bind fun _ => (mX10_timeOf S q54.2 o x2).bind fun q56 =>
      if q54.1 = (-9 : Int32) then
        mX10_layCan_j98 S o a0 k19 q56.2 x2 x3 (x3 / (30 : Int32)) (x3 - x3 / (30 : Int32) * (30 : Int32)) (q56.1 - q54.1)
      else
        (mX10_in S q56.2 (q56.1 - q54.1) (0 : Int32) (60 : Int32)).bind fun q60 =>
        if q60.1 = 0 then
          mX10_layCan_j98 S o a0 k19 q60.2 x2 x3 (x3 / (30 : Int32)) (x3 - x3 / (30 : Int32) * (30 : Int32)) (q56.1 - q54.1)
        else
          mX10_layCan_j99 S o a0 k19 q60.2 x2 x3 (x3 / (30 : Int32)) (x3 - x3 / (30 : Int32) * (30 : Int32)) (q56.1 - q54.1) (1 : Int32)
def mX10_layCan (S : SH) (me : ME) (o : Nat) (a0 : Int32) : Option (Unit × ME) :=
  (sI S me 10 29 o (0 : Int32)).bind fun m64 =>
  (sI S m64 10 30 o (-9 : Int32)).bind fun m66 =>
  (ck S 10 o).bind fun _ => (mX10_firstOf S m66 o a0).bind fun q67 =>
  lpn (mX10_layCan_L19 S o a0) lpF (q67.2, q67.1, (0 : Int32))
set_option maxRecDepth 100000 in
set_option maxHeartbeats 4000000 in
theorem kX10_layCan (l : Launch) (D : va_G) (b : Nat) {S : SH} {me : ME} {o : Nat} {a0 : Int32} {q : Unit × ME} (hM : mX10_layCan S me o a0 = some q) : Ct l D b yX10_layCan cX10_layCan 10 none 2 43 0 0 [.ref (b + o), .int a0] S me S q.2 none := by
  refine ct_of (own := RX10) (nm := "layCan") (lv := [(0, .ref (b + o)), (1, .int a0)]) (plainFor_of_name (by decide)) rfl rfl (Nat.le_of_ble_eq_true rfl) rfl ⟨rfl, rfl⟩ (fun X cx ex hL => ?_)
  have J185 : ∀ (k19 : (ME × Int32 × Int32 → Option (Unit × ME))), (∀ (me : ME) (x2 : Int32) (x3 : Int32), k19 (me, x2, x3) = some q → WS X b 10 S me 19 [(0, .ref (b + o)), (1, .int a0), (2, .int x2), (3, .int x3)] []) → ∀ (k104 : (ME × Int32 × Int32 × Int32 × Int32 × Int32 × Int32 × Int32 → Option (Unit × ME))), (∀ (me : ME) (x2 : Int32) (x3 : Int32) (x4 : Int32) (x5 : Int32) (x7 : Int32) (x8 : Int32) (x9 : Int32), k104 (me, x2, x3, x4, x5, x7, x8, x9) = some q → WS X b 10 S me 104 [(0, .ref (b + o)), (1, .int a0), (2, .int x2), (3, .int x3), (4, .int x4), (5, .int x5), (7, .int x7), (8, .int x8), (9, .int x9)] []) → ∀ (me : ME) (x2 : Int32) (x3 : Int32) (x4 : Int32) (x5 : Int32) (x7 : Int32) (x9 : Int32) (y0 : Int32), mX10_layCan_j185 S o a0 k19 k104 me x2 x3 x4 x5 x7 x9 y0 = some q → WS X b 10 S me 185 [(0, .ref (b + o)), (1, .int a0), (2, .int x2), (3, .int x3), (4, .int x4), (5, .int x5), (7, .int x7), (9, .int x9)] [.int y0] := by
    intro k19 hk19 k104 hk104 me x2 x3 x4 x5 x7 x9 y0 hM
    unfold mX10_layCan_j185 at hM
    refine ws_istore cx dX10_layCan_185 (by decide) (lv' := [(8, .int y0), (0, .ref (b + o)), (1, .int a0), (2, .int x2), (3, .int x3), (4, .int x4), (5, .int x5), (7, .int x7), (9, .int x9)]) rfl ?_
    refine ws_iinc cx dX10_layCan_187 (j := 8) rfl (v := x9 + (1 : Int32)) rfl (by decide) (lv' := [(9, .int (x9 + (1 : Int32))), (8, .int y0), (0, .ref (b + o)), (1, .int a0), (2, .int x2), (3, .int x3), (4, .int x4), (5, .int x5), (7, .int x7)]) rfl ?_
    refine ws_goto cx dX10_layCan_190 (tgt := 104) (by decide) ?_
    refine ws_sub [2, 3, 4, 5, 6, 7, 8, 1, 0] (lv' := [(0, .ref (b + o)), (1, .int a0), (2, .int x2), (3, .int x3), (4, .int x4), (5, .int x5), (7, .int x7), (8, .int y0), (9, .int (x9 + (1 : Int32)))]) rfl ?_
    exact hk104 _ _ _ _ _ _ _ _ hM
  have J180 : ∀ (k19 : (ME × Int32 × Int32 → Option (Unit × ME))), (∀ (me : ME) (x2 : Int32) (x3 : Int32), k19 (me, x2, x3) = some q → WS X b 10 S me 19 [(0, .ref (b + o)), (1, .int a0), (2, .int x2), (3, .int x3)] []) → ∀ (k104 : (ME × Int32 × Int32 × Int32 × Int32 × Int32 × Int32 × Int32 → Option (Unit × ME))), (∀ (me : ME) (x2 : Int32) (x3 : Int32) (x4 : Int32) (x5 : Int32) (x7 : Int32) (x8 : Int32) (x9 : Int32), k104 (me, x2, x3, x4, x5, x7, x8, x9) = some q → WS X b 10 S me 104 [(0, .ref (b + o)), (1, .int a0), (2, .int x2), (3, .int x3), (4, .int x4), (5, .int x5), (7, .int x7), (8, .int x8), (9, .int x9)] []) → ∀ (me : ME) (x2 : Int32) (x3 : Int32) (x4 : Int32) (x5 : Int32) (x7 : Int32) (x9 : Int32), mX10_layCan_j180 S o a0 k19 k104 me x2 x3 x4 x5 x7 x9 = some q → WS X b 10 S me 180 [(0, .ref (b + o)), (1, .int a0), (2, .int x2), (3, .int x3), (4, .int x4), (5, .int x5), (7, .int x7), (9, .int x9)] [] := by
    intro k19 hk19 k104 hk104 me x2 x3 x4 x5 x7 x9 hM
    unfold mX10_layCan_j180 at hM
    refine ws_iconst cx dX10_layCan_180 (v := 1) (by decide) ?_
    refine ws_goto cx dX10_layCan_181 (tgt := 185) (by decide) ?_
    refine ws_sub [0, 1, 2, 3, 4, 5, 6, 7] (lv' := [(0, .ref (b + o)), (1, .int a0), (2, .int x2), (3, .int x3), (4, .int x4), (5, .int x5), (7, .int x7), (9, .int x9)]) rfl ?_
    exact J185 _ hk19 _ hk104 _ _ _ _ _ _ _ _ hM
  have J184 : ∀ (k19 : (ME × Int32 × Int32 → Option (Unit × ME))), (∀ (me : ME) (x2 : Int32) (x3 : Int32), k19 (me, x2, x3) = some q → WS X b 10 S me 19 [(0, .ref (b + o)), (1, .int a0), (2, .int x2), (3, .int x3)] []) → ∀ (k104 : (ME × Int32 × Int32 × Int32 × Int32 × Int32 × Int32 × Int32 → Option (Unit × ME))), (∀ (me : ME) (x2 : Int32) (x3 : Int32) (x4 : Int32) (x5 : Int32) (x7 : Int32) (x8 : Int32) (x9 : Int32), k104 (me, x2, x3, x4, x5, x7, x8, x9) = some q → WS X b 10 S me 104 [(0, .ref (b + o)), (1, .int a0), (2, .int x2), (3, .int x3), (4, .int x4), (5, .int x5), (7, .int x7), (8, .int x8), (9, .int x9)] []) → ∀ (me : ME) (x2 : Int32) (x3 : Int32) (x4 : Int32) (x5 : Int32) (x7 : Int32) (x9 : Int32), mX10_layCan_j184 S o a0 k19 k104 me x2 x3 x4 x5 x7 x9 = some q → WS X b 10 S me 184 [(0, .ref (b + o)), (1, .int a0), (2, .int x2), (3, .int x3), (4, .int x4), (5, .int x5), (7, .int x7), (9, .int x9)] [] := by
    intro k19 hk19 k104 hk104 me x2 x3 x4 x5 x7 x9 hM
    unfold mX10_layCan_j184 at hM
    refine ws_iconst cx dX10_layCan_184 (v := 0) (by decide) ?_
    refine ws_sub [0, 1, 2, 3, 4, 5, 6, 7] (lv' := [(0, .ref (b + o)), (1, .int a0), (2, .int x2), (3, .int x3), (4, .int x4), (5, .int x5), (7, .int x7), (9, .int x9)]) rfl ?_
    exact J185 _ hk19 _ hk104 _ _ _ _ _ _ _ _ hM
  have J246 : ∀ (k19 : (ME × Int32 × Int32 → Option (Unit × ME))), (∀ (me : ME) (x2 : Int32) (x3 : Int32), k19 (me, x2, x3) = some q → WS X b 10 S me 19 [(0, .ref (b + o)), (1, .int a0), (2, .int x2), (3, .int x3)] []) → ∀ (me : ME) (x2 : Int32) (x3 : Int32) (y0 : Nat) (y1 : Int32) (y2 : Int32), mX10_layCan_j246 S o a0 k19 me x2 x3 y0 y1 y2 = some q → WS X b 10 S me 246 [(0, .ref (b + o)), (1, .int a0), (2, .int x2), (3, .int x3)] [.int y2, .int y1, .ref (b + y0)] := by
    intro k19 hk19 me x2 x3 y0 y1 y2 hM
    unfold mX10_layCan_j246 at hM
    refine ws_iadd cx dX10_layCan_246 ?_
    obtain ⟨m2, h1, hM⟩ := bnd hM
    refine ws_putI cx ffX10_222 h1 dX10_layCan_247 ?_
    refine ws_iinc cx dX10_layCan_250 (j := 3) rfl (v := x3 + (1 : Int32)) rfl (by decide) (lv' := [(3, .int (x3 + (1 : Int32))), (0, .ref (b + o)), (1, .int a0), (2, .int x2)]) rfl ?_
    refine ws_goto cx dX10_layCan_253 (tgt := 19) (by decide) ?_
    refine ws_sub [1, 2, 3, 0] (lv' := [(0, .ref (b + o)), (1, .int a0), (2, .int x2), (3, .int (x3 + (1 : Int32)))]) rfl ?_
    exact hk19 _ _ _ hM
  have J228 : ∀ (k19 : (ME × Int32 × Int32 → Option (Unit × ME))), (∀ (me : ME) (x2 : Int32) (x3 : Int32), k19 (me, x2, x3) = some q → WS X b 10 S me 19 [(0, .ref (b + o)), (1, .int a0), (2, .int x2), (3, .int x3)] []) → ∀ (me : ME) (x2 : Int32) (x3 : Int32) (x8 : Int32) (y0 : Nat) (y1 : Int32), mX10_layCan_j228 S o a0 k19 me x2 x3 x8 y0 y1 = some q → WS X b 10 S me 228 [(0, .ref (b + o)), (1, .int a0), (2, .int x2), (3, .int x3), (8, .int x8)] [.int y1, .ref (b + y0)] := by
    intro k19 hk19 me x2 x3 x8 y0 y1 hM
    unfold mX10_layCan_j228 at hM
    obtain ⟨m4, h3, hM⟩ := bnd hM
    refine ws_putI cx ffX10_225 h3 dX10_layCan_228 ?_
    refine ws_aload_n cx dX10_layCan_231 rfl (j := 0) rfl ?_
    refine ws_dup cx dX10_layCan_232 rfl ?_
    obtain ⟨v5, h6, hM⟩ := bnd hM
    refine ws_getI cx ffX10_222 h6 dX10_layCan_233 ?_
    refine ws_iload cx dX10_layCan_236 (j := 4) rfl ?_
    refine ws_if_eq cx dX10_layCan_238 (tgt := 245) (by decide) (fun c7 => ?_) (fun c7 => ?_)
    · have hM := if_t hM c7
      refine ws_iconst cx dX10_layCan_245 (v := 0) (by decide) ?_
      refine ws_sub [0, 1, 2, 3] (lv' := [(0, .ref (b + o)), (1, .int a0), (2, .int x2), (3, .int x3)]) rfl ?_
      exact J246 _ hk19 _ _ _ _ _ _ hM
    · have hM := if_f hM c7
      refine ws_iconst cx dX10_layCan_241 (v := 1) (by decide) ?_
      refine ws_goto cx dX10_layCan_242 (tgt := 246) (by decide) ?_
      refine ws_sub [0, 1, 2, 3] (lv' := [(0, .ref (b + o)), (1, .int a0), (2, .int x2), (3, .int x3)]) rfl ?_
      exact J246 _ hk19 _ _ _ _ _ _ hM
  have J224 : ∀ (k19 : (ME × Int32 × Int32 → Option (Unit × ME))), (∀ (me : ME) (x2 : Int32) (x3 : Int32), k19 (me, x2, x3) = some q → WS X b 10 S me 19 [(0, .ref (b + o)), (1, .int a0), (2, .int x2), (3, .int x3)] []) → ∀ (me : ME) (x2 : Int32) (x3 : Int32) (x8 : Int32) (y0 : Nat), mX10_layCan_j224 S o a0 k19 me x2 x3 x8 y0 = some q → WS X b 10 S me 224 [(0, .ref (b + o)), (1, .int a0), (2, .int x2), (3, .int x3), (8, .int x8)] [.ref (b + y0)] := by
    intro k19 hk19 me x2 x3 x8 y0 hM
    unfold mX10_layCan_j224 at hM
    refine ws_aload_n cx dX10_layCan_224 rfl (j := 0) rfl ?_
    obtain ⟨v8, h9, hM⟩ := bnd hM
    refine ws_getI cx ffX10_225 h9 dX10_layCan_225 ?_
    refine ws_sub [0, 1, 2, 3, 4] (lv' := [(0, .ref (b + o)), (1, .int a0), (2, .int x2), (3, .int x3), (8, .int x8)]) rfl ?_
    exact J228 _ hk19 _ _ _ _ _ _ hM
  have J193 : ∀ (k19 : (ME × Int32 × Int32 → Option (Unit × ME))), (∀ (me : ME) (x2 : Int32) (x3 : Int32), k19 (me, x2, x3) = some q → WS X b 10 S me 19 [(0, .ref (b + o)), (1, .int a0), (2, .int x2), (3, .int x3)] []) → ∀ (me : ME) (x2 : Int32) (x3 : Int32) (x4 : Int32) (x5 : Int32) (x7 : Int32) (x8 : Int32), mX10_layCan_j193 S o a0 k19 me x2 x3 x4 x5 x7 x8 = some q → WS X b 10 S me 193 [(0, .ref (b + o)), (1, .int a0), (2, .int x2), (3, .int x3), (4, .int x4), (5, .int x5), (7, .int x7), (8, .int x8)] [] := by
    intro k19 hk19 me x2 x3 x4 x5 x7 x8 hM
    unfold mX10_layCan_j193 at hM
    refine ws_aload_n cx dX10_layCan_193 rfl (j := 0) rfl ?_
    refine ws_iload cx dX10_layCan_194 (j := 7) rfl ?_
    refine ws_if_eq cx dX10_layCan_196 (tgt := 224) (by decide) (fun c10 => ?_) (fun c10 => ?_)
    · have hM := if_t hM c10
      refine ws_sub [0, 1, 2, 3, 7] (lv' := [(0, .ref (b + o)), (1, .int a0), (2, .int x2), (3, .int x3), (8, .int x8)]) rfl ?_
      exact J224 _ hk19 _ _ _ _ _ hM
    · have hM := if_f hM c10
      refine ws_aload_n cx dX10_layCan_199 rfl (j := 0) rfl ?_
      obtain ⟨v11, h12, hM⟩ := bnd hM
      refine ws_getI cx ffX10_222 h12 dX10_layCan_200 ?_
      refine ws_if_ne cx dX10_layCan_203 (tgt := 224) (by decide) (fun c13 => ?_) (fun c13 => ?_)
      · have hM := if_f hM c13
        refine ws_sub [0, 1, 2, 3, 7] (lv' := [(0, .ref (b + o)), (1, .int a0), (2, .int x2), (3, .int x3), (8, .int x8)]) rfl ?_
        exact J224 _ hk19 _ _ _ _ _ hM
      · have hM := if_t hM c13
        refine ws_sipush cx dX10_layCan_206 (v := 10000) (by decide) ?_
        refine ws_iload cx dX10_layCan_209 (j := 4) rfl ?_
        refine ws_imul cx dX10_layCan_211 ?_
        refine ws_bipush cx dX10_layCan_212 (v := 100) (by decide) ?_
        refine ws_iload cx dX10_layCan_214 (j := 5) rfl ?_
        refine ws_imul cx dX10_layCan_216 ?_
        refine ws_iadd cx dX10_layCan_217 ?_
        refine ws_iload cx dX10_layCan_218 (j := 6) rfl ?_
        refine ws_iadd cx dX10_layCan_220 ?_
        refine ws_goto cx dX10_layCan_221 (tgt := 228) (by decide) ?_
        refine ws_sub [0, 1, 2, 3, 7] (lv' := [(0, .ref (b + o)), (1, .int a0), (2, .int x2), (3, .int x3), (8, .int x8)]) rfl ?_
        exact J228 _ hk19 _ _ _ _ _ _ hM
  have L104 : ∀ (k19 : (ME × Int32 × Int32 → Option (Unit × ME))), (∀ (me : ME) (x2 : Int32) (x3 : Int32), k19 (me, x2, x3) = some q → WS X b 10 S me 19 [(0, .ref (b + o)), (1, .int a0), (2, .int x2), (3, .int x3)] []) → ∀ (n : Nat) (me : ME) (x2 : Int32) (x3 : Int32) (x4 : Int32) (x5 : Int32) (x7 : Int32) (x8 : Int32) (x9 : Int32), lpn (mX10_layCan_L104 S o a0 k19) n (me, x2, x3, x4, x5, x7, x8, x9) = some q → WS X b 10 S me 104 [(0, .ref (b + o)), (1, .int a0), (2, .int x2), (3, .int x3), (4, .int x4), (5, .int x5), (7, .int x7), (8, .int x8), (9, .int x9)] [] := by
    intro k19 hk19 n
    induction n with
    | zero => intro me x2 x3 x4 x5 x7 x8 x9 hM; exact absurd hM (by intro h; cases h)
    | succ n ih =>
      intro me x2 x3 x4 x5 x7 x8 x9 hM
      have hM : mX10_layCan_L104 S o a0 k19 (lpn (mX10_layCan_L104 S o a0 k19) n) (me, x2, x3, x4, x5, x7, x8, x9) = some q := hM
      unfold mX10_layCan_L104 at hM
      refine ws_iload cx dX10_layCan_104 (j := 8) rfl ?_
      refine ws_aload_n cx dX10_layCan_106 rfl (j := 0) rfl ?_
      obtain ⟨v14, h15, hM⟩ := bnd hM
      refine ws_getR cx ffX10_16 h15 dX10_layCan_107 ?_
      refine ws_iconst cx dX10_layCan_110 (v := 0) (by decide) ?_
      obtain ⟨v16, h17, hM⟩ := bnd hM
      refine ws_iald cx h17 dX10_layCan_111 ?_
      refine ws_icmp_ge cx dX10_layCan_112 (tgt := 193) (by decide) (fun c18 => ?_) (fun c18 => ?_)
      · have hM := if_t hM c18
        refine ws_sub [0, 1, 2, 3, 4, 5, 6, 7] (lv' := [(0, .ref (b + o)), (1, .int a0), (2, .int x2), (3, .int x3), (4, .int x4), (5, .int x5), (7, .int x7), (8, .int x8)]) rfl ?_
        exact J193 _ hk19 _ _ _ _ _ _ _ hM
      · have hM := if_f hM c18
        refine ws_iload cx dX10_layCan_115 (j := 7) rfl ?_
        refine ws_if_eq cx dX10_layCan_117 (tgt := 193) (by decide) (fun c19 => ?_) (fun c19 => ?_)
        · have hM := if_t hM c19
          refine ws_sub [0, 1, 2, 3, 4, 5, 6, 7] (lv' := [(0, .ref (b + o)), (1, .int a0), (2, .int x2), (3, .int x3), (4, .int x4), (5, .int x5), (7, .int x7), (8, .int x8)]) rfl ?_
          exact J193 _ hk19 _ _ _ _ _ _ _ hM
        · have hM := if_f hM c19
          refine ws_iload_n cx dX10_layCan_120 rfl (j := 1) rfl ?_
          refine ws_iload cx dX10_layCan_121 (j := 8) rfl ?_
          obtain ⟨q20, h21, hM⟩ := bnd hM
          refine ws_callS cx (rest := []) (st' := [.int q20.1]) (kX10_has l D b h21) mvX10_has lkX10_125 rfl ⟨by decide, by decide⟩ (Nat.le_of_ble_eq_true rfl) ⟨rfl, rfl⟩ (Or.inl ⟨rfl, rfl⟩) rfl rfl dX10_layCan_123 ?_
          refine ws_if_eq cx dX10_layCan_126 (tgt := 180) (by decide) (fun c22 => ?_) (fun c22 => ?_)
          · have hM := if_t hM c22
            refine ws_sub [0, 1, 2, 3, 4, 5, 6, 8] (lv' := [(0, .ref (b + o)), (1, .int a0), (2, .int x2), (3, .int x3), (4, .int x4), (5, .int x5), (7, .int x7), (9, .int x9)]) rfl ?_
            exact J180 _ hk19 _ ih _ _ _ _ _ _ _ hM
          · have hM := if_f hM c22
            refine ws_iload cx dX10_layCan_129 (j := 6) rfl ?_
            refine ws_aload_n cx dX10_layCan_131 rfl (j := 0) rfl ?_
            refine ws_iload cx dX10_layCan_132 (j := 8) rfl ?_
            obtain ⟨_, h25, hM⟩ := bnd hM
            obtain ⟨q23, h24, hM⟩ := bnd hM
            refine ws_callV cx (rest := [.int x7]) (st' := [.int q23.1, .int x7]) (kX10_timeOf l D b h24) mvX10_timeOf (ck_k h25) (by decide) (q := (RX10, TX10, 31)) rfl seX10_timeOf lkX10_110 rfl ⟨by decide, by decide⟩ (Nat.le_of_ble_eq_true rfl) ⟨rfl, rfl⟩ (Or.inl ⟨rfl, rfl⟩) rfl rfl dX10_layCan_134 ?_
            refine ws_icmp_gt cx dX10_layCan_137 (tgt := 184) (by decide) (fun c26 => ?_) (fun c26 => ?_)
            · have hM := if_t hM c26
              refine ws_sub [0, 1, 2, 3, 4, 5, 6, 8] (lv' := [(0, .ref (b + o)), (1, .int a0), (2, .int x2), (3, .int x3), (4, .int x4), (5, .int x5), (7, .int x7), (9, .int x9)]) rfl ?_
              exact J184 _ hk19 _ ih _ _ _ _ _ _ _ hM
            · have hM := if_f hM c26
              refine ws_iload cx dX10_layCan_140 (j := 4) rfl ?_
              refine ws_aload_n cx dX10_layCan_142 rfl (j := 0) rfl ?_
              refine ws_iload cx dX10_layCan_143 (j := 8) rfl ?_
              obtain ⟨_, h29, hM⟩ := bnd hM
              obtain ⟨q27, h28, hM⟩ := bnd hM
              refine ws_callV cx (rest := [.int x4]) (st' := [.int q27.1, .int x4]) (kX10_xOf l D b h28) mvX10_xOf (ck_k h29) (by decide) (q := (RX10, TX10, 31)) rfl seX10_xOf lkX10_116 rfl ⟨by decide, by decide⟩ (Nat.le_of_ble_eq_true rfl) ⟨rfl, rfl⟩ (Or.inl ⟨rfl, rfl⟩) rfl rfl dX10_layCan_145 ?_
              refine ws_isub cx dX10_layCan_148 ?_
              obtain ⟨q30, h31, hM⟩ := bnd hM
              refine ws_callS cx (rest := []) (st' := [.int q30.1]) (kX10_square l D b h31) mvX10_square lkX10_113 rfl ⟨by decide, by decide⟩ (Nat.le_of_ble_eq_true rfl) ⟨rfl, rfl⟩ (Or.inl ⟨rfl, rfl⟩) rfl rfl dX10_layCan_149 ?_
              refine ws_iload cx dX10_layCan_152 (j := 5) rfl ?_
              refine ws_aload_n cx dX10_layCan_154 rfl (j := 0) rfl ?_
              refine ws_iload cx dX10_layCan_155 (j := 8) rfl ?_
              obtain ⟨_, h34, hM⟩ := bnd hM
              obtain ⟨q32, h33, hM⟩ := bnd hM
              refine ws_callV cx (rest := [.int x5, .int q30.1]) (st' := [.int q32.1, .int x5, .int q30.1]) (kX10_yOf l D b h33) mvX10_yOf (ck_k h34) (by decide) (q := (RX10, TX10, 31)) rfl seX10_yOf lkX10_119 rfl ⟨by decide, by decide⟩ (Nat.le_of_ble_eq_true rfl) ⟨rfl, rfl⟩ (Or.inl ⟨rfl, rfl⟩) rfl rfl dX10_layCan_157 ?_
              refine ws_isub cx dX10_layCan_160 ?_
              obtain ⟨q35, h36, hM⟩ := bnd hM
              refine ws_callS cx (rest := [.int q30.1]) (st' := [.int q35.1, .int q30.1]) (kX10_square l D b h36) mvX10_square lkX10_113 rfl ⟨by decide, by decide⟩ (Nat.le_of_ble_eq_true rfl) ⟨rfl, rfl⟩ (Or.inl ⟨rfl, rfl⟩) rfl rfl dX10_layCan_161 ?_
              refine ws_iadd cx dX10_layCan_164 ?_
              refine ws_aload_n cx dX10_layCan_165 rfl (j := 0) rfl ?_
              refine ws_iload cx dX10_layCan_166 (j := 8) rfl ?_
              obtain ⟨_, h39, hM⟩ := bnd hM
              obtain ⟨q37, h38, hM⟩ := bnd hM
              refine ws_callV cx (rest := [.int (q30.1 + q35.1)]) (st' := [.int q37.1, .int (q30.1 + q35.1)]) (kX10_timeOf l D b h38) mvX10_timeOf (ck_k h39) (by decide) (q := (RX10, TX10, 31)) rfl seX10_timeOf lkX10_110 rfl ⟨by decide, by decide⟩ (Nat.le_of_ble_eq_true rfl) ⟨rfl, rfl⟩ (Or.inl ⟨rfl, rfl⟩) rfl rfl dX10_layCan_168 ?_
              refine ws_iload cx dX10_layCan_171 (j := 6) rfl ?_
              refine ws_isub cx dX10_layCan_173 ?_
              obtain ⟨q40, h41, hM⟩ := bnd hM
              refine ws_callS cx (rest := [.int (q30.1 + q35.1)]) (st' := [.int q40.1, .int (q30.1 + q35.1)]) (kX10_square l D b h41) mvX10_square lkX10_113 rfl ⟨by decide, by decide⟩ (Nat.le_of_ble_eq_true rfl) ⟨rfl, rfl⟩ (Or.inl ⟨rfl, rfl⟩) rfl rfl dX10_layCan_174 ?_
              refine ws_icmp_ne cx dX10_layCan_177 (tgt := 184) (by decide) (fun c42 => ?_) (fun c42 => ?_)
              · have hM := if_f hM c42
                refine ws_sub [0, 1, 2, 3, 4, 5, 6, 8] (lv' := [(0, .ref (b + o)), (1, .int a0), (2, .int x2), (3, .int x3), (4, .int x4), (5, .int x5), (7, .int x7), (9, .int x9)]) rfl ?_
                exact J184 _ hk19 _ ih _ _ _ _ _ _ _ hM
              · have hM := if_t hM c42
                refine ws_sub [0, 1, 2, 3, 4, 5, 6, 8] (lv' := [(0, .ref (b + o)), (1, .int a0), (2, .int x2), (3, .int x3), (4, .int x4), (5, .int x5), (7, .int x7), (9, .int x9)]) rfl ?_
                exact J180 _ hk19 _ ih _ _ _ _ _ _ _ hM
  have J99 : ∀ (k19 : (ME × Int32 × Int32 → Option (Unit × ME))), (∀ (me : ME) (x2 : Int32) (x3 : Int32), k19 (me, x2, x3) = some q → WS X b 10 S me 19 [(0, .ref (b + o)), (1, .int a0), (2, .int x2), (3, .int x3)] []) → ∀ (me : ME) (x2 : Int32) (x3 : Int32) (x4 : Int32) (x5 : Int32) (x7 : Int32) (y0 : Int32), mX10_layCan_j99 S o a0 k19 me x2 x3 x4 x5 x7 y0 = some q → WS X b 10 S me 99 [(0, .ref (b + o)), (1, .int a0), (2, .int x2), (3, .int x3), (4, .int x4), (5, .int x5), (7, .int x7)] [.int y0] := by
    intro k19 hk19 me x2 x3 x4 x5 x7 y0 hM
    unfold mX10_layCan_j99 at hM
    refine ws_istore cx dX10_layCan_99 (by decide) (lv' := [(8, .int y0), (0, .ref (b + o)), (1, .int a0), (2, .int x2), (3, .int x3), (4, .int x4), (5, .int x5), (7, .int x7)]) rfl ?_
    refine ws_iconst cx dX10_layCan_101 (v := 0) (by decide) ?_
    refine ws_istore cx dX10_layCan_102 (by decide) (lv' := [(9, .int (0 : Int32)), (8, .int y0), (0, .ref (b + o)), (1, .int a0), (2, .int x2), (3, .int x3), (4, .int x4), (5, .int x5), (7, .int x7)]) rfl ?_
    refine ws_sub [2, 3, 4, 5, 6, 7, 8, 1, 0] (lv' := [(0, .ref (b + o)), (1, .int a0), (2, .int x2), (3, .int x3), (4, .int x4), (5, .int x5), (7, .int x7), (8, .int y0), (9, .int (0 : Int32))]) rfl ?_
    exact L104 _ hk19 _ _ _ _ _ _ _ _ _ hM
  have J98 : ∀ (k19 : (ME × Int32 × Int32 → Option (Unit × ME))), (∀ (me : ME) (x2 : Int32) (x3 : Int32), k19 (me, x2, x3) = some q → WS X b 10 S me 19 [(0, .ref (b + o)), (1, .int a0), (2, .int x2), (3, .int x3)] []) → ∀ (me : ME) (x2 : Int32) (x3 : Int32) (x4 : Int32) (x5 : Int32) (x7 : Int32), mX10_layCan_j98 S o a0 k19 me x2 x3 x4 x5 x7 = some q → WS X b 10 S me 98 [(0, .ref (b + o)), (1, .int a0), (2, .int x2), (3, .int x3), (4, .int x4), (5, .int x5), (7, .int x7)] [] := by
    intro k19 hk19 me x2 x3 x4 x5 x7 hM
    unfold mX10_layCan_j98 at hM
    refine ws_iconst cx dX10_layCan_98 (v := 0) (by decide) ?_
    refine ws_sub [0, 1, 2, 3, 4, 5, 6] (lv' := [(0, .ref (b + o)), (1, .int a0), (2, .int x2), (3, .int x3), (4, .int x4), (5, .int x5), (7, .int x7)]) rfl ?_
    exact J99 _ hk19 _ _ _ _ _ _ _ hM
  have J256 : ∀ (me : ME), mX10_layCan_j256 S o a0 me = some q → WS X b 10 S me 256 [] [] := by
    intro  me hM
    unfold mX10_layCan_j256 at hM
    exact ws_vretM cx ex hM dX10_layCan_256
  have L19 : ∀ (n : Nat) (me : ME) (x2 : Int32) (x3 : Int32), lpn (mX10_layCan_L19 S o a0) n (me, x2, x3) = some q → WS X b 10 S me 19 [(0, .ref (b + o)), (1, .int a0), (2, .int x2), (3, .int x3)] [] := by
    intro  n
    induction n with
    | zero => intro me x2 x3 hM; exact absurd hM (by intro h; cases h)
    | succ n ih =>
      intro me x2 x3 hM
      have hM : mX10_layCan_L19 S o a0 (lpn (mX10_layCan_L19 S o a0) n) (me, x2, x3) = some q := hM
      unfold mX10_layCan_L19 at hM
      refine ws_iload_n cx dX10_layCan_19 rfl (j := 3) rfl ?_
      refine ws_sipush cx dX10_layCan_20 (v := 900) (by decide) ?_
      refine ws_icmp_ge cx dX10_layCan_23 (tgt := 256) (by decide) (fun c43 => ?_) (fun c43 => ?_)
      · have hM := if_t hM c43
        refine ws_sub [] (lv' := []) rfl ?_
        exact J256 _ hM
      · have hM := if_f hM c43
        refine ws_iload_n cx dX10_layCan_26 rfl (j := 3) rfl ?_
        refine ws_bipush cx dX10_layCan_27 (v := 30) (by decide) ?_
        refine ws_idiv cx (by decide) dX10_layCan_29 ?_
        refine ws_istore cx dX10_layCan_30 (by decide) (lv' := [(4, .int (x3 / (30 : Int32))), (0, .ref (b + o)), (1, .int a0), (2, .int x2), (3, .int x3)]) rfl ?_
        refine ws_iload_n cx dX10_layCan_32 rfl (j := 4) rfl ?_
        refine ws_bipush cx dX10_layCan_33 (v := 30) (by decide) ?_
        refine ws_irem cx (by decide) dX10_layCan_35 ?_
        refine ws_istore cx dX10_layCan_36 (by decide) (lv' := [(5, .int (x3 - x3 / (30 : Int32) * (30 : Int32))), (4, .int (x3 / (30 : Int32))), (0, .ref (b + o)), (1, .int a0), (2, .int x2), (3, .int x3)]) rfl ?_
        refine ws_iload cx dX10_layCan_38 (j := 1) rfl ?_
        refine ws_aload_n cx dX10_layCan_40 rfl (j := 2) rfl ?_
        refine ws_iload_n cx dX10_layCan_41 rfl (j := 4) rfl ?_
        obtain ⟨_, h46, hM⟩ := bnd hM
        obtain ⟨q44, h45, hM⟩ := bnd hM
        refine ws_callV cx (rest := [.int (x3 / (30 : Int32))]) (st' := [.int q44.1, .int (x3 / (30 : Int32))]) (kX10_xOf l D b h45) mvX10_xOf (ck_k h46) (by decide) (q := (RX10, TX10, 31)) rfl seX10_xOf lkX10_116 rfl ⟨by decide, by decide⟩ (Nat.le_of_ble_eq_true rfl) ⟨rfl, rfl⟩ (Or.inl ⟨rfl, rfl⟩) rfl rfl dX10_layCan_42 ?_
        refine ws_isub cx dX10_layCan_45 ?_
        obtain ⟨q47, h48, hM⟩ := bnd hM
        refine ws_callS cx (rest := []) (st' := [.int q47.1]) (kX10_square l D b h48) mvX10_square lkX10_113 rfl ⟨by decide, by decide⟩ (Nat.le_of_ble_eq_true rfl) ⟨rfl, rfl⟩ (Or.inl ⟨rfl, rfl⟩) rfl rfl dX10_layCan_46 ?_
        refine ws_iload cx dX10_layCan_49 (j := 0) rfl ?_
        refine ws_aload_n cx dX10_layCan_51 rfl (j := 2) rfl ?_
        refine ws_iload_n cx dX10_layCan_52 rfl (j := 4) rfl ?_
        obtain ⟨_, h51, hM⟩ := bnd hM
        obtain ⟨q49, h50, hM⟩ := bnd hM
        refine ws_callV cx (rest := [.int (x3 - x3 / (30 : Int32) * (30 : Int32)), .int q47.1]) (st' := [.int q49.1, .int (x3 - x3 / (30 : Int32) * (30 : Int32)), .int q47.1]) (kX10_yOf l D b h50) mvX10_yOf (ck_k h51) (by decide) (q := (RX10, TX10, 31)) rfl seX10_yOf lkX10_119 rfl ⟨by decide, by decide⟩ (Nat.le_of_ble_eq_true rfl) ⟨rfl, rfl⟩ (Or.inl ⟨rfl, rfl⟩) rfl rfl dX10_layCan_53 ?_
        refine ws_isub cx dX10_layCan_56 ?_
        obtain ⟨q52, h53, hM⟩ := bnd hM
        refine ws_callS cx (rest := [.int q47.1]) (st' := [.int q52.1, .int q47.1]) (kX10_square l D b h53) mvX10_square lkX10_113 rfl ⟨by decide, by decide⟩ (Nat.le_of_ble_eq_true rfl) ⟨rfl, rfl⟩ (Or.inl ⟨rfl, rfl⟩) rfl rfl dX10_layCan_57 ?_
        refine ws_iadd cx dX10_layCan_60 ?_
        obtain ⟨q54, h55, hM⟩ := bnd hM
        refine ws_callS cx (rest := []) (st' := [.int q54.1]) (kX10_root l D b h55) mvX10_root lkX10_228 rfl ⟨by decide, by decide⟩ (Nat.le_of_ble_eq_true rfl) ⟨rfl, rfl⟩ (Or.inl ⟨rfl, rfl⟩) rfl rfl dX10_layCan_61 ?_
        refine ws_istore cx dX10_layCan_64 (by decide) (lv' := [(6, .int q54.1), (5, .int (x3 - x3 / (30 : Int32) * (30 : Int32))), (4, .int (x3 / (30 : Int32))), (0, .ref (b + o)), (1, .int a0), (2, .int x2), (3, .int x3)]) rfl ?_
        refine ws_aload_n cx dX10_layCan_66 rfl (j := 3) rfl ?_
        refine ws_iload_n cx dX10_layCan_67 rfl (j := 5) rfl ?_
        obtain ⟨_, h58, hM⟩ := bnd hM
        obtain ⟨q56, h57, hM⟩ := bnd hM
        refine ws_callV cx (rest := []) (st' := [.int q56.1]) (kX10_timeOf l D b h57) mvX10_timeOf (ck_k h58) (by decide) (q := (RX10, TX10, 31)) rfl seX10_timeOf lkX10_110 rfl ⟨by decide, by decide⟩ (Nat.le_of_ble_eq_true rfl) ⟨rfl, rfl⟩ (Or.inl ⟨rfl, rfl⟩) rfl rfl dX10_layCan_68 ?_
        refine ws_iload cx dX10_layCan_71 (j := 0) rfl ?_
        refine ws_isub cx dX10_layCan_73 ?_
        refine ws_istore cx dX10_layCan_74 (by decide) (lv' := [(7, .int (q56.1 - q54.1)), (6, .int q54.1), (5, .int (x3 - x3 / (30 : Int32) * (30 : Int32))), (4, .int (x3 / (30 : Int32))), (0, .ref (b + o)), (1, .int a0), (2, .int x2), (3, .int x3)]) rfl ?_
        refine ws_iload cx dX10_layCan_76 (j := 1) rfl ?_
        refine ws_bipush cx dX10_layCan_78 (v := -9) (by decide) ?_
        refine ws_icmp_eq cx dX10_layCan_80 (tgt := 98) (by decide) (fun c59 => ?_) (fun c59 => ?_)
        · have hM := if_t hM c59
          refine ws_sub [4, 5, 6, 7, 3, 2, 0] (lv' := [(0, .ref (b + o)), (1, .int a0), (2, .int x2), (3, .int x3), (4, .int (x3 / (30 : Int32))), (5, .int (x3 - x3 / (30 : Int32) * (30 : Int32))), (7, .int (q56.1 - q54.1))]) rfl ?_
          exact J98 _ ih _ _ _ _ _ _ hM
        · have hM := if_f hM c59
          refine ws_iload cx dX10_layCan_83 (j := 0) rfl ?_
          refine ws_iconst cx dX10_layCan_85 (v := 0) (by decide) ?_
          refine ws_bipush cx dX10_layCan_86 (v := 60) (by decide) ?_
          obtain ⟨q60, h61, hM⟩ := bnd hM
          refine ws_callS cx (rest := []) (st' := [.int q60.1]) (kX10_in l D b h61) mvX10_in lkX10_48 rfl ⟨by decide, by decide⟩ (Nat.le_of_ble_eq_true rfl) ⟨rfl, rfl⟩ (Or.inl ⟨rfl, rfl⟩) rfl rfl dX10_layCan_88 ?_
          refine ws_if_eq cx dX10_layCan_91 (tgt := 98) (by decide) (fun c62 => ?_) (fun c62 => ?_)
          · have hM := if_t hM c62
            refine ws_sub [4, 5, 6, 7, 3, 2, 0] (lv' := [(0, .ref (b + o)), (1, .int a0), (2, .int x2), (3, .int x3), (4, .int (x3 / (30 : Int32))), (5, .int (x3 - x3 / (30 : Int32) * (30 : Int32))), (7, .int (q56.1 - q54.1))]) rfl ?_
            exact J98 _ ih _ _ _ _ _ _ hM
          · have hM := if_f hM c62
            refine ws_iconst cx dX10_layCan_94 (v := 1) (by decide) ?_
            refine ws_goto cx dX10_layCan_95 (tgt := 99) (by decide) ?_
            refine ws_sub [4, 5, 6, 7, 3, 2, 0] (lv' := [(0, .ref (b + o)), (1, .int a0), (2, .int x2), (3, .int x3), (4, .int (x3 / (30 : Int32))), (5, .int (x3 - x3 / (30 : Int32) * (30 : Int32))), (7, .int (q56.1 - q54.1))]) rfl ?_
            exact J99 _ ih _ _ _ _ _ _ _ hM
  unfold mX10_layCan at hM
  refine ws_aload_n cx dX10_layCan_0 rfl (j := 0) rfl ?_
  refine ws_iconst cx dX10_layCan_1 (v := 0) (by decide) ?_
  obtain ⟨m64, h63, hM⟩ := bnd hM
  refine ws_putI cx ffX10_222 h63 dX10_layCan_2 ?_
  refine ws_aload_n cx dX10_layCan_5 rfl (j := 0) rfl ?_
  refine ws_bipush cx dX10_layCan_6 (v := -9) (by decide) ?_
  obtain ⟨m66, h65, hM⟩ := bnd hM
  refine ws_putI cx ffX10_225 h65 dX10_layCan_8 ?_
  refine ws_aload_n cx dX10_layCan_11 rfl (j := 0) rfl ?_
  refine ws_iload_n cx dX10_layCan_12 rfl (j := 1) rfl ?_
  obtain ⟨_, h69, hM⟩ := bnd hM
  obtain ⟨q67, h68, hM⟩ := bnd hM
  refine ws_callV cx (rest := []) (st' := [.int q67.1]) (kX10_firstOf l D b h68) mvX10_firstOf (ck_k h69) (by decide) (q := (RX10, TX10, 31)) rfl seX10_firstOf lkX10_157 rfl ⟨by decide, by decide⟩ (Nat.le_of_ble_eq_true rfl) ⟨rfl, rfl⟩ (Or.inl ⟨rfl, rfl⟩) rfl rfl dX10_layCan_13 ?_
  refine ws_istore_n cx dX10_layCan_16 rfl (by decide) (lv' := [(2, .int q67.1), (0, .ref (b + o)), (1, .int a0)]) rfl ?_
  refine ws_iconst cx dX10_layCan_17 (v := 0) (by decide) ?_
  refine ws_istore_n cx dX10_layCan_18 rfl (by decide) (lv' := [(3, .int (0 : Int32)), (2, .int q67.1), (0, .ref (b + o)), (1, .int a0)]) rfl ?_
  refine ws_sub [2, 3, 1, 0] (lv' := [(0, .ref (b + o)), (1, .int a0), (2, .int q67.1), (3, .int (0 : Int32))]) rfl ?_
  exact L19 _ _ _ _ hM

def mX10_group_j28 (S : SH) (o : Nat) (a0 : Int32) (a1 : Int32) (me : ME) : Option (Int32 × ME) :=
  some ((-1 : Int32), me)
def mX10_group_j125 (S : SH) (o : Nat) (a0 : Int32) (a1 : Int32) (me : ME) (y0 : Int32) : Option (Int32 × ME) :=
  some (y0, me)
def mX10_group (S : SH) (me : ME) (o : Nat) (a0 : Int32) (a1 : Int32) : Option (Int32 × ME) :=
  (ck S 10 o).bind fun _ => (mX10_layGroups S me o).bind fun q1 =>
  (gI S q1.2 10 20 o).bind fun v4 =>
  (mX10_in S q1.2 a0 (0 : Int32) (v4 - (1 : Int32))).bind fun q6 =>
  if q6.1 = 0 then
    mX10_group_j28 S o a0 a1 q6.2
  else
    (mX10_in S q6.2 a1 (0 : Int32) (7 : Int32)).bind fun q9 =>
    if q9.1 = 0 then
      mX10_group_j28 S o a0 a1 q9.2
    else
      (gR S 10 21 o).bind fun v12 =>
      (aI S q9.2 11 v12 a0).bind fun v14 =>
      if a1 = (0 : Int32) then
        some (v14, q9.2)
      else
      if a1 = (1 : Int32) then
        (ck S 10 o).bind fun _ => (mX10_rankOf S q9.2 o v14).bind fun q18 =>
        some (q18.1, q18.2)
      else
      if a1 = (2 : Int32) then
        (ck S 10 o).bind fun _ => (mX10_verdictOf S q9.2 o v14).bind fun q22 =>
        some (q22.1, q22.2)
      else
      if a1 = (3 : Int32) then
        (ck S 10 o).bind fun _ => (mX10_outOf S q9.2 o v14).bind fun q26 =>
        some (q26.1, q26.2)
      else
      if a1 = (4 : Int32) then
        (ck S 10 o).bind fun _ => (mX10_fourOf S q9.2 o v14).bind fun q30 =>
        some (q30.1, q30.2)
      else
      if a1 = (5 : Int32) then
        (ck S 10 o).bind fun _ => (mX10_fourOf S q9.2 o v14).bind fun q34 =>
        if q34.1 = (-9 : Int32) then
          mX10_group_j125 S o a0 a1 q34.2 (-9 : Int32)
        else
          (gI S q34.2 10 28 o).bind fun v38 =>
          mX10_group_j125 S o a0 a1 q34.2 v38
      else
      if a1 = (6 : Int32) then
        (ck S 10 o).bind fun _ => (mX10_layCan S q9.2 o v14).bind fun q41 =>
        (gI S q41.2 10 29 o).bind fun v44 =>
        some (v44, q41.2)
      else
      (ck S 10 o).bind fun _ => (mX10_layCan S q9.2 o v14).bind fun q46 =>
      (gI S q46.2 10 30 o).bind fun v49 =>
      some (v49, q46.2)
set_option maxRecDepth 100000 in
set_option maxHeartbeats 4000000 in
theorem kX10_group (l : Launch) (D : va_G) (b : Nat) {S : SH} {me : ME} {o : Nat} {a0 : Int32} {a1 : Int32} {q : Int32 × ME} (hM : mX10_group S me o a0 a1 = some q) : Ct l D b yX10_group cX10_group 4 (some .int) 6 141 0 0 [.ref (b + o), .int a0, .int a1] S me S q.2 (some (.int q.1)) := by
  refine ct_of (own := RX10) (nm := "group") (lv := [(0, .ref (b + o)), (1, .int a0), (2, .int a1)]) (plainFor_of_name (by decide)) rfl rfl (Nat.le_of_ble_eq_true rfl) rfl ⟨rfl, rfl⟩ (fun X cx ex hL => ?_)
  have J28 : ∀ (me : ME), mX10_group_j28 S o a0 a1 me = some q → WS X b 4 S me 28 [] [] := by
    intro  me hM
    unfold mX10_group_j28 at hM
    refine ws_iconst cx dX10_group_28 (v := -1) (by decide) ?_
    exact ws_iretM cx ex hM dX10_group_29
  have J125 : ∀ (me : ME) (y0 : Int32), mX10_group_j125 S o a0 a1 me y0 = some q → WS X b 4 S me 125 [] [.int y0] := by
    intro  me y0 hM
    unfold mX10_group_j125 at hM
    exact ws_iretM cx ex hM dX10_group_125
  unfold mX10_group at hM
  refine ws_aload_n cx dX10_group_0 rfl (j := 0) rfl ?_
  obtain ⟨_, h3, hM⟩ := bnd hM
  obtain ⟨q1, h2, hM⟩ := bnd hM
  refine ws_callV cx (rest := []) (st' := []) (kX10_layGroups l D b h2) mvX10_layGroups (ck_k h3) (by decide) (q := (RX10, TX10, 31)) rfl seX10_layGroups lkX10_135 rfl ⟨by decide, by decide⟩ (Nat.le_of_ble_eq_true rfl) ⟨rfl, rfl⟩ (Or.inl ⟨rfl, rfl⟩) rfl rfl dX10_group_1 ?_
  refine ws_iload_n cx dX10_group_4 rfl (j := 1) rfl ?_
  refine ws_iconst cx dX10_group_5 (v := 0) (by decide) ?_
  refine ws_aload_n cx dX10_group_6 rfl (j := 0) rfl ?_
  obtain ⟨v4, h5, hM⟩ := bnd hM
  refine ws_getI cx ffX10_122 h5 dX10_group_7 ?_
  refine ws_iconst cx dX10_group_10 (v := 1) (by decide) ?_
  refine ws_isub cx dX10_group_11 ?_
  obtain ⟨q6, h7, hM⟩ := bnd hM
  refine ws_callS cx (rest := []) (st' := [.int q6.1]) (kX10_in l D b h7) mvX10_in lkX10_48 rfl ⟨by decide, by decide⟩ (Nat.le_of_ble_eq_true rfl) ⟨rfl, rfl⟩ (Or.inl ⟨rfl, rfl⟩) rfl rfl dX10_group_12 ?_
  refine ws_if_eq cx dX10_group_15 (tgt := 28) (by decide) (fun c8 => ?_) (fun c8 => ?_)
  · have hM := if_t hM c8
    refine ws_sub [] (lv' := []) rfl ?_
    exact J28 _ hM
  · have hM := if_f hM c8
    refine ws_iload_n cx dX10_group_18 rfl (j := 2) rfl ?_
    refine ws_iconst cx dX10_group_19 (v := 0) (by decide) ?_
    refine ws_bipush cx dX10_group_20 (v := 7) (by decide) ?_
    obtain ⟨q9, h10, hM⟩ := bnd hM
    refine ws_callS cx (rest := []) (st' := [.int q9.1]) (kX10_in l D b h10) mvX10_in lkX10_48 rfl ⟨by decide, by decide⟩ (Nat.le_of_ble_eq_true rfl) ⟨rfl, rfl⟩ (Or.inl ⟨rfl, rfl⟩) rfl rfl dX10_group_22 ?_
    refine ws_if_ne cx dX10_group_25 (tgt := 30) (by decide) (fun c11 => ?_) (fun c11 => ?_)
    · have hM := if_f hM c11
      refine ws_aload_n cx dX10_group_30 rfl (j := 0) rfl ?_
      obtain ⟨v12, h13, hM⟩ := bnd hM
      refine ws_getR cx ffX10_41 h13 dX10_group_31 ?_
      refine ws_iload_n cx dX10_group_34 rfl (j := 1) rfl ?_
      obtain ⟨v14, h15, hM⟩ := bnd hM
      refine ws_iald cx h15 dX10_group_35 ?_
      refine ws_istore_n cx dX10_group_36 rfl (by decide) (lv' := [(3, .int v14), (0, .ref (b + o)), (1, .int a0), (2, .int a1)]) rfl ?_
      refine ws_iload_n cx dX10_group_37 rfl (j := 3) rfl ?_
      by_cases c16 : a1 = (0 : Int32)
      · have hM := if_t hM c16
        refine ws_tabIn cx dX10_group_38 (tgt := 80) (by rw [c16]; decide) (by rw [c16]; decide) (by rw [c16]; rfl) (by decide) ?_
        refine ws_iload_n cx dX10_group_80 rfl (j := 0) rfl ?_
        exact ws_iretM cx ex hM dX10_group_81
      · have hM := if_f hM c16
        by_cases c17 : a1 = (1 : Int32)
        · have hM := if_t hM c17
          refine ws_tabIn cx dX10_group_38 (tgt := 82) (by rw [c17]; decide) (by rw [c17]; decide) (by rw [c17]; rfl) (by decide) ?_
          refine ws_aload_n cx dX10_group_82 rfl (j := 1) rfl ?_
          refine ws_iload_n cx dX10_group_83 rfl (j := 0) rfl ?_
          obtain ⟨_, h20, hM⟩ := bnd hM
          obtain ⟨q18, h19, hM⟩ := bnd hM
          refine ws_callV cx (rest := []) (st' := [.int q18.1]) (kX10_rankOf l D b h19) mvX10_rankOf (ck_k h20) (by decide) (q := (RX10, TX10, 31)) rfl seX10_rankOf lkX10_191 rfl ⟨by decide, by decide⟩ (Nat.le_of_ble_eq_true rfl) ⟨rfl, rfl⟩ (Or.inl ⟨rfl, rfl⟩) rfl rfl dX10_group_84 ?_
          exact ws_iretM cx ex hM dX10_group_87
        · have hM := if_f hM c17
          by_cases c21 : a1 = (2 : Int32)
          · have hM := if_t hM c21
            refine ws_tabIn cx dX10_group_38 (tgt := 88) (by rw [c21]; decide) (by rw [c21]; decide) (by rw [c21]; rfl) (by decide) ?_
            refine ws_aload_n cx dX10_group_88 rfl (j := 1) rfl ?_
            refine ws_iload_n cx dX10_group_89 rfl (j := 0) rfl ?_
            obtain ⟨_, h24, hM⟩ := bnd hM
            obtain ⟨q22, h23, hM⟩ := bnd hM
            refine ws_callV cx (rest := []) (st' := [.int q22.1]) (kX10_verdictOf l D b h23) mvX10_verdictOf (ck_k h24) (by decide) (q := (RX10, TX10, 31)) rfl seX10_verdictOf lkX10_207 rfl ⟨by decide, by decide⟩ (Nat.le_of_ble_eq_true rfl) ⟨rfl, rfl⟩ (Or.inl ⟨rfl, rfl⟩) rfl rfl dX10_group_90 ?_
            exact ws_iretM cx ex hM dX10_group_93
          · have hM := if_f hM c21
            by_cases c25 : a1 = (3 : Int32)
            · have hM := if_t hM c25
              refine ws_tabIn cx dX10_group_38 (tgt := 94) (by rw [c25]; decide) (by rw [c25]; decide) (by rw [c25]; rfl) (by decide) ?_
              refine ws_aload_n cx dX10_group_94 rfl (j := 1) rfl ?_
              refine ws_iload_n cx dX10_group_95 rfl (j := 0) rfl ?_
              obtain ⟨_, h28, hM⟩ := bnd hM
              obtain ⟨q26, h27, hM⟩ := bnd hM
              refine ws_callV cx (rest := []) (st' := [.int q26.1]) (kX10_outOf l D b h27) mvX10_outOf (ck_k h28) (by decide) (q := (RX10, TX10, 31)) rfl seX10_outOf lkX10_231 rfl ⟨by decide, by decide⟩ (Nat.le_of_ble_eq_true rfl) ⟨rfl, rfl⟩ (Or.inl ⟨rfl, rfl⟩) rfl rfl dX10_group_96 ?_
              exact ws_iretM cx ex hM dX10_group_99
            · have hM := if_f hM c25
              by_cases c29 : a1 = (4 : Int32)
              · have hM := if_t hM c29
                refine ws_tabIn cx dX10_group_38 (tgt := 100) (by rw [c29]; decide) (by rw [c29]; decide) (by rw [c29]; rfl) (by decide) ?_
                refine ws_aload_n cx dX10_group_100 rfl (j := 1) rfl ?_
                refine ws_iload_n cx dX10_group_101 rfl (j := 0) rfl ?_
                obtain ⟨_, h32, hM⟩ := bnd hM
                obtain ⟨q30, h31, hM⟩ := bnd hM
                refine ws_callV cx (rest := []) (st' := [.int q30.1]) (kX10_fourOf l D b h31) mvX10_fourOf (ck_k h32) (by decide) (q := (RX10, TX10, 31)) rfl seX10_fourOf lkX10_234 rfl ⟨by decide, by decide⟩ (Nat.le_of_ble_eq_true rfl) ⟨rfl, rfl⟩ (Or.inl ⟨rfl, rfl⟩) rfl rfl dX10_group_102 ?_
                exact ws_iretM cx ex hM dX10_group_105
              · have hM := if_f hM c29
                by_cases c33 : a1 = (5 : Int32)
                · have hM := if_t hM c33
                  refine ws_tabIn cx dX10_group_38 (tgt := 106) (by rw [c33]; decide) (by rw [c33]; decide) (by rw [c33]; rfl) (by decide) ?_
                  refine ws_aload_n cx dX10_group_106 rfl (j := 1) rfl ?_
                  refine ws_iload_n cx dX10_group_107 rfl (j := 0) rfl ?_
                  obtain ⟨_, h36, hM⟩ := bnd hM
                  obtain ⟨q34, h35, hM⟩ := bnd hM
                  refine ws_callV cx (rest := []) (st' := [.int q34.1]) (kX10_fourOf l D b h35) mvX10_fourOf (ck_k h36) (by decide) (q := (RX10, TX10, 31)) rfl seX10_fourOf lkX10_234 rfl ⟨by decide, by decide⟩ (Nat.le_of_ble_eq_true rfl) ⟨rfl, rfl⟩ (Or.inl ⟨rfl, rfl⟩) rfl rfl dX10_group_108 ?_
                  refine ws_bipush cx dX10_group_111 (v := -9) (by decide) ?_
                  refine ws_icmp_ne cx dX10_group_113 (tgt := 121) (by decide) (fun c37 => ?_) (fun c37 => ?_)
                  · have hM := if_f hM c37
                    refine ws_aload_n cx dX10_group_121 rfl (j := 1) rfl ?_
                    obtain ⟨v38, h39, hM⟩ := bnd hM
                    refine ws_getI cx ffX10_219 h39 dX10_group_122 ?_
                    refine ws_sub [] (lv' := []) rfl ?_
                    exact J125 _ _ hM
                  · have hM := if_t hM c37
                    refine ws_bipush cx dX10_group_116 (v := -9) (by decide) ?_
                    refine ws_goto cx dX10_group_118 (tgt := 125) (by decide) ?_
                    refine ws_sub [] (lv' := []) rfl ?_
                    exact J125 _ _ hM
                · have hM := if_f hM c33
                  by_cases c40 : a1 = (6 : Int32)
                  · have hM := if_t hM c40
                    refine ws_tabIn cx dX10_group_38 (tgt := 126) (by rw [c40]; decide) (by rw [c40]; decide) (by rw [c40]; rfl) (by decide) ?_
                    refine ws_aload_n cx dX10_group_126 rfl (j := 1) rfl ?_
                    refine ws_iload_n cx dX10_group_127 rfl (j := 0) rfl ?_
                    obtain ⟨_, h43, hM⟩ := bnd hM
                    obtain ⟨q41, h42, hM⟩ := bnd hM
                    refine ws_callV cx (rest := []) (st' := []) (kX10_layCan l D b h42) mvX10_layCan (ck_k h43) (by decide) (q := (RX10, TX10, 31)) rfl seX10_layCan lkX10_237 rfl ⟨by decide, by decide⟩ (Nat.le_of_ble_eq_true rfl) ⟨rfl, rfl⟩ (Or.inl ⟨rfl, rfl⟩) rfl rfl dX10_group_128 ?_
                    refine ws_aload_n cx dX10_group_131 rfl (j := 1) rfl ?_
                    obtain ⟨v44, h45, hM⟩ := bnd hM
                    refine ws_getI cx ffX10_222 h45 dX10_group_132 ?_
                    exact ws_iretM cx ex hM dX10_group_135
                  · have hM := if_f hM c40
                    refine ws_tabOut cx dX10_group_38 (tgt := 136) (by have := lv_neT c16 (show ((0 : Int32)).toInt = 0 from rfl); have := lv_neT c17 (show ((1 : Int32)).toInt = 1 from rfl); have := lv_neT c21 (show ((2 : Int32)).toInt = 2 from rfl); have := lv_neT c25 (show ((3 : Int32)).toInt = 3 from rfl); have := lv_neT c29 (show ((4 : Int32)).toInt = 4 from rfl); have := lv_neT c33 (show ((5 : Int32)).toInt = 5 from rfl); have := lv_neT c40 (show ((6 : Int32)).toInt = 6 from rfl); omega) (by decide) ?_
                    refine ws_aload_n cx dX10_group_136 rfl (j := 1) rfl ?_
                    refine ws_iload_n cx dX10_group_137 rfl (j := 0) rfl ?_
                    obtain ⟨_, h48, hM⟩ := bnd hM
                    obtain ⟨q46, h47, hM⟩ := bnd hM
                    refine ws_callV cx (rest := []) (st' := []) (kX10_layCan l D b h47) mvX10_layCan (ck_k h48) (by decide) (q := (RX10, TX10, 31)) rfl seX10_layCan lkX10_237 rfl ⟨by decide, by decide⟩ (Nat.le_of_ble_eq_true rfl) ⟨rfl, rfl⟩ (Or.inl ⟨rfl, rfl⟩) rfl rfl dX10_group_138 ?_
                    refine ws_aload_n cx dX10_group_141 rfl (j := 1) rfl ?_
                    obtain ⟨v49, h50, hM⟩ := bnd hM
                    refine ws_getI cx ffX10_225 h50 dX10_group_142 ?_
                    exact ws_iretM cx ex hM dX10_group_145
    · have hM := if_t hM c11
      refine ws_sub [] (lv' := []) rfl ?_
      exact J28 _ hM

def mX10_lowest_j58 (S : SH) (a0 : Int64) (a1 : Int64) (a2 : Int32) (me : ME) (y0 : Int64) : Option (Int32 × ME) :=
  some (y0.toInt32, me)
def mX10_lowest_j42 (S : SH) (a0 : Int64) (a1 : Int64) (a2 : Int32) (me : ME) (x5 : Int64) : Option (Int32 × ME) :=
  if a2 = 0 then
    if x5 = 0 then none else
    mX10_lowest_j58 S a0 a1 a2 me (a1 / x5)
  else
    if x5 = 0 then none else
    mX10_lowest_j58 S a0 a1 a2 me (a0 / x5)
def mX10_lowest_L17 (S : SH) (a0 : Int64) (a1 : Int64) (a2 : Int32) (k17 : (ME × Int64 × Int64 → Option (Int32 × ME))) : ME × Int64 × Int64 → Option (Int32 × ME)
  | (me, x5, x7) =>
    if (lg_cmp x7 (0 : Int64)) = 0 then
      mX10_lowest_j42 S a0 a1 a2 me x5
    else
      if x7 = 0 then none else
      k17 (me, x7, x5 - x5 / x7 * x7)
def mX10_lowest_j12 (S : SH) (a0 : Int64) (a1 : Int64) (a2 : Int32) (me : ME) (y0 : Int64) : Option (Int32 × ME) :=
  lpn (mX10_lowest_L17 S a0 a1 a2) lpF (me, y0, a1)
def mX10_lowest (S : SH) (me : ME) (a0 : Int64) (a1 : Int64) (a2 : Int32) : Option (Int32 × ME) :=
  if 0 ≤ (lg_cmp a0 (0 : Int64)) then
    mX10_lowest_j12 S a0 a1 a2 me a0
  else
    mX10_lowest_j12 S a0 a1 a2 me (-a0)
set_option maxRecDepth 100000 in
set_option maxHeartbeats 4000000 in
theorem kX10_lowest (l : Launch) (D : va_G) (b : Nat) {S : SH} {me : ME} {a0 : Int64} {a1 : Int64} {a2 : Int32} {q : Int32 × ME} (hM : mX10_lowest S me a0 a1 a2 = some q) : Ct l D b yX10_lowest cX10_lowest 11 (some .int) 0 0 0 0 [.long a0, .long a1, .int a2] S me S q.2 (some (.int q.1)) := by
  refine ct_of (own := RX10) (nm := "lowest") (lv := [(0, .long a0), (2, .long a1), (4, .int a2)]) (plainFor_of_name (by decide)) rfl rfl (Nat.le_of_ble_eq_true rfl) rfl ⟨rfl, rfl⟩ (fun X cx ex hL => ?_)
  have J58 : ∀ (me : ME) (y0 : Int64), mX10_lowest_j58 S a0 a1 a2 me y0 = some q → WS X b 11 S me 58 [] [.long y0] := by
    intro  me y0 hM
    unfold mX10_lowest_j58 at hM
    refine ws_l2i cx dX10_lowest_58 ?_
    exact ws_iretM cx ex hM dX10_lowest_59
  have J42 : ∀ (me : ME) (x5 : Int64), mX10_lowest_j42 S a0 a1 a2 me x5 = some q → WS X b 11 S me 42 [(0, .long a0), (2, .long a1), (4, .int a2), (5, .long x5)] [] := by
    intro  me x5 hM
    unfold mX10_lowest_j42 at hM
    refine ws_iload cx dX10_lowest_42 (j := 2) rfl ?_
    refine ws_if_eq cx dX10_lowest_44 (tgt := 54) (by decide) (fun c1 => ?_) (fun c1 => ?_)
    · have hM := if_t hM c1
      refine ws_lload_n cx dX10_lowest_54 rfl (j := 1) rfl ?_
      refine ws_lload cx dX10_lowest_55 (j := 3) rfl ?_
      obtain ⟨h2, hM⟩ := if_n hM
      refine ws_ldiv cx h2 dX10_lowest_57 ?_
      refine ws_sub [] (lv' := []) rfl ?_
      exact J58 _ _ hM
    · have hM := if_f hM c1
      refine ws_lload_n cx dX10_lowest_47 rfl (j := 0) rfl ?_
      refine ws_lload cx dX10_lowest_48 (j := 3) rfl ?_
      obtain ⟨h3, hM⟩ := if_n hM
      refine ws_ldiv cx h3 dX10_lowest_50 ?_
      refine ws_goto cx dX10_lowest_51 (tgt := 58) (by decide) ?_
      refine ws_sub [] (lv' := []) rfl ?_
      exact J58 _ _ hM
  have L17 : ∀ (n : Nat) (me : ME) (x5 : Int64) (x7 : Int64), lpn (mX10_lowest_L17 S a0 a1 a2) n (me, x5, x7) = some q → WS X b 11 S me 17 [(0, .long a0), (2, .long a1), (4, .int a2), (5, .long x5), (7, .long x7)] [] := by
    intro  n
    induction n with
    | zero => intro me x5 x7 hM; exact absurd hM (by intro h; cases h)
    | succ n ih =>
      intro me x5 x7 hM
      have hM : mX10_lowest_L17 S a0 a1 a2 (lpn (mX10_lowest_L17 S a0 a1 a2) n) (me, x5, x7) = some q := hM
      unfold mX10_lowest_L17 at hM
      refine ws_lload cx dX10_lowest_17 (j := 4) rfl ?_
      refine ws_lconst cx dX10_lowest_19 (v := 0) (by decide) ?_
      refine ws_lcmp cx dX10_lowest_20 ?_
      refine ws_if_eq cx dX10_lowest_21 (tgt := 42) (by decide) (fun c4 => ?_) (fun c4 => ?_)
      · have hM := if_t hM c4
        refine ws_sub [0, 1, 2, 3] (lv' := [(0, .long a0), (2, .long a1), (4, .int a2), (5, .long x5)]) rfl ?_
        exact J42 _ _ hM
      · have hM := if_f hM c4
        refine ws_lload cx dX10_lowest_24 (j := 3) rfl ?_
        refine ws_lload cx dX10_lowest_26 (j := 4) rfl ?_
        obtain ⟨h5, hM⟩ := if_n hM
        refine ws_lrem cx h5 dX10_lowest_28 ?_
        refine ws_lstore cx dX10_lowest_29 (by decide) (lv' := [(9, .long (x5 - x5 / x7 * x7)), (0, .long a0), (2, .long a1), (4, .int a2), (5, .long x5), (7, .long x7)]) rfl ?_
        refine ws_lload cx dX10_lowest_31 (j := 5) rfl ?_
        refine ws_lstore cx dX10_lowest_33 (by decide) (lv' := [(5, .long x7), (9, .long (x5 - x5 / x7 * x7)), (0, .long a0), (2, .long a1), (4, .int a2), (7, .long x7)]) rfl ?_
        refine ws_lload cx dX10_lowest_35 (j := 1) rfl ?_
        refine ws_lstore cx dX10_lowest_37 (by decide) (lv' := [(7, .long (x5 - x5 / x7 * x7)), (5, .long x7), (9, .long (x5 - x5 / x7 * x7)), (0, .long a0), (2, .long a1), (4, .int a2)]) rfl ?_
        refine ws_goto cx dX10_lowest_39 (tgt := 17) (by decide) ?_
        refine ws_sub [3, 4, 5, 1, 0] (lv' := [(0, .long a0), (2, .long a1), (4, .int a2), (5, .long x7), (7, .long (x5 - x5 / x7 * x7))]) rfl ?_
        exact ih _ _ _ hM
  have J12 : ∀ (me : ME) (y0 : Int64), mX10_lowest_j12 S a0 a1 a2 me y0 = some q → WS X b 11 S me 12 [(0, .long a0), (2, .long a1), (4, .int a2)] [.long y0] := by
    intro  me y0 hM
    unfold mX10_lowest_j12 at hM
    refine ws_lstore cx dX10_lowest_12 (by decide) (lv' := [(5, .long y0), (0, .long a0), (2, .long a1), (4, .int a2)]) rfl ?_
    refine ws_lload_n cx dX10_lowest_14 rfl (j := 2) rfl ?_
    refine ws_lstore cx dX10_lowest_15 (by decide) (lv' := [(7, .long a1), (5, .long y0), (0, .long a0), (2, .long a1), (4, .int a2)]) rfl ?_
    refine ws_sub [2, 3, 4, 1, 0] (lv' := [(0, .long a0), (2, .long a1), (4, .int a2), (5, .long y0), (7, .long a1)]) rfl ?_
    exact L17 _ _ _ _ hM
  unfold mX10_lowest at hM
  refine ws_lload_n cx dX10_lowest_0 rfl (j := 0) rfl ?_
  refine ws_lconst cx dX10_lowest_1 (v := 0) (by decide) ?_
  refine ws_lcmp cx dX10_lowest_2 ?_
  refine ws_if_ge cx dX10_lowest_3 (tgt := 11) (by decide) (fun c6 => ?_) (fun c6 => ?_)
  · have hM := if_t hM c6
    refine ws_lload_n cx dX10_lowest_11 rfl (j := 0) rfl ?_
    refine ws_sub [0, 1, 2] (lv' := [(0, .long a0), (2, .long a1), (4, .int a2)]) rfl ?_
    exact J12 _ _ hM
  · have hM := if_f hM c6
    refine ws_lload_n cx dX10_lowest_6 rfl (j := 0) rfl ?_
    refine ws_lneg cx dX10_lowest_7 ?_
    refine ws_goto cx dX10_lowest_8 (tgt := 12) (by decide) ?_
    refine ws_sub [0, 1, 2] (lv' := [(0, .long a0), (2, .long a1), (4, .int a2)]) rfl ?_
    exact J12 _ _ hM

def mX10_place_j40 (S : SH) (o : Nat) (a0 : Int32) (a1 : Int32) (me : ME) : Option (Int32 × ME) :=
  some ((-1000000000 : Int32), me)
def mX10_place_j86 (S : SH) (o : Nat) (a0 : Int32) (a1 : Int32) (me : ME) (y0 : Int64) (y1 : Int64) (y2 : Int32) : Option (Int32 × ME) :=
  (mX10_lowest S me y0 y1 y2).bind fun q1 =>
  some (q1.1, q1.2)
def mX10_place_j71 (S : SH) (o : Nat) (a0 : Int32) (a1 : Int32) (me : ME) (y0 : Int64) : Option (Int32 × ME) :=
  (gJ S me 10 27 o).bind fun v3 =>
  if (a1 - a1 / (2 : Int32) * (2 : Int32)) = 0 then
    mX10_place_j86 S o a0 a1 me y0 v3 (1 : Int32)
  else
    mX10_place_j86 S o a0 a1 me y0 v3 (0 : Int32)
def mX10_place (S : SH) (me : ME) (o : Nat) (a0 : Int32) (a1 : Int32) : Option (Int32 × ME) :=
  (ck S 10 o).bind fun _ => (mX10_layGroups S me o).bind fun q6 =>
  (gI S q6.2 10 20 o).bind fun v9 =>
  (mX10_in S q6.2 a0 (0 : Int32) (v9 - (1 : Int32))).bind fun q11 =>
  if q11.1 = 0 then
    mX10_place_j40 S o a0 a1 q11.2
  else
    (mX10_in S q11.2 a1 (0 : Int32) (5 : Int32)).bind fun q14 =>
    if q14.1 = 0 then
      mX10_place_j40 S o a0 a1 q14.2
    else
      (gR S 10 21 o).bind fun v17 =>
      (aI S q14.2 11 v17 a0).bind fun v19 =>
      (ck S 10 o).bind fun _ => (mX10_verdictOf S q14.2 o v19).bind fun q21 =>
      if q21.1 = 0 then
        if (2 : Int32) ≤ a1 then
          if (4 : Int32) ≤ a1 then
            (gJ S q21.2 10 26 o).bind fun v27 =>
            mX10_place_j71 S o a0 a1 q21.2 v27
          else
            (gJ S q21.2 10 25 o).bind fun v29 =>
            mX10_place_j71 S o a0 a1 q21.2 v29
        else
          (gJ S q21.2 10 24 o).bind fun v31 =>
          mX10_place_j71 S o a0 a1 q21.2 v31
      else
        mX10_place_j40 S o a0 a1 q21.2
set_option maxRecDepth 100000 in
set_option maxHeartbeats 4000000 in
theorem kX10_place (l : Launch) (D : va_G) (b : Nat) {S : SH} {me : ME} {o : Nat} {a0 : Int32} {a1 : Int32} {q : Int32 × ME} (hM : mX10_place S me o a0 a1 = some q) : Ct l D b yX10_place cX10_place 3 (some .int) 5 118 0 0 [.ref (b + o), .int a0, .int a1] S me S q.2 (some (.int q.1)) := by
  refine ct_of (own := RX10) (nm := "place") (lv := [(0, .ref (b + o)), (1, .int a0), (2, .int a1)]) (plainFor_of_name (by decide)) rfl rfl (Nat.le_of_ble_eq_true rfl) rfl ⟨rfl, rfl⟩ (fun X cx ex hL => ?_)
  have J40 : ∀ (me : ME), mX10_place_j40 S o a0 a1 me = some q → WS X b 3 S me 40 [] [] := by
    intro  me hM
    unfold mX10_place_j40 at hM
    refine ws_ldc cx cwX10_144 dX10_place_40 ?_
    exact ws_iretM cx ex hM dX10_place_42
  have J86 : ∀ (me : ME) (y0 : Int64) (y1 : Int64) (y2 : Int32), mX10_place_j86 S o a0 a1 me y0 y1 y2 = some q → WS X b 3 S me 86 [] [.int y2, .long y1, .long y0] := by
    intro  me y0 y1 y2 hM
    unfold mX10_place_j86 at hM
    obtain ⟨q1, h2, hM⟩ := bnd hM
    refine ws_callS cx (rest := []) (st' := [.int q1.1]) (kX10_lowest l D b h2) mvX10_lowest lkX10_240 rfl ⟨by decide, by decide⟩ (Nat.le_of_ble_eq_true rfl) ⟨rfl, rfl⟩ (Or.inl ⟨rfl, rfl⟩) rfl rfl dX10_place_86 ?_
    exact ws_iretM cx ex hM dX10_place_89
  have J71 : ∀ (me : ME) (y0 : Int64), mX10_place_j71 S o a0 a1 me y0 = some q → WS X b 3 S me 71 [(0, .ref (b + o)), (2, .int a1)] [.long y0] := by
    intro  me y0 hM
    unfold mX10_place_j71 at hM
    refine ws_aload_n cx dX10_place_71 rfl (j := 0) rfl ?_
    obtain ⟨v3, h4, hM⟩ := bnd hM
    refine ws_getJ cx ffX10_178 h4 dX10_place_72 ?_
    refine ws_iload_n cx dX10_place_75 rfl (j := 1) rfl ?_
    refine ws_iconst cx dX10_place_76 (v := 2) (by decide) ?_
    refine ws_irem cx (by decide) dX10_place_77 ?_
    refine ws_if_ne cx dX10_place_78 (tgt := 85) (by decide) (fun c5 => ?_) (fun c5 => ?_)
    · have hM := if_f hM c5
      refine ws_iconst cx dX10_place_85 (v := 0) (by decide) ?_
      refine ws_sub [] (lv' := []) rfl ?_
      exact J86 _ _ _ _ hM
    · have hM := if_t hM c5
      refine ws_iconst cx dX10_place_81 (v := 1) (by decide) ?_
      refine ws_goto cx dX10_place_82 (tgt := 86) (by decide) ?_
      refine ws_sub [] (lv' := []) rfl ?_
      exact J86 _ _ _ _ hM
  unfold mX10_place at hM
  refine ws_aload_n cx dX10_place_0 rfl (j := 0) rfl ?_
  obtain ⟨_, h8, hM⟩ := bnd hM
  obtain ⟨q6, h7, hM⟩ := bnd hM
  refine ws_callV cx (rest := []) (st' := []) (kX10_layGroups l D b h7) mvX10_layGroups (ck_k h8) (by decide) (q := (RX10, TX10, 31)) rfl seX10_layGroups lkX10_135 rfl ⟨by decide, by decide⟩ (Nat.le_of_ble_eq_true rfl) ⟨rfl, rfl⟩ (Or.inl ⟨rfl, rfl⟩) rfl rfl dX10_place_1 ?_
  refine ws_iload_n cx dX10_place_4 rfl (j := 1) rfl ?_
  refine ws_iconst cx dX10_place_5 (v := 0) (by decide) ?_
  refine ws_aload_n cx dX10_place_6 rfl (j := 0) rfl ?_
  obtain ⟨v9, h10, hM⟩ := bnd hM
  refine ws_getI cx ffX10_122 h10 dX10_place_7 ?_
  refine ws_iconst cx dX10_place_10 (v := 1) (by decide) ?_
  refine ws_isub cx dX10_place_11 ?_
  obtain ⟨q11, h12, hM⟩ := bnd hM
  refine ws_callS cx (rest := []) (st' := [.int q11.1]) (kX10_in l D b h12) mvX10_in lkX10_48 rfl ⟨by decide, by decide⟩ (Nat.le_of_ble_eq_true rfl) ⟨rfl, rfl⟩ (Or.inl ⟨rfl, rfl⟩) rfl rfl dX10_place_12 ?_
  refine ws_if_eq cx dX10_place_15 (tgt := 40) (by decide) (fun c13 => ?_) (fun c13 => ?_)
  · have hM := if_t hM c13
    refine ws_sub [] (lv' := []) rfl ?_
    exact J40 _ hM
  · have hM := if_f hM c13
    refine ws_iload_n cx dX10_place_18 rfl (j := 2) rfl ?_
    refine ws_iconst cx dX10_place_19 (v := 0) (by decide) ?_
    refine ws_iconst cx dX10_place_20 (v := 5) (by decide) ?_
    obtain ⟨q14, h15, hM⟩ := bnd hM
    refine ws_callS cx (rest := []) (st' := [.int q14.1]) (kX10_in l D b h15) mvX10_in lkX10_48 rfl ⟨by decide, by decide⟩ (Nat.le_of_ble_eq_true rfl) ⟨rfl, rfl⟩ (Or.inl ⟨rfl, rfl⟩) rfl rfl dX10_place_21 ?_
    refine ws_if_eq cx dX10_place_24 (tgt := 40) (by decide) (fun c16 => ?_) (fun c16 => ?_)
    · have hM := if_t hM c16
      refine ws_sub [] (lv' := []) rfl ?_
      exact J40 _ hM
    · have hM := if_f hM c16
      refine ws_aload_n cx dX10_place_27 rfl (j := 0) rfl ?_
      refine ws_aload_n cx dX10_place_28 rfl (j := 0) rfl ?_
      obtain ⟨v17, h18, hM⟩ := bnd hM
      refine ws_getR cx ffX10_41 h18 dX10_place_29 ?_
      refine ws_iload_n cx dX10_place_32 rfl (j := 1) rfl ?_
      obtain ⟨v19, h20, hM⟩ := bnd hM
      refine ws_iald cx h20 dX10_place_33 ?_
      obtain ⟨_, h23, hM⟩ := bnd hM
      obtain ⟨q21, h22, hM⟩ := bnd hM
      refine ws_callV cx (rest := []) (st' := [.int q21.1]) (kX10_verdictOf l D b h22) mvX10_verdictOf (ck_k h23) (by decide) (q := (RX10, TX10, 31)) rfl seX10_verdictOf lkX10_207 rfl ⟨by decide, by decide⟩ (Nat.le_of_ble_eq_true rfl) ⟨rfl, rfl⟩ (Or.inl ⟨rfl, rfl⟩) rfl rfl dX10_place_34 ?_
      refine ws_if_eq cx dX10_place_37 (tgt := 43) (by decide) (fun c24 => ?_) (fun c24 => ?_)
      · have hM := if_t hM c24
        refine ws_iload_n cx dX10_place_43 rfl (j := 2) rfl ?_
        refine ws_iconst cx dX10_place_44 (v := 2) (by decide) ?_
        refine ws_icmp_ge cx dX10_place_45 (tgt := 55) (by decide) (fun c25 => ?_) (fun c25 => ?_)
        · have hM := if_t hM c25
          refine ws_iload_n cx dX10_place_55 rfl (j := 2) rfl ?_
          refine ws_iconst cx dX10_place_56 (v := 4) (by decide) ?_
          refine ws_icmp_ge cx dX10_place_57 (tgt := 67) (by decide) (fun c26 => ?_) (fun c26 => ?_)
          · have hM := if_t hM c26
            refine ws_aload_n cx dX10_place_67 rfl (j := 0) rfl ?_
            obtain ⟨v27, h28, hM⟩ := bnd hM
            refine ws_getJ cx ffX10_188 h28 dX10_place_68 ?_
            refine ws_sub [0, 2] (lv' := [(0, .ref (b + o)), (2, .int a1)]) rfl ?_
            exact J71 _ _ hM
          · have hM := if_f hM c26
            refine ws_aload_n cx dX10_place_60 rfl (j := 0) rfl ?_
            obtain ⟨v29, h30, hM⟩ := bnd hM
            refine ws_getJ cx ffX10_185 h30 dX10_place_61 ?_
            refine ws_goto cx dX10_place_64 (tgt := 71) (by decide) ?_
            refine ws_sub [0, 2] (lv' := [(0, .ref (b + o)), (2, .int a1)]) rfl ?_
            exact J71 _ _ hM
        · have hM := if_f hM c25
          refine ws_aload_n cx dX10_place_48 rfl (j := 0) rfl ?_
          obtain ⟨v31, h32, hM⟩ := bnd hM
          refine ws_getJ cx ffX10_182 h32 dX10_place_49 ?_
          refine ws_goto cx dX10_place_52 (tgt := 71) (by decide) ?_
          refine ws_sub [0, 2] (lv' := [(0, .ref (b + o)), (2, .int a1)]) rfl ?_
          exact J71 _ _ hM
      · have hM := if_f hM c24
        refine ws_sub [] (lv' := []) rfl ?_
        exact J40 _ hM
