def mX8_init (S0 : SH) (me : ME) (o : Nat) : Option (SH × ME) :=
  (nwA (S0.1.length + 1, sO S0 + 110) S0 me 11 (110 : Int32)).bind fun p2 =>
  (sR p2.1 8 0 o S0.1.length).bind fun S4 =>
  some (S4, p2.2)
set_option maxRecDepth 100000 in
set_option maxHeartbeats 4000000 in
theorem kX8_init (l : Launch) (D : va_G) (b : Nat) {S0 : SH} {me : ME} {o : Nat} {q : SH × ME} (hM : mX8_init S0 me o = some q) (hz : q.1.1.length = S0.1.length + 1 ∧ sO q.1 = sO S0 + 110) : Ct l D b yX8_init cX8_init 1 none 1 12 1 110 [.ref (b + o)] S0 me q.1 q.2 none := by
  refine ct_of (own := RX8) (nm := "<init>") (lv := [(0, .ref (b + o))]) (plainFor_of_name (by decide)) rfl rfl (Nat.le_of_ble_eq_true rfl) rfl hz (fun X cx ex hL => ?_)
  unfold mX8_init at hM
  refine ws_aload_n cx dX8_init_0 rfl (j := 0) rfl ?_
  refine ws_objInit cx lkX8_3 wOI wOC ⟨by decide, by decide⟩ dX8_init_1 ?_
  refine ws_aload_n cx dX8_init_4 rfl (j := 0) rfl ?_
  refine ws_bipush cx dX8_init_5 (v := 110) (by decide) ?_
  obtain ⟨p2, h1, hM⟩ := bnd hM
  refine ws_newaM cx hL (c := 11) (a := .int) ⟨rfl, by decide⟩ wAint h1 dX8_init_7 ?_
  obtain ⟨S4, h3, hM⟩ := bnd hM
  refine ws_putR cx ffX8_9 (Or.inr ⟨rfl, fun q h => by cases h; rfl⟩) h3 dX8_init_9 ?_
  exact ws_vretC cx ex hM dX8_init_12

def mX6_init (S0 : SH) (me : ME) (o : Nat) : Option (SH × ME) :=
  (nwA (S0.1.length + 2, sO S0 + 12) S0 me 11 (6 : Int32)).bind fun p2 =>
  (sR p2.1 6 0 o S0.1.length).bind fun S4 =>
  (nwA (S0.1.length + 2, sO S0 + 12) S4 p2.2 11 (6 : Int32)).bind fun p6 =>
  (sR p6.1 6 1 o S4.1.length).bind fun S8 =>
  some (S8, p6.2)
set_option maxRecDepth 100000 in
set_option maxHeartbeats 4000000 in
theorem kX6_init (l : Launch) (D : va_G) (b : Nat) {S0 : SH} {me : ME} {o : Nat} {q : SH × ME} (hM : mX6_init S0 me o = some q) (hz : q.1.1.length = S0.1.length + 2 ∧ sO q.1 = sO S0 + 12) : Ct l D b yX6_init cX6_init 1 none 1 12 2 12 [.ref (b + o)] S0 me q.1 q.2 none := by
  refine ct_of (own := RX6) (nm := "<init>") (lv := [(0, .ref (b + o))]) (plainFor_of_name (by decide)) rfl rfl (Nat.le_of_ble_eq_true rfl) rfl hz (fun X cx ex hL => ?_)
  unfold mX6_init at hM
  refine ws_aload_n cx dX6_init_0 rfl (j := 0) rfl ?_
  refine ws_objInit cx lkX6_3 wOI wOC ⟨by decide, by decide⟩ dX6_init_1 ?_
  refine ws_aload_n cx dX6_init_4 rfl (j := 0) rfl ?_
  refine ws_bipush cx dX6_init_5 (v := 6) (by decide) ?_
  obtain ⟨p2, h1, hM⟩ := bnd hM
  refine ws_newaM cx hL (c := 11) (a := .int) ⟨rfl, by decide⟩ wAint h1 dX6_init_7 ?_
  obtain ⟨S4, h3, hM⟩ := bnd hM
  refine ws_putR cx ffX6_9 (Or.inr ⟨rfl, fun q h => by cases h; rfl⟩) h3 dX6_init_9 ?_
  refine ws_aload_n cx dX6_init_12 rfl (j := 0) rfl ?_
  refine ws_bipush cx dX6_init_13 (v := 6) (by decide) ?_
  obtain ⟨p6, h5, hM⟩ := bnd hM
  refine ws_newaM cx hL (c := 11) (a := .int) ⟨rfl, by decide⟩ wAint h5 dX6_init_15 ?_
  obtain ⟨S8, h7, hM⟩ := bnd hM
  refine ws_putR cx ffX6_15 (Or.inr ⟨rfl, fun q h => by cases h; rfl⟩) h7 dX6_init_17 ?_
  exact ws_vretC cx ex hM dX6_init_20

def mX2_init (S0 : SH) (me : ME) (o : Nat) : Option (SH × ME) :=
  (nwA (S0.1.length + 3, sO S0 + 24) S0 me 11 (9 : Int32)).bind fun p2 =>
  (sR p2.1 2 0 o S0.1.length).bind fun S4 =>
  (nwA (S0.1.length + 3, sO S0 + 24) S4 p2.2 11 (9 : Int32)).bind fun p6 =>
  (sR p6.1 2 1 o S4.1.length).bind fun S8 =>
  (nwA (S0.1.length + 3, sO S0 + 24) S8 p6.2 11 (6 : Int32)).bind fun p10 =>
  (sR p10.1 2 2 o S8.1.length).bind fun S12 =>
  some (S12, p10.2)
set_option maxRecDepth 100000 in
set_option maxHeartbeats 4000000 in
theorem kX2_init (l : Launch) (D : va_G) (b : Nat) {S0 : SH} {me : ME} {o : Nat} {q : SH × ME} (hM : mX2_init S0 me o = some q) (hz : q.1.1.length = S0.1.length + 3 ∧ sO q.1 = sO S0 + 24) : Ct l D b yX2_init cX2_init 1 none 1 12 3 24 [.ref (b + o)] S0 me q.1 q.2 none := by
  refine ct_of (own := RX2) (nm := "<init>") (lv := [(0, .ref (b + o))]) (plainFor_of_name (by decide)) rfl rfl (Nat.le_of_ble_eq_true rfl) rfl hz (fun X cx ex hL => ?_)
  unfold mX2_init at hM
  refine ws_aload_n cx dX2_init_0 rfl (j := 0) rfl ?_
  refine ws_objInit cx lkX2_3 wOI wOC ⟨by decide, by decide⟩ dX2_init_1 ?_
  refine ws_aload_n cx dX2_init_4 rfl (j := 0) rfl ?_
  refine ws_bipush cx dX2_init_5 (v := 9) (by decide) ?_
  obtain ⟨p2, h1, hM⟩ := bnd hM
  refine ws_newaM cx hL (c := 11) (a := .int) ⟨rfl, by decide⟩ wAint h1 dX2_init_7 ?_
  obtain ⟨S4, h3, hM⟩ := bnd hM
  refine ws_putR cx ffX2_9 (Or.inr ⟨rfl, fun q h => by cases h; rfl⟩) h3 dX2_init_9 ?_
  refine ws_aload_n cx dX2_init_12 rfl (j := 0) rfl ?_
  refine ws_bipush cx dX2_init_13 (v := 9) (by decide) ?_
  obtain ⟨p6, h5, hM⟩ := bnd hM
  refine ws_newaM cx hL (c := 11) (a := .int) ⟨rfl, by decide⟩ wAint h5 dX2_init_15 ?_
  obtain ⟨S8, h7, hM⟩ := bnd hM
  refine ws_putR cx ffX2_15 (Or.inr ⟨rfl, fun q h => by cases h; rfl⟩) h7 dX2_init_17 ?_
  refine ws_aload_n cx dX2_init_20 rfl (j := 0) rfl ?_
  refine ws_bipush cx dX2_init_21 (v := 6) (by decide) ?_
  obtain ⟨p10, h9, hM⟩ := bnd hM
  refine ws_newaM cx hL (c := 11) (a := .int) ⟨rfl, by decide⟩ wAint h9 dX2_init_23 ?_
  obtain ⟨S12, h11, hM⟩ := bnd hM
  refine ws_putR cx ffX2_18 (Or.inr ⟨rfl, fun q h => by cases h; rfl⟩) h11 dX2_init_25 ?_
  exact ws_vretC cx ex hM dX2_init_28

def mX3_init (S0 : SH) (me : ME) (o : Nat) : Option (SH × ME) :=
  (nwO (S0.1.length + 7, sO S0 + 43) S0 me 6 3).bind fun p2 =>
  (mX6_init p2.1 p2.2 S0.1.length).bind fun q3 => (ckC (S0.1.length + 7, sO S0 + 43) p2.1 q3.1 2 12).bind fun _ =>
  (sR q3.1 3 0 o S0.1.length).bind fun S7 =>
  (nwO (S0.1.length + 7, sO S0 + 43) S7 q3.2 2 4).bind fun p9 =>
  (mX2_init p9.1 p9.2 S7.1.length).bind fun q10 => (ckC (S0.1.length + 7, sO S0 + 43) p9.1 q10.1 3 24).bind fun _ =>
  (sR q10.1 3 1 o S7.1.length).bind fun S14 =>
  some (S14, q10.2)
set_option maxRecDepth 100000 in
set_option maxHeartbeats 4000000 in
theorem kX3_init (l : Launch) (D : va_G) (b : Nat) {S0 : SH} {me : ME} {o : Nat} {q : SH × ME} (hM : mX3_init S0 me o = some q) (hz : q.1.1.length = S0.1.length + 7 ∧ sO q.1 = sO S0 + 43) : Ct l D b yX3_init cX3_init 1 none 2 32 7 43 [.ref (b + o)] S0 me q.1 q.2 none := by
  refine ct_of (own := RX3) (nm := "<init>") (lv := [(0, .ref (b + o))]) (plainFor_of_name (by decide)) rfl rfl (Nat.le_of_ble_eq_true rfl) rfl hz (fun X cx ex hL => ?_)
  unfold mX3_init at hM
  refine ws_aload_n cx dX3_init_0 rfl (j := 0) rfl ?_
  refine ws_objInit cx lkX3_3 wOI wOC ⟨by decide, by decide⟩ dX3_init_1 ?_
  refine ws_aload_n cx dX3_init_4 rfl (j := 0) rfl ?_
  obtain ⟨p2, h1, hM⟩ := bnd hM
  refine ws_newM cx hL ncX3_9 rfl h1 dX3_init_5 ?_
  refine ws_dup cx dX3_init_8 rfl ?_
  obtain ⟨q3, h4, hM⟩ := bnd hM
  obtain ⟨_, h5, hM⟩ := bnd hM
  have h5 := ckC_s h5
  refine ws_callIN cx (rest := [.ref (b + S0.1.length), .ref (b + o)]) (kX6_init l D b h4 h5.1) mvX6_init rfl lnX3_11 rfl ⟨by decide, by decide⟩ (Nat.le_of_ble_eq_true rfl) h5.1 (Or.inr ⟨_, hL, h5.2⟩) rfl dX3_init_9 ?_
  obtain ⟨S7, h6, hM⟩ := bnd hM
  refine ws_putR cx ffX3_12 (Or.inr ⟨rfl, fun q h => by cases h; rfl⟩) h6 dX3_init_12 ?_
  refine ws_aload_n cx dX3_init_15 rfl (j := 0) rfl ?_
  obtain ⟨p9, h8, hM⟩ := bnd hM
  refine ws_newM cx hL ncX3_18 rfl h8 dX3_init_16 ?_
  refine ws_dup cx dX3_init_19 rfl ?_
  obtain ⟨q10, h11, hM⟩ := bnd hM
  obtain ⟨_, h12, hM⟩ := bnd hM
  have h12 := ckC_s h12
  refine ws_callIN cx (rest := [.ref (b + S7.1.length), .ref (b + o)]) (kX2_init l D b h11 h12.1) mvX2_init rfl lnX3_20 rfl ⟨by decide, by decide⟩ (Nat.le_of_ble_eq_true rfl) h12.1 (Or.inr ⟨_, hL, h12.2⟩) rfl dX3_init_20 ?_
  obtain ⟨S14, h13, hM⟩ := bnd hM
  refine ws_putR cx ffX3_21 (Or.inr ⟨rfl, fun q h => by cases h; rfl⟩) h13 dX3_init_23 ?_
  exact ws_vretC cx ex hM dX3_init_26

def mX4_init_j40 (S0 : SH) (o : Nat) (S : SH) (me : ME) : Option (SH × ME) :=
  some (S, me)
def mX4_init_L15 (S0 : SH) (o : Nat) (k15 : (SH × ME × Int32 → Option (SH × ME))) : SH × ME × Int32 → Option (SH × ME)
  | (S, me, x1) =>
    if (10 : Int32) ≤ x1 then
      mX4_init_j40 S0 o S me
    else
      (gR S 4 0 o).bind fun v2 =>
      (nwO (S0.1.length + 41, sO S0 + 290) S me 2 4).bind fun p5 =>
      (mX2_init p5.1 p5.2 S.1.length).bind fun q6 => (ckC (S0.1.length + 41, sO S0 + 290) p5.1 q6.1 3 24).bind fun _ =>
      (uR q6.1 v2 x1 S.1.length).bind fun S10 =>
      k15 (S10, q6.2, x1 + (1 : Int32))
def mX4_init (S0 : SH) (me : ME) (o : Nat) : Option (SH × ME) :=
  (nwA (S0.1.length + 41, sO S0 + 290) S0 me 14 (10 : Int32)).bind fun p12 =>
  (sR p12.1 4 0 o S0.1.length).bind fun S14 =>
  lpn (mX4_init_L15 S0 o) lpF (S14, p12.2, (0 : Int32))
set_option maxRecDepth 100000 in
set_option maxHeartbeats 4000000 in
theorem kX4_init (l : Launch) (D : va_G) (b : Nat) {S0 : SH} {me : ME} {o : Nat} {q : SH × ME} (hM : mX4_init S0 me o = some q) (hz : q.1.1.length = S0.1.length + 41 ∧ sO q.1 = sO S0 + 290) : Ct l D b yX4_init cX4_init 2 none 2 32 41 290 [.ref (b + o)] S0 me q.1 q.2 none := by
  refine ct_of (own := RX4) (nm := "<init>") (lv := [(0, .ref (b + o))]) (plainFor_of_name (by decide)) rfl rfl (Nat.le_of_ble_eq_true rfl) rfl hz (fun X cx ex hL => ?_)
  have J40 : ∀ (S : SH) (me : ME), mX4_init_j40 S0 o S me = some q → WS X b 2 S me 40 [] [] := by
    intro  S me hM
    unfold mX4_init_j40 at hM
    exact ws_vretC cx ex hM dX4_init_40
  have L15 : ∀ (n : Nat) (S : SH) (me : ME) (x1 : Int32), lpn (mX4_init_L15 S0 o) n (S, me, x1) = some q → WS X b 2 S me 15 [(0, .ref (b + o)), (1, .int x1)] [] := by
    intro  n
    induction n with
    | zero => intro S me x1 hM; exact absurd hM (by intro h; cases h)
    | succ n ih =>
      intro S me x1 hM
      have hM : mX4_init_L15 S0 o (lpn (mX4_init_L15 S0 o) n) (S, me, x1) = some q := hM
      unfold mX4_init_L15 at hM
      refine ws_iload_n cx dX4_init_15 rfl (j := 1) rfl ?_
      refine ws_bipush cx dX4_init_16 (v := 10) (by decide) ?_
      refine ws_icmp_ge cx dX4_init_18 (tgt := 40) (by decide) (fun c1 => ?_) (fun c1 => ?_)
      · have hM := if_t hM c1
        refine ws_sub [] (lv' := []) rfl ?_
        exact J40 _ _ hM
      · have hM := if_f hM c1
        refine ws_aload_n cx dX4_init_21 rfl (j := 0) rfl ?_
        obtain ⟨v2, h3, hM⟩ := bnd hM
        refine ws_getR cx ffX4_11 h3 dX4_init_22 ?_
        refine ws_iload_n cx dX4_init_25 rfl (j := 1) rfl ?_
        obtain ⟨p5, h4, hM⟩ := bnd hM
        refine ws_newM cx hL ncX4_9 rfl h4 dX4_init_26 ?_
        refine ws_dup cx dX4_init_29 rfl ?_
        obtain ⟨q6, h7, hM⟩ := bnd hM
        obtain ⟨_, h8, hM⟩ := bnd hM
        have h8 := ckC_s h8
        refine ws_callIN cx (rest := [.ref (b + S.1.length), .int x1, .ref (b + v2)]) (kX2_init l D b h7 h8.1) mvX2_init rfl lnX4_17 rfl ⟨by decide, by decide⟩ (Nat.le_of_ble_eq_true rfl) h8.1 (Or.inr ⟨_, hL, h8.2⟩) rfl dX4_init_30 ?_
        obtain ⟨S10, h9, hM⟩ := bnd hM
        refine ws_aast cx h9 dX4_init_33 ?_
        refine ws_iinc cx dX4_init_34 (j := 1) rfl (v := x1 + (1 : Int32)) rfl (by decide) (lv' := [(1, .int (x1 + (1 : Int32))), (0, .ref (b + o))]) rfl ?_
        refine ws_goto cx dX4_init_37 (tgt := 15) (by decide) ?_
        refine ws_sub [1, 0] (lv' := [(0, .ref (b + o)), (1, .int (x1 + (1 : Int32)))]) rfl ?_
        exact ih _ _ _ hM
  unfold mX4_init at hM
  refine ws_aload_n cx dX4_init_0 rfl (j := 0) rfl ?_
  refine ws_objInit cx lkX4_3 wOI wOC ⟨by decide, by decide⟩ dX4_init_1 ?_
  refine ws_aload_n cx dX4_init_4 rfl (j := 0) rfl ?_
  refine ws_bipush cx dX4_init_5 (v := 10) (by decide) ?_
  obtain ⟨p12, h11, hM⟩ := bnd hM
  refine ws_anewM cx hL wOLog clX4_9 h11 dX4_init_7 ?_
  obtain ⟨S14, h13, hM⟩ := bnd hM
  refine ws_putR cx ffX4_11 (Or.inr ⟨rfl, fun q h => by cases h; rfl⟩) h13 dX4_init_10 ?_
  refine ws_iconst cx dX4_init_13 (v := 0) (by decide) ?_
  refine ws_istore_n cx dX4_init_14 rfl (by decide) (lv' := [(1, .int (0 : Int32)), (0, .ref (b + o))]) rfl ?_
  refine ws_sub [1, 0] (lv' := [(0, .ref (b + o)), (1, .int (0 : Int32))]) rfl ?_
  exact L15 _ _ _ _ hM

def mX5_init (S0 : SH) (me : ME) (o : Nat) : Option (SH × ME) :=
  (nwA (S0.1.length + 4, sO S0 + 36) S0 me 11 (9 : Int32)).bind fun p2 =>
  (sR p2.1 5 0 o S0.1.length).bind fun S4 =>
  (nwA (S0.1.length + 4, sO S0 + 36) S4 p2.2 11 (9 : Int32)).bind fun p6 =>
  (sR p6.1 5 1 o S4.1.length).bind fun S8 =>
  (nwA (S0.1.length + 4, sO S0 + 36) S8 p6.2 11 (9 : Int32)).bind fun p10 =>
  (sR p10.1 5 2 o S8.1.length).bind fun S12 =>
  (nwA (S0.1.length + 4, sO S0 + 36) S12 p10.2 11 (9 : Int32)).bind fun p14 =>
  (sR p14.1 5 3 o S12.1.length).bind fun S16 =>
  some (S16, p14.2)
set_option maxRecDepth 100000 in
set_option maxHeartbeats 4000000 in
theorem kX5_init (l : Launch) (D : va_G) (b : Nat) {S0 : SH} {me : ME} {o : Nat} {q : SH × ME} (hM : mX5_init S0 me o = some q) (hz : q.1.1.length = S0.1.length + 4 ∧ sO q.1 = sO S0 + 36) : Ct l D b yX5_init cX5_init 1 none 1 12 4 36 [.ref (b + o)] S0 me q.1 q.2 none := by
  refine ct_of (own := RX5) (nm := "<init>") (lv := [(0, .ref (b + o))]) (plainFor_of_name (by decide)) rfl rfl (Nat.le_of_ble_eq_true rfl) rfl hz (fun X cx ex hL => ?_)
  unfold mX5_init at hM
  refine ws_aload_n cx dX5_init_0 rfl (j := 0) rfl ?_
  refine ws_objInit cx lkX5_3 wOI wOC ⟨by decide, by decide⟩ dX5_init_1 ?_
  refine ws_aload_n cx dX5_init_4 rfl (j := 0) rfl ?_
  refine ws_bipush cx dX5_init_5 (v := 9) (by decide) ?_
  obtain ⟨p2, h1, hM⟩ := bnd hM
  refine ws_newaM cx hL (c := 11) (a := .int) ⟨rfl, by decide⟩ wAint h1 dX5_init_7 ?_
  obtain ⟨S4, h3, hM⟩ := bnd hM
  refine ws_putR cx ffX5_9 (Or.inr ⟨rfl, fun q h => by cases h; rfl⟩) h3 dX5_init_9 ?_
  refine ws_aload_n cx dX5_init_12 rfl (j := 0) rfl ?_
  refine ws_bipush cx dX5_init_13 (v := 9) (by decide) ?_
  obtain ⟨p6, h5, hM⟩ := bnd hM
  refine ws_newaM cx hL (c := 11) (a := .int) ⟨rfl, by decide⟩ wAint h5 dX5_init_15 ?_
  obtain ⟨S8, h7, hM⟩ := bnd hM
  refine ws_putR cx ffX5_15 (Or.inr ⟨rfl, fun q h => by cases h; rfl⟩) h7 dX5_init_17 ?_
  refine ws_aload_n cx dX5_init_20 rfl (j := 0) rfl ?_
  refine ws_bipush cx dX5_init_21 (v := 9) (by decide) ?_
  obtain ⟨p10, h9, hM⟩ := bnd hM
  refine ws_newaM cx hL (c := 11) (a := .int) ⟨rfl, by decide⟩ wAint h9 dX5_init_23 ?_
  obtain ⟨S12, h11, hM⟩ := bnd hM
  refine ws_putR cx ffX5_18 (Or.inr ⟨rfl, fun q h => by cases h; rfl⟩) h11 dX5_init_25 ?_
  refine ws_aload_n cx dX5_init_28 rfl (j := 0) rfl ?_
  refine ws_bipush cx dX5_init_29 (v := 9) (by decide) ?_
  obtain ⟨p14, h13, hM⟩ := bnd hM
  refine ws_newaM cx hL (c := 11) (a := .int) ⟨rfl, by decide⟩ wAint h13 dX5_init_31 ?_
  obtain ⟨S16, h15, hM⟩ := bnd hM
  refine ws_putR cx ffX5_21 (Or.inr ⟨rfl, fun q h => by cases h; rfl⟩) h15 dX5_init_33 ?_
  exact ws_vretC cx ex hM dX5_init_36

def mX1_init (S0 : SH) (me : ME) (o : Nat) : Option (SH × ME) :=
  (nwA (S0.1.length + 3, sO S0 + 27) S0 me 11 (9 : Int32)).bind fun p2 =>
  (sR p2.1 1 0 o S0.1.length).bind fun S4 =>
  (nwA (S0.1.length + 3, sO S0 + 27) S4 p2.2 11 (9 : Int32)).bind fun p6 =>
  (sR p6.1 1 1 o S4.1.length).bind fun S8 =>
  (nwA (S0.1.length + 3, sO S0 + 27) S8 p6.2 11 (9 : Int32)).bind fun p10 =>
  (sR p10.1 1 3 o S8.1.length).bind fun S12 =>
  some (S12, p10.2)
set_option maxRecDepth 100000 in
set_option maxHeartbeats 4000000 in
theorem kX1_init (l : Launch) (D : va_G) (b : Nat) {S0 : SH} {me : ME} {o : Nat} {q : SH × ME} (hM : mX1_init S0 me o = some q) (hz : q.1.1.length = S0.1.length + 3 ∧ sO q.1 = sO S0 + 27) : Ct l D b yX1_init cX1_init 1 none 1 12 3 27 [.ref (b + o)] S0 me q.1 q.2 none := by
  refine ct_of (own := RX1) (nm := "<init>") (lv := [(0, .ref (b + o))]) (plainFor_of_name (by decide)) rfl rfl (Nat.le_of_ble_eq_true rfl) rfl hz (fun X cx ex hL => ?_)
  unfold mX1_init at hM
  refine ws_aload_n cx dX1_init_0 rfl (j := 0) rfl ?_
  refine ws_objInit cx lkX1_3 wOI wOC ⟨by decide, by decide⟩ dX1_init_1 ?_
  refine ws_aload_n cx dX1_init_4 rfl (j := 0) rfl ?_
  refine ws_bipush cx dX1_init_5 (v := 9) (by decide) ?_
  obtain ⟨p2, h1, hM⟩ := bnd hM
  refine ws_newaM cx hL (c := 11) (a := .int) ⟨rfl, by decide⟩ wAint h1 dX1_init_7 ?_
  obtain ⟨S4, h3, hM⟩ := bnd hM
  refine ws_putR cx ffX1_9 (Or.inr ⟨rfl, fun q h => by cases h; rfl⟩) h3 dX1_init_9 ?_
  refine ws_aload_n cx dX1_init_12 rfl (j := 0) rfl ?_
  refine ws_bipush cx dX1_init_13 (v := 9) (by decide) ?_
  obtain ⟨p6, h5, hM⟩ := bnd hM
  refine ws_newaM cx hL (c := 11) (a := .int) ⟨rfl, by decide⟩ wAint h5 dX1_init_15 ?_
  obtain ⟨S8, h7, hM⟩ := bnd hM
  refine ws_putR cx ffX1_15 (Or.inr ⟨rfl, fun q h => by cases h; rfl⟩) h7 dX1_init_17 ?_
  refine ws_aload_n cx dX1_init_20 rfl (j := 0) rfl ?_
  refine ws_bipush cx dX1_init_21 (v := 9) (by decide) ?_
  obtain ⟨p10, h9, hM⟩ := bnd hM
  refine ws_newaM cx hL (c := 11) (a := .int) ⟨rfl, by decide⟩ wAint h9 dX1_init_23 ?_
  obtain ⟨S12, h11, hM⟩ := bnd hM
  refine ws_putR cx ffX1_18 (Or.inr ⟨rfl, fun q h => by cases h; rfl⟩) h11 dX1_init_25 ?_
  exact ws_vretC cx ex hM dX1_init_28

def mX7_init (S0 : SH) (me : ME) (o : Nat) (a0 : Nat) : Option (SH × ME) :=
  (nwG (S0.1.length + 10, sO S0 + 45) S0 me (9 : Int32) (4 : Int32)).bind fun p2 =>
  (sR p2.1 7 1 o S0.1.length).bind fun S4 =>
  (sR S4 7 0 o a0).bind fun S6 =>
  some (S6, p2.2)
set_option maxRecDepth 100000 in
set_option maxHeartbeats 4000000 in
theorem kX7_init (l : Launch) (D : va_G) (b : Nat) {S0 : SH} {me : ME} {o : Nat} {a0 : Nat} {q : SH × ME} (hM : mX7_init S0 me o a0 = some q) (hz : q.1.1.length = S0.1.length + 10 ∧ sO q.1 = sO S0 + 45) : Ct l D b yX7_init cX7_init 2 none 1 12 10 45 [.ref (b + o), .ref (b + a0)] S0 me q.1 q.2 none := by
  refine ct_of (own := RX7) (nm := "<init>") (lv := [(0, .ref (b + o)), (1, .ref (b + a0))]) (plainFor_of_name (by decide)) rfl rfl (Nat.le_of_ble_eq_true rfl) rfl hz (fun X cx ex hL => ?_)
  unfold mX7_init at hM
  refine ws_aload_n cx dX7_init_0 rfl (j := 0) rfl ?_
  refine ws_objInit cx lkX7_3 wOI wOC ⟨by decide, by decide⟩ dX7_init_1 ?_
  refine ws_aload_n cx dX7_init_4 rfl (j := 0) rfl ?_
  refine ws_bipush cx dX7_init_5 (v := 9) (by decide) ?_
  refine ws_iconst cx dX7_init_7 (v := 4) (by decide) ?_
  obtain ⟨p2, h1, hM⟩ := bnd hM
  refine ws_mnaM cx hL wOArr wAlong clX7_11 h1 dX7_init_8 ?_
  obtain ⟨S4, h3, hM⟩ := bnd hM
  refine ws_putR cx ffX7_13 (Or.inr ⟨rfl, fun q h => by cases h; rfl⟩) h3 dX7_init_12 ?_
  refine ws_aload_n cx dX7_init_15 rfl (j := 0) rfl ?_
  refine ws_aload_n cx dX7_init_16 rfl (j := 1) rfl ?_
  obtain ⟨S6, h5, hM⟩ := bnd hM
  refine ws_putR cx ffX7_16 (Or.inr ⟨rfl, fun q h => by cases h; rfl⟩) h5 dX7_init_17 ?_
  exact ws_vretC cx ex hM dX7_init_20

def mX0_init (S0 : SH) (me : ME) (o : Nat) (a0 : Nat) (a1 : Nat) : Option (SH × ME) :=
  (sR S0 0 0 o a0).bind fun S2 =>
  (sR S2 0 1 o a1).bind fun S4 =>
  some (S4, me)
set_option maxRecDepth 100000 in
set_option maxHeartbeats 4000000 in
theorem kX0_init (l : Launch) (D : va_G) (b : Nat) {S0 : SH} {me : ME} {o : Nat} {a0 : Nat} {a1 : Nat} {q : SH × ME} (hM : mX0_init S0 me o a0 a1 = some q) (hz : q.1.1.length = S0.1.length + 0 ∧ sO q.1 = sO S0 + 0) : Ct l D b yX0_init cX0_init 3 none 1 12 0 0 [.ref (b + o), .ref (b + a0), .ref (b + a1)] S0 me q.1 q.2 none := by
  refine ct_of (own := RX0) (nm := "<init>") (lv := [(0, .ref (b + o)), (1, .ref (b + a0)), (2, .ref (b + a1))]) (plainFor_of_name (by decide)) rfl rfl (Nat.le_of_ble_eq_true rfl) rfl hz (fun X cx ex hL => ?_)
  unfold mX0_init at hM
  refine ws_aload_n cx dX0_init_0 rfl (j := 0) rfl ?_
  refine ws_objInit cx lkX0_3 wOI wOC ⟨by decide, by decide⟩ dX0_init_1 ?_
  refine ws_aload_n cx dX0_init_4 rfl (j := 0) rfl ?_
  refine ws_aload_n cx dX0_init_5 rfl (j := 1) rfl ?_
  obtain ⟨S2, h1, hM⟩ := bnd hM
  refine ws_putR cx ffX0_9 (Or.inr ⟨rfl, fun q h => by cases h; rfl⟩) h1 dX0_init_6 ?_
  refine ws_aload_n cx dX0_init_9 rfl (j := 0) rfl ?_
  refine ws_aload_n cx dX0_init_10 rfl (j := 2) rfl ?_
  obtain ⟨S4, h3, hM⟩ := bnd hM
  refine ws_putR cx ffX0_15 (Or.inr ⟨rfl, fun q h => by cases h; rfl⟩) h3 dX0_init_11 ?_
  exact ws_vretC cx ex hM dX0_init_14

def mX9_init_j156 (S0 : SH) (o : Nat) (S : SH) (me : ME) : Option (SH × ME) :=
  some (S, me)
def mX9_init_L132 (S0 : SH) (o : Nat) (k132 : (SH × ME × Int32 → Option (SH × ME))) : SH × ME × Int32 → Option (SH × ME)
  | (S, me, x1) =>
    if (2 : Int32) ≤ x1 then
      mX9_init_j156 S0 o S me
    else
      (gR S 9 5 o).bind fun v2 =>
      (nwO (S0.1.length + 90, sO S0 + 689) S me 2 4).bind fun p5 =>
      (mX2_init p5.1 p5.2 S.1.length).bind fun q6 => (ckC (S0.1.length + 90, sO S0 + 689) p5.1 q6.1 3 24).bind fun _ =>
      (uR q6.1 v2 x1 S.1.length).bind fun S10 =>
      k132 (S10, q6.2, x1 + (1 : Int32))
def mX9_init (S0 : SH) (me : ME) (o : Nat) : Option (SH × ME) :=
  (nwO (S0.1.length + 90, sO S0 + 689) S0 me 8 2).bind fun p12 =>
  (mX8_init p12.1 p12.2 S0.1.length).bind fun q13 => (ckC (S0.1.length + 90, sO S0 + 689) p12.1 q13.1 1 110).bind fun _ =>
  (sR q13.1 9 0 o S0.1.length).bind fun S17 =>
  (nwO (S0.1.length + 90, sO S0 + 689) S17 q13.2 3 7).bind fun p19 =>
  (mX3_init p19.1 p19.2 S17.1.length).bind fun q20 => (ckC (S0.1.length + 90, sO S0 + 689) p19.1 q20.1 7 43).bind fun _ =>
  (sR q20.1 9 1 o S17.1.length).bind fun S24 =>
  (nwO (S0.1.length + 90, sO S0 + 689) S24 q20.2 6 3).bind fun p26 =>
  (mX6_init p26.1 p26.2 S24.1.length).bind fun q27 => (ckC (S0.1.length + 90, sO S0 + 689) p26.1 q27.1 2 12).bind fun _ =>
  (sR q27.1 9 2 o S24.1.length).bind fun S31 =>
  (nwO (S0.1.length + 90, sO S0 + 689) S31 q27.2 2 4).bind fun p33 =>
  (mX2_init p33.1 p33.2 S31.1.length).bind fun q34 => (ckC (S0.1.length + 90, sO S0 + 689) p33.1 q34.1 3 24).bind fun _ =>
  (sR q34.1 9 3 o S31.1.length).bind fun S38 =>
  (nwO (S0.1.length + 90, sO S0 + 689) S38 q34.2 4 3).bind fun p40 =>
  (mX4_init p40.1 p40.2 S38.1.length).bind fun q41 => (ckC (S0.1.length + 90, sO S0 + 689) p40.1 q41.1 41 290).bind fun _ =>
  (sR q41.1 9 4 o S38.1.length).bind fun S45 =>
  (nwA (S0.1.length + 90, sO S0 + 689) S45 q41.2 14 (2 : Int32)).bind fun p47 =>
  (sR p47.1 9 5 o S45.1.length).bind fun S49 =>
  (nwA (S0.1.length + 90, sO S0 + 689) S49 p47.2 13 (2 : Int32)).bind fun p51 =>
  (sR p51.1 9 6 o S49.1.length).bind fun S53 =>
  (nwO (S0.1.length + 90, sO S0 + 689) S53 p51.2 5 5).bind fun p55 =>
  (mX5_init p55.1 p55.2 S53.1.length).bind fun q56 => (ckC (S0.1.length + 90, sO S0 + 689) p55.1 q56.1 4 36).bind fun _ =>
  (sR q56.1 9 7 o S53.1.length).bind fun S60 =>
  (nwO (S0.1.length + 90, sO S0 + 689) S60 q56.2 1 4).bind fun p62 =>
  (mX1_init p62.1 p62.2 S60.1.length).bind fun q63 => (ckC (S0.1.length + 90, sO S0 + 689) p62.1 q63.1 3 27).bind fun _ =>
  (sR q63.1 9 8 o S60.1.length).bind fun S67 =>
  (nwO (S0.1.length + 90, sO S0 + 689) S67 q63.2 7 8).bind fun p69 =>
  (gR p69.1 9 7 o).bind fun v70 =>
  (mX7_init p69.1 p69.2 S67.1.length v70).bind fun q72 => (ckC (S0.1.length + 90, sO S0 + 689) p69.1 q72.1 10 45).bind fun _ =>
  (sR q72.1 9 9 o S67.1.length).bind fun S76 =>
  (nwO (S0.1.length + 90, sO S0 + 689) S76 q72.2 0 6).bind fun p78 =>
  (gR p78.1 9 7 o).bind fun v79 =>
  (gR p78.1 9 9 o).bind fun v81 =>
  (mX0_init p78.1 p78.2 S76.1.length v79 v81).bind fun q83 => (ckC (S0.1.length + 90, sO S0 + 689) p78.1 q83.1 0 0).bind fun _ =>
  (sR q83.1 9 10 o S76.1.length).bind fun S87 =>
  lpn (mX9_init_L132 S0 o) lpF (S87, q83.2, (0 : Int32))
set_option maxRecDepth 100000 in
set_option maxHeartbeats 4000000 in
theorem kX9_init (l : Launch) (D : va_G) (b : Nat) {S0 : SH} {me : ME} {o : Nat} {q : SH × ME} (hM : mX9_init S0 me o = some q) (hz : q.1.1.length = S0.1.length + 90 ∧ sO q.1 = sO S0 + 689) : Ct l D b yX9_init cX9_init 2 none 3 53 90 689 [.ref (b + o)] S0 me q.1 q.2 none := by
  refine ct_of (own := RX9) (nm := "<init>") (lv := [(0, .ref (b + o))]) (plainFor_of_name (by decide)) rfl rfl (Nat.le_of_ble_eq_true rfl) rfl hz (fun X cx ex hL => ?_)
  have J156 : ∀ (S : SH) (me : ME), mX9_init_j156 S0 o S me = some q → WS X b 2 S me 156 [] [] := by
    intro  S me hM
    unfold mX9_init_j156 at hM
    exact ws_vretC cx ex hM dX9_init_156
  have L132 : ∀ (n : Nat) (S : SH) (me : ME) (x1 : Int32), lpn (mX9_init_L132 S0 o) n (S, me, x1) = some q → WS X b 2 S me 132 [(0, .ref (b + o)), (1, .int x1)] [] := by
    intro  n
    induction n with
    | zero => intro S me x1 hM; exact absurd hM (by intro h; cases h)
    | succ n ih =>
      intro S me x1 hM
      have hM : mX9_init_L132 S0 o (lpn (mX9_init_L132 S0 o) n) (S, me, x1) = some q := hM
      unfold mX9_init_L132 at hM
      refine ws_iload_n cx dX9_init_132 rfl (j := 1) rfl ?_
      refine ws_iconst cx dX9_init_133 (v := 2) (by decide) ?_
      refine ws_icmp_ge cx dX9_init_134 (tgt := 156) (by decide) (fun c1 => ?_) (fun c1 => ?_)
      · have hM := if_t hM c1
        refine ws_sub [] (lv' := []) rfl ?_
        exact J156 _ _ hM
      · have hM := if_f hM c1
        refine ws_aload_n cx dX9_init_137 rfl (j := 0) rfl ?_
        obtain ⟨v2, h3, hM⟩ := bnd hM
        refine ws_getR cx ffX9_44 h3 dX9_init_138 ?_
        refine ws_iload_n cx dX9_init_141 rfl (j := 1) rfl ?_
        obtain ⟨p5, h4, hM⟩ := bnd hM
        refine ws_newM cx hL ncX9_30 rfl h4 dX9_init_142 ?_
        refine ws_dup cx dX9_init_145 rfl ?_
        obtain ⟨q6, h7, hM⟩ := bnd hM
        obtain ⟨_, h8, hM⟩ := bnd hM
        have h8 := ckC_s h8
        refine ws_callIN cx (rest := [.ref (b + S.1.length), .int x1, .ref (b + v2)]) (kX2_init l D b h7 h8.1) mvX2_init rfl lnX9_32 rfl ⟨by decide, by decide⟩ (Nat.le_of_ble_eq_true rfl) h8.1 (Or.inr ⟨_, hL, h8.2⟩) rfl dX9_init_146 ?_
        obtain ⟨S10, h9, hM⟩ := bnd hM
        refine ws_aast cx h9 dX9_init_149 ?_
        refine ws_iinc cx dX9_init_150 (j := 1) rfl (v := x1 + (1 : Int32)) rfl (by decide) (lv' := [(1, .int (x1 + (1 : Int32))), (0, .ref (b + o))]) rfl ?_
        refine ws_goto cx dX9_init_153 (tgt := 132) (by decide) ?_
        refine ws_sub [1, 0] (lv' := [(0, .ref (b + o)), (1, .int (x1 + (1 : Int32)))]) rfl ?_
        exact ih _ _ _ hM
  unfold mX9_init at hM
  refine ws_aload_n cx dX9_init_0 rfl (j := 0) rfl ?_
  refine ws_objInit cx lkX9_3 wOI wOC ⟨by decide, by decide⟩ dX9_init_1 ?_
  refine ws_aload_n cx dX9_init_4 rfl (j := 0) rfl ?_
  obtain ⟨p12, h11, hM⟩ := bnd hM
  refine ws_newM cx hL ncX9_9 rfl h11 dX9_init_5 ?_
  refine ws_dup cx dX9_init_8 rfl ?_
  obtain ⟨q13, h14, hM⟩ := bnd hM
  obtain ⟨_, h15, hM⟩ := bnd hM
  have h15 := ckC_s h15
  refine ws_callIN cx (rest := [.ref (b + S0.1.length), .ref (b + o)]) (kX8_init l D b h14 h15.1) mvX8_init rfl lnX9_11 rfl ⟨by decide, by decide⟩ (Nat.le_of_ble_eq_true rfl) h15.1 (Or.inr ⟨_, hL, h15.2⟩) rfl dX9_init_9 ?_
  obtain ⟨S17, h16, hM⟩ := bnd hM
  refine ws_putR cx ffX9_12 (Or.inr ⟨rfl, fun q h => by cases h; rfl⟩) h16 dX9_init_12 ?_
  refine ws_aload_n cx dX9_init_15 rfl (j := 0) rfl ?_
  obtain ⟨p19, h18, hM⟩ := bnd hM
  refine ws_newM cx hL ncX9_16 rfl h18 dX9_init_16 ?_
  refine ws_dup cx dX9_init_19 rfl ?_
  obtain ⟨q20, h21, hM⟩ := bnd hM
  obtain ⟨_, h22, hM⟩ := bnd hM
  have h22 := ckC_s h22
  refine ws_callIN cx (rest := [.ref (b + S17.1.length), .ref (b + o)]) (kX3_init l D b h21 h22.1) mvX3_init rfl lnX9_18 rfl ⟨by decide, by decide⟩ (Nat.le_of_ble_eq_true rfl) h22.1 (Or.inr ⟨_, hL, h22.2⟩) rfl dX9_init_20 ?_
  obtain ⟨S24, h23, hM⟩ := bnd hM
  refine ws_putR cx ffX9_19 (Or.inr ⟨rfl, fun q h => by cases h; rfl⟩) h23 dX9_init_23 ?_
  refine ws_aload_n cx dX9_init_26 rfl (j := 0) rfl ?_
  obtain ⟨p26, h25, hM⟩ := bnd hM
  refine ws_newM cx hL ncX9_23 rfl h25 dX9_init_27 ?_
  refine ws_dup cx dX9_init_30 rfl ?_
  obtain ⟨q27, h28, hM⟩ := bnd hM
  obtain ⟨_, h29, hM⟩ := bnd hM
  have h29 := ckC_s h29
  refine ws_callIN cx (rest := [.ref (b + S24.1.length), .ref (b + o)]) (kX6_init l D b h28 h29.1) mvX6_init rfl lnX9_25 rfl ⟨by decide, by decide⟩ (Nat.le_of_ble_eq_true rfl) h29.1 (Or.inr ⟨_, hL, h29.2⟩) rfl dX9_init_31 ?_
  obtain ⟨S31, h30, hM⟩ := bnd hM
  refine ws_putR cx ffX9_26 (Or.inr ⟨rfl, fun q h => by cases h; rfl⟩) h30 dX9_init_34 ?_
  refine ws_aload_n cx dX9_init_37 rfl (j := 0) rfl ?_
  obtain ⟨p33, h32, hM⟩ := bnd hM
  refine ws_newM cx hL ncX9_30 rfl h32 dX9_init_38 ?_
  refine ws_dup cx dX9_init_41 rfl ?_
  obtain ⟨q34, h35, hM⟩ := bnd hM
  obtain ⟨_, h36, hM⟩ := bnd hM
  have h36 := ckC_s h36
  refine ws_callIN cx (rest := [.ref (b + S31.1.length), .ref (b + o)]) (kX2_init l D b h35 h36.1) mvX2_init rfl lnX9_32 rfl ⟨by decide, by decide⟩ (Nat.le_of_ble_eq_true rfl) h36.1 (Or.inr ⟨_, hL, h36.2⟩) rfl dX9_init_42 ?_
  obtain ⟨S38, h37, hM⟩ := bnd hM
  refine ws_putR cx ffX9_33 (Or.inr ⟨rfl, fun q h => by cases h; rfl⟩) h37 dX9_init_45 ?_
  refine ws_aload_n cx dX9_init_48 rfl (j := 0) rfl ?_
  obtain ⟨p40, h39, hM⟩ := bnd hM
  refine ws_newM cx hL ncX9_37 rfl h39 dX9_init_49 ?_
  refine ws_dup cx dX9_init_52 rfl ?_
  obtain ⟨q41, h42, hM⟩ := bnd hM
  obtain ⟨_, h43, hM⟩ := bnd hM
  have h43 := ckC_s h43
  refine ws_callI cx (rest := [.ref (b + S38.1.length), .ref (b + o)]) (kX4_init l D b h42 h43.1) mvX4_init rfl lkX9_39 rfl ⟨by decide, by decide⟩ (Nat.le_of_ble_eq_true rfl) h43.1 (Or.inr ⟨_, hL, h43.2⟩) rfl dX9_init_53 ?_
  obtain ⟨S45, h44, hM⟩ := bnd hM
  refine ws_putR cx ffX9_40 (Or.inr ⟨rfl, fun q h => by cases h; rfl⟩) h44 dX9_init_56 ?_
  refine ws_aload_n cx dX9_init_59 rfl (j := 0) rfl ?_
  refine ws_iconst cx dX9_init_60 (v := 2) (by decide) ?_
  obtain ⟨p47, h46, hM⟩ := bnd hM
  refine ws_anewM cx hL wOLog clX9_30 h46 dX9_init_61 ?_
  obtain ⟨S49, h48, hM⟩ := bnd hM
  refine ws_putR cx ffX9_44 (Or.inr ⟨rfl, fun q h => by cases h; rfl⟩) h48 dX9_init_64 ?_
  refine ws_aload_n cx dX9_init_67 rfl (j := 0) rfl ?_
  refine ws_iconst cx dX9_init_68 (v := 2) (by decide) ?_
  obtain ⟨p51, h50, hM⟩ := bnd hM
  refine ws_newaM cx hL (c := 13) (a := .boolean) ⟨rfl, by decide⟩ wAboolean h50 dX9_init_69 ?_
  obtain ⟨S53, h52, hM⟩ := bnd hM
  refine ws_putR cx ffX9_48 (Or.inr ⟨rfl, fun q h => by cases h; rfl⟩) h52 dX9_init_71 ?_
  refine ws_aload_n cx dX9_init_74 rfl (j := 0) rfl ?_
  obtain ⟨p55, h54, hM⟩ := bnd hM
  refine ws_newM cx hL ncX9_52 rfl h54 dX9_init_75 ?_
  refine ws_dup cx dX9_init_78 rfl ?_
  obtain ⟨q56, h57, hM⟩ := bnd hM
  obtain ⟨_, h58, hM⟩ := bnd hM
  have h58 := ckC_s h58
  refine ws_callIN cx (rest := [.ref (b + S53.1.length), .ref (b + o)]) (kX5_init l D b h57 h58.1) mvX5_init rfl lnX9_54 rfl ⟨by decide, by decide⟩ (Nat.le_of_ble_eq_true rfl) h58.1 (Or.inr ⟨_, hL, h58.2⟩) rfl dX9_init_79 ?_
  obtain ⟨S60, h59, hM⟩ := bnd hM
  refine ws_putR cx ffX9_55 (Or.inr ⟨rfl, fun q h => by cases h; rfl⟩) h59 dX9_init_82 ?_
  refine ws_aload_n cx dX9_init_85 rfl (j := 0) rfl ?_
  obtain ⟨p62, h61, hM⟩ := bnd hM
  refine ws_newM cx hL ncX9_59 rfl h61 dX9_init_86 ?_
  refine ws_dup cx dX9_init_89 rfl ?_
  obtain ⟨q63, h64, hM⟩ := bnd hM
  obtain ⟨_, h65, hM⟩ := bnd hM
  have h65 := ckC_s h65
  refine ws_callIN cx (rest := [.ref (b + S60.1.length), .ref (b + o)]) (kX1_init l D b h64 h65.1) mvX1_init rfl lnX9_61 rfl ⟨by decide, by decide⟩ (Nat.le_of_ble_eq_true rfl) h65.1 (Or.inr ⟨_, hL, h65.2⟩) rfl dX9_init_90 ?_
  obtain ⟨S67, h66, hM⟩ := bnd hM
  refine ws_putR cx ffX9_62 (Or.inr ⟨rfl, fun q h => by cases h; rfl⟩) h66 dX9_init_93 ?_
  refine ws_aload_n cx dX9_init_96 rfl (j := 0) rfl ?_
  obtain ⟨p69, h68, hM⟩ := bnd hM
  refine ws_newM cx hL ncX9_66 rfl h68 dX9_init_97 ?_
  refine ws_dup cx dX9_init_100 rfl ?_
  refine ws_aload_n cx dX9_init_101 rfl (j := 0) rfl ?_
  obtain ⟨v70, h71, hM⟩ := bnd hM
  refine ws_getR cx ffX9_55 h71 dX9_init_102 ?_
  obtain ⟨q72, h73, hM⟩ := bnd hM
  obtain ⟨_, h74, hM⟩ := bnd hM
  have h74 := ckC_s h74
  refine ws_callI cx (rest := [.ref (b + S67.1.length), .ref (b + o)]) (kX7_init l D b h73 h74.1) mvX7_init rfl lkX9_68 rfl ⟨by decide, by decide⟩ (Nat.le_of_ble_eq_true rfl) h74.1 (Or.inr ⟨_, hL, h74.2⟩) rfl dX9_init_105 ?_
  obtain ⟨S76, h75, hM⟩ := bnd hM
  refine ws_putR cx ffX9_71 (Or.inr ⟨rfl, fun q h => by cases h; rfl⟩) h75 dX9_init_108 ?_
  refine ws_aload_n cx dX9_init_111 rfl (j := 0) rfl ?_
  obtain ⟨p78, h77, hM⟩ := bnd hM
  refine ws_newM cx hL ncX9_75 rfl h77 dX9_init_112 ?_
  refine ws_dup cx dX9_init_115 rfl ?_
  refine ws_aload_n cx dX9_init_116 rfl (j := 0) rfl ?_
  obtain ⟨v79, h80, hM⟩ := bnd hM
  refine ws_getR cx ffX9_55 h80 dX9_init_117 ?_
  refine ws_aload_n cx dX9_init_120 rfl (j := 0) rfl ?_
  obtain ⟨v81, h82, hM⟩ := bnd hM
  refine ws_getR cx ffX9_71 h82 dX9_init_121 ?_
  obtain ⟨q83, h84, hM⟩ := bnd hM
  obtain ⟨_, h85, hM⟩ := bnd hM
  have h85 := ckC_s h85
  refine ws_callI cx (rest := [.ref (b + S76.1.length), .ref (b + o)]) (kX0_init l D b h84 h85.1) mvX0_init rfl lkX9_77 rfl ⟨by decide, by decide⟩ (Nat.le_of_ble_eq_true rfl) h85.1 (Or.inr ⟨_, hL, h85.2⟩) rfl dX9_init_124 ?_
  obtain ⟨S87, h86, hM⟩ := bnd hM
  refine ws_putR cx ffX9_80 (Or.inr ⟨rfl, fun q h => by cases h; rfl⟩) h86 dX9_init_127 ?_
  refine ws_iconst cx dX9_init_130 (v := 0) (by decide) ?_
  refine ws_istore_n cx dX9_init_131 rfl (by decide) (lv' := [(1, .int (0 : Int32)), (0, .ref (b + o))]) rfl ?_
  refine ws_sub [1, 0] (lv' := [(0, .ref (b + o)), (1, .int (0 : Int32))]) rfl ?_
  exact L132 _ _ _ _ hM

def mX9_within_j14 (S : SH) (a0 : Int32) (a1 : Int32) (me : ME) (y0 : Int32) : Option (Int32 × ME) :=
  if y0 = 0 ∨ y0 = 1 then some (y0, me) else none
def mX9_within_j13 (S : SH) (a0 : Int32) (a1 : Int32) (me : ME) : Option (Int32 × ME) :=
  mX9_within_j14 S a0 a1 me (0 : Int32)
def mX9_within (S : SH) (me : ME) (a0 : Int32) (a1 : Int32) : Option (Int32 × ME) :=
  if a0 < 0 then
    mX9_within_j13 S a0 a1 me
  else
    if a1 < a0 then
      mX9_within_j13 S a0 a1 me
    else
      mX9_within_j14 S a0 a1 me (1 : Int32)
set_option maxRecDepth 100000 in
set_option maxHeartbeats 4000000 in
theorem kX9_within (l : Launch) (D : va_G) (b : Nat) {S : SH} {me : ME} {a0 : Int32} {a1 : Int32} {q : Int32 × ME} (hM : mX9_within S me a0 a1 = some q) : Ct l D b yX9_within cX9_within 2 (some .boolean) 0 0 0 0 [.int a0, .int a1] S me S q.2 (some (.int q.1)) := by
  refine ct_of (own := RX9) (nm := "within") (lv := [(0, .int a0), (1, .int a1)]) (plainFor_of_name (by decide)) rfl rfl (Nat.le_of_ble_eq_true rfl) rfl ⟨rfl, rfl⟩ (fun X cx ex hL => ?_)
  have J14 : ∀ (me : ME) (y0 : Int32), mX9_within_j14 S a0 a1 me y0 = some q → WS X b 2 S me 14 [] [.int y0] := by
    intro  me y0 hM
    unfold mX9_within_j14 at hM
    obtain ⟨h1, hM⟩ := ite_o hM
    exact ws_zretM cx ex h1 hM dX9_within_14
  have J13 : ∀ (me : ME), mX9_within_j13 S a0 a1 me = some q → WS X b 2 S me 13 [] [] := by
    intro  me hM
    unfold mX9_within_j13 at hM
    refine ws_iconst cx dX9_within_13 (v := 0) (by decide) ?_
    refine ws_sub [] (lv' := []) rfl ?_
    exact J14 _ _ hM
  unfold mX9_within at hM
  refine ws_iload_n cx dX9_within_0 rfl (j := 0) rfl ?_
  refine ws_if_lt cx dX9_within_1 (tgt := 13) (by decide) (fun c2 => ?_) (fun c2 => ?_)
  · have hM := if_t hM c2
    refine ws_sub [] (lv' := []) rfl ?_
    exact J13 _ hM
  · have hM := if_f hM c2
    refine ws_iload_n cx dX9_within_4 rfl (j := 0) rfl ?_
    refine ws_iload_n cx dX9_within_5 rfl (j := 1) rfl ?_
    refine ws_icmp_gt cx dX9_within_6 (tgt := 13) (by decide) (fun c3 => ?_) (fun c3 => ?_)
    · have hM := if_t hM c3
      refine ws_sub [] (lv' := []) rfl ?_
      exact J13 _ hM
    · have hM := if_f hM c3
      refine ws_iconst cx dX9_within_9 (v := 1) (by decide) ?_
      refine ws_goto cx dX9_within_10 (tgt := 14) (by decide) ?_
      refine ws_sub [] (lv' := []) rfl ?_
      exact J14 _ _ hM

def mX8_append (S : SH) (me : ME) (o : Nat) (a0 : Int32) : Option (Int32 × ME) :=
  (gI S me 8 1 o).bind fun v1 =>
  if v1 < (110 : Int32) then
    (gR S 8 0 o).bind fun v4 =>
    (gI S me 8 1 o).bind fun v6 =>
    (uI S me v4 v6 a0).bind fun m9 =>
    (gI S m9 8 1 o).bind fun v10 =>
    (sI S m9 8 1 o (v10 + (1 : Int32))).bind fun m13 =>
    some ((1 : Int32), m13)
  else
    some ((0 : Int32), me)
set_option maxRecDepth 100000 in
set_option maxHeartbeats 4000000 in
theorem kX8_append (l : Launch) (D : va_G) (b : Nat) {S : SH} {me : ME} {o : Nat} {a0 : Int32} {q : Int32 × ME} (hM : mX8_append S me o a0 = some q) : Ct l D b yX8_append cX8_append 2 (some .boolean) 0 0 0 0 [.ref (b + o), .int a0] S me S q.2 (some (.int q.1)) := by
  refine ct_of (own := RX8) (nm := "append") (lv := [(0, .ref (b + o)), (1, .int a0)]) (plainFor_of_name (by decide)) rfl rfl (Nat.le_of_ble_eq_true rfl) rfl ⟨rfl, rfl⟩ (fun X cx ex hL => ?_)
  unfold mX8_append at hM
  refine ws_aload_n cx dX8_append_0 rfl (j := 0) rfl ?_
  obtain ⟨v1, h2, hM⟩ := bnd hM
  refine ws_getI cx ffX8_15 h2 dX8_append_1 ?_
  refine ws_bipush cx dX8_append_4 (v := 110) (by decide) ?_
  refine ws_icmp_lt cx dX8_append_6 (tgt := 11) (by decide) (fun c3 => ?_) (fun c3 => ?_)
  · have hM := if_t hM c3
    refine ws_aload_n cx dX8_append_11 rfl (j := 0) rfl ?_
    obtain ⟨v4, h5, hM⟩ := bnd hM
    refine ws_getR cx ffX8_9 h5 dX8_append_12 ?_
    refine ws_aload_n cx dX8_append_15 rfl (j := 0) rfl ?_
    obtain ⟨v6, h7, hM⟩ := bnd hM
    refine ws_getI cx ffX8_15 h7 dX8_append_16 ?_
    refine ws_iload_n cx dX8_append_19 rfl (j := 1) rfl ?_
    obtain ⟨m9, h8, hM⟩ := bnd hM
    refine ws_iast cx h8 dX8_append_20 ?_
    refine ws_aload_n cx dX8_append_21 rfl (j := 0) rfl ?_
    refine ws_dup cx dX8_append_22 rfl ?_
    obtain ⟨v10, h11, hM⟩ := bnd hM
    refine ws_getI cx ffX8_15 h11 dX8_append_23 ?_
    refine ws_iconst cx dX8_append_26 (v := 1) (by decide) ?_
    refine ws_iadd cx dX8_append_27 ?_
    obtain ⟨m13, h12, hM⟩ := bnd hM
    refine ws_putI cx ffX8_15 h12 dX8_append_28 ?_
    refine ws_iconst cx dX8_append_31 (v := 1) (by decide) ?_
    exact ws_zretM cx ex (by decide) hM dX8_append_32
  · have hM := if_f hM c3
    refine ws_iconst cx dX8_append_9 (v := 0) (by decide) ?_
    exact ws_zretM cx ex (by decide) hM dX8_append_10

def mX9_type_j35 (S : SH) (o : Nat) (a0 : Int32) (me : ME) (y0 : Int32) : Option (Int32 × ME) :=
  some (y0, me)
def mX9_type (S : SH) (me : ME) (o : Nat) (a0 : Int32) : Option (Int32 × ME) :=
  (mX9_within S me a0 (255 : Int32)).bind fun q1 =>
  if q1.1 = 0 then
    some ((-1 : Int32), q1.2)
  else
    (gR S 9 0 o).bind fun v4 =>
    (ck S 8 v4).bind fun _ => (mX8_append S q1.2 v4 a0).bind fun q6 =>
    if q6.1 = 0 then
      mX9_type_j35 S o a0 q6.2 (-3 : Int32)
    else
      (gR S 9 0 o).bind fun v10 =>
      (gI S q6.2 8 1 v10).bind fun v12 =>
      mX9_type_j35 S o a0 q6.2 v12
set_option maxRecDepth 100000 in
set_option maxHeartbeats 4000000 in
theorem kX9_type (l : Launch) (D : va_G) (b : Nat) {S : SH} {me : ME} {o : Nat} {a0 : Int32} {q : Int32 × ME} (hM : mX9_type S me o a0 = some q) : Ct l D b yX9_type cX9_type 2 (some .int) 1 21 0 0 [.ref (b + o), .int a0] S me S q.2 (some (.int q.1)) := by
  refine ct_of (own := RX9) (nm := "type") (lv := [(0, .ref (b + o)), (1, .int a0)]) (plainFor_of_name (by decide)) rfl rfl (Nat.le_of_ble_eq_true rfl) rfl ⟨rfl, rfl⟩ (fun X cx ex hL => ?_)
  have J35 : ∀ (me : ME) (y0 : Int32), mX9_type_j35 S o a0 me y0 = some q → WS X b 2 S me 35 [] [.int y0] := by
    intro  me y0 hM
    unfold mX9_type_j35 at hM
    exact ws_iretM cx ex hM dX9_type_35
  unfold mX9_type at hM
  refine ws_iload_n cx dX9_type_0 rfl (j := 1) rfl ?_
  refine ws_sipush cx dX9_type_1 (v := 255) (by decide) ?_
  obtain ⟨q1, h2, hM⟩ := bnd hM
  refine ws_callS cx (rest := []) (st' := [.int q1.1]) (kX9_within l D b h2) mvX9_within lkX9_84 rfl ⟨by decide, by decide⟩ (Nat.le_of_ble_eq_true rfl) ⟨rfl, rfl⟩ (Or.inl ⟨rfl, rfl⟩) rfl rfl dX9_type_4 ?_
  refine ws_if_ne cx dX9_type_7 (tgt := 12) (by decide) (fun c3 => ?_) (fun c3 => ?_)
  · have hM := if_f hM c3
    refine ws_aload_n cx dX9_type_12 rfl (j := 0) rfl ?_
    obtain ⟨v4, h5, hM⟩ := bnd hM
    refine ws_getR cx ffX9_12 h5 dX9_type_13 ?_
    refine ws_iload_n cx dX9_type_16 rfl (j := 1) rfl ?_
    obtain ⟨_, h8, hM⟩ := bnd hM
    obtain ⟨q6, h7, hM⟩ := bnd hM
    refine ws_callV cx (rest := []) (st' := [.int q6.1]) (kX8_append l D b h7) mvX8_append (ck_k h8) (by decide) (q := (RX8, TX8, 2)) rfl seX8_append lkX9_88 rfl ⟨by decide, by decide⟩ (Nat.le_of_ble_eq_true rfl) ⟨rfl, rfl⟩ (Or.inl ⟨rfl, rfl⟩) rfl rfl dX9_type_17 ?_
    refine ws_if_eq cx dX9_type_20 (tgt := 33) (by decide) (fun c9 => ?_) (fun c9 => ?_)
    · have hM := if_t hM c9
      refine ws_bipush cx dX9_type_33 (v := -3) (by decide) ?_
      refine ws_sub [] (lv' := []) rfl ?_
      exact J35 _ _ hM
    · have hM := if_f hM c9
      refine ws_aload_n cx dX9_type_23 rfl (j := 0) rfl ?_
      obtain ⟨v10, h11, hM⟩ := bnd hM
      refine ws_getR cx ffX9_12 h11 dX9_type_24 ?_
      obtain ⟨v12, h13, hM⟩ := bnd hM
      refine ws_getI cx ffX9_92 h13 dX9_type_27 ?_
      refine ws_goto cx dX9_type_30 (tgt := 35) (by decide) ?_
      refine ws_sub [] (lv' := []) rfl ?_
      exact J35 _ _ hM
  · have hM := if_t hM c3
    refine ws_iconst cx dX9_type_10 (v := -1) (by decide) ?_
    exact ws_iretM cx ex hM dX9_type_11

def mX9_clear (S : SH) (me : ME) (o : Nat) : Option (Int32 × ME) :=
  (gR S 9 0 o).bind fun v1 =>
  (gI S me 8 1 v1).bind fun v3 =>
  (gR S 9 0 o).bind fun v5 =>
  (sI S me 8 1 v5 (0 : Int32)).bind fun m8 =>
  some (v3, m8)
set_option maxRecDepth 100000 in
set_option maxHeartbeats 4000000 in
theorem kX9_clear (l : Launch) (D : va_G) (b : Nat) {S : SH} {me : ME} {o : Nat} {q : Int32 × ME} (hM : mX9_clear S me o = some q) : Ct l D b yX9_clear cX9_clear 2 (some .int) 0 0 0 0 [.ref (b + o)] S me S q.2 (some (.int q.1)) := by
  refine ct_of (own := RX9) (nm := "clear") (lv := [(0, .ref (b + o))]) (plainFor_of_name (by decide)) rfl rfl (Nat.le_of_ble_eq_true rfl) rfl ⟨rfl, rfl⟩ (fun X cx ex hL => ?_)
  unfold mX9_clear at hM
  refine ws_aload_n cx dX9_clear_0 rfl (j := 0) rfl ?_
  obtain ⟨v1, h2, hM⟩ := bnd hM
  refine ws_getR cx ffX9_12 h2 dX9_clear_1 ?_
  obtain ⟨v3, h4, hM⟩ := bnd hM
  refine ws_getI cx ffX9_92 h4 dX9_clear_4 ?_
  refine ws_istore_n cx dX9_clear_7 rfl (by decide) (lv' := [(1, .int v3), (0, .ref (b + o))]) rfl ?_
  refine ws_aload_n cx dX9_clear_8 rfl (j := 1) rfl ?_
  obtain ⟨v5, h6, hM⟩ := bnd hM
  refine ws_getR cx ffX9_12 h6 dX9_clear_9 ?_
  refine ws_iconst cx dX9_clear_12 (v := 0) (by decide) ?_
  obtain ⟨m8, h7, hM⟩ := bnd hM
  refine ws_putI cx ffX9_92 h7 dX9_clear_13 ?_
  refine ws_iload_n cx dX9_clear_16 rfl (j := 0) rfl ?_
  exact ws_iretM cx ex hM dX9_clear_17

def mX3_isDigit_j17 (S : SH) (a0 : Int32) (me : ME) (y0 : Int32) : Option (Int32 × ME) :=
  if y0 = 0 ∨ y0 = 1 then some (y0, me) else none
def mX3_isDigit_j16 (S : SH) (a0 : Int32) (me : ME) : Option (Int32 × ME) :=
  mX3_isDigit_j17 S a0 me (0 : Int32)
def mX3_isDigit (S : SH) (me : ME) (a0 : Int32) : Option (Int32 × ME) :=
  if a0 < (48 : Int32) then
    mX3_isDigit_j16 S a0 me
  else
    if (57 : Int32) < a0 then
      mX3_isDigit_j16 S a0 me
    else
      mX3_isDigit_j17 S a0 me (1 : Int32)
set_option maxRecDepth 100000 in
set_option maxHeartbeats 4000000 in
theorem kX3_isDigit (l : Launch) (D : va_G) (b : Nat) {S : SH} {me : ME} {a0 : Int32} {q : Int32 × ME} (hM : mX3_isDigit S me a0 = some q) : Ct l D b yX3_isDigit cX3_isDigit 1 (some .boolean) 0 0 0 0 [.int a0] S me S q.2 (some (.int q.1)) := by
  refine ct_of (own := RX3) (nm := "isDigit") (lv := [(0, .int a0)]) (plainFor_of_name (by decide)) rfl rfl (Nat.le_of_ble_eq_true rfl) rfl ⟨rfl, rfl⟩ (fun X cx ex hL => ?_)
  have J17 : ∀ (me : ME) (y0 : Int32), mX3_isDigit_j17 S a0 me y0 = some q → WS X b 1 S me 17 [] [.int y0] := by
    intro  me y0 hM
    unfold mX3_isDigit_j17 at hM
    obtain ⟨h1, hM⟩ := ite_o hM
    exact ws_zretM cx ex h1 hM dX3_isDigit_17
  have J16 : ∀ (me : ME), mX3_isDigit_j16 S a0 me = some q → WS X b 1 S me 16 [] [] := by
    intro  me hM
    unfold mX3_isDigit_j16 at hM
    refine ws_iconst cx dX3_isDigit_16 (v := 0) (by decide) ?_
    refine ws_sub [] (lv' := []) rfl ?_
    exact J17 _ _ hM
  unfold mX3_isDigit at hM
  refine ws_iload_n cx dX3_isDigit_0 rfl (j := 0) rfl ?_
  refine ws_bipush cx dX3_isDigit_1 (v := 48) (by decide) ?_
  refine ws_icmp_lt cx dX3_isDigit_3 (tgt := 16) (by decide) (fun c2 => ?_) (fun c2 => ?_)
  · have hM := if_t hM c2
    refine ws_sub [] (lv' := []) rfl ?_
    exact J16 _ hM
  · have hM := if_f hM c2
    refine ws_iload_n cx dX3_isDigit_6 rfl (j := 0) rfl ?_
    refine ws_bipush cx dX3_isDigit_7 (v := 57) (by decide) ?_
    refine ws_icmp_gt cx dX3_isDigit_9 (tgt := 16) (by decide) (fun c3 => ?_) (fun c3 => ?_)
    · have hM := if_t hM c3
      refine ws_sub [] (lv' := []) rfl ?_
      exact J16 _ hM
    · have hM := if_f hM c3
      refine ws_iconst cx dX3_isDigit_12 (v := 1) (by decide) ?_
      refine ws_goto cx dX3_isDigit_13 (tgt := 17) (by decide) ?_
      refine ws_sub [] (lv' := []) rfl ?_
      exact J17 _ _ hM

def mJ9_min_7cf53_j10 (S : SH) (a0 : Int32) (a1 : Int32) (me : ME) (y0 : Int32) : Option (Int32 × ME) :=
  some (y0, me)
def mJ9_min_7cf53 (S : SH) (me : ME) (a0 : Int32) (a1 : Int32) : Option (Int32 × ME) :=
  if a1 < a0 then
    mJ9_min_7cf53_j10 S a0 a1 me a1
  else
    mJ9_min_7cf53_j10 S a0 a1 me a0
set_option maxRecDepth 100000 in
set_option maxHeartbeats 4000000 in
theorem kJ9_min_7cf53 (l : Launch) (D : va_G) (b : Nat) {S : SH} {me : ME} {a0 : Int32} {a1 : Int32} {q : Int32 × ME} (hM : mJ9_min_7cf53 S me a0 a1 = some q) : Ct l D b yJ9_min_7cf53 cJ9_min_7cf53 2 (some .int) 0 0 0 0 [.int a0, .int a1] S me S q.2 (some (.int q.1)) := by
  refine ct_of (own := RJ9) (nm := "min") (lv := [(0, .int a0), (1, .int a1)]) (by decide +kernel) rfl rfl (Nat.le_of_ble_eq_true rfl) rfl ⟨rfl, rfl⟩ (fun X cx ex hL => ?_)
  have J10 : ∀ (me : ME) (y0 : Int32), mJ9_min_7cf53_j10 S a0 a1 me y0 = some q → WS X b 2 S me 10 [] [.int y0] := by
    intro  me y0 hM
    unfold mJ9_min_7cf53_j10 at hM
    exact ws_iretM cx ex hM dJ9_min_7cf53_10
  unfold mJ9_min_7cf53 at hM
  refine ws_iload_n cx dJ9_min_7cf53_0 rfl (j := 0) rfl ?_
  refine ws_iload_n cx dJ9_min_7cf53_1 rfl (j := 1) rfl ?_
  refine ws_icmp_gt cx dJ9_min_7cf53_2 (tgt := 9) (by decide) (fun c1 => ?_) (fun c1 => ?_)
  · have hM := if_t hM c1
    refine ws_iload_n cx dJ9_min_7cf53_9 rfl (j := 1) rfl ?_
    refine ws_sub [] (lv' := []) rfl ?_
    exact J10 _ _ hM
  · have hM := if_f hM c1
    refine ws_iload_n cx dJ9_min_7cf53_5 rfl (j := 0) rfl ?_
    refine ws_goto cx dJ9_min_7cf53_6 (tgt := 10) (by decide) ?_
    refine ws_sub [] (lv' := []) rfl ?_
    exact J10 _ _ hM

def mX3_advanceOverNumber_j135 (S : SH) (o : Nat) (a0 : Nat) (me : ME) (y0 : Nat) (y1 : Int32) : Option (Unit × ME) :=
  (sI S me 3 5 y0 y1).bind fun m2 =>
  some ((), m2)
def mX3_advanceOverNumber_j124 (S : SH) (o : Nat) (a0 : Nat) (me : ME) (y0 : Int32) : Option (Unit × ME) :=
  if y0 = 0 then
    mX3_advanceOverNumber_j135 S o a0 me o (2 : Int32)
  else
    mX3_advanceOverNumber_j135 S o a0 me o (4 : Int32)
def mX3_advanceOverNumber_j119 (S : SH) (o : Nat) (a0 : Nat) (me : ME) : Option (Unit × ME) :=
  mX3_advanceOverNumber_j124 S o a0 me (1 : Int32)
def mX3_advanceOverNumber_j123 (S : SH) (o : Nat) (a0 : Nat) (me : ME) : Option (Unit × ME) :=
  mX3_advanceOverNumber_j124 S o a0 me (0 : Int32)
def mX3_advanceOverNumber_j93 (S : SH) (o : Nat) (a0 : Nat) (me : ME) (x2 : Int32) : Option (Unit × ME) :=
  (gI S me 3 6 o).bind fun v4 =>
  if (99 : Int32) < v4 then
    mX3_advanceOverNumber_j119 S o a0 me
  else
    if x2 = 0 then
      mX3_advanceOverNumber_j123 S o a0 me
    else
      (gI S me 3 3 o).bind fun v8 =>
      (gI S me 3 4 o).bind fun v10 =>
      if (v8 - v10) ≤ (1 : Int32) then
        mX3_advanceOverNumber_j123 S o a0 me
      else
        mX3_advanceOverNumber_j119 S o a0 me
def mX3_advanceOverNumber_L25 (S : SH) (o : Nat) (a0 : Nat) (k25 : (ME × Int32 → Option (Unit × ME))) : ME × Int32 → Option (Unit × ME)
  | (me, x2) =>
    (gI S me 3 3 o).bind fun v13 =>
    (gI S me 8 1 a0).bind fun v15 =>
    if v15 ≤ v13 then
      mX3_advanceOverNumber_j93 S o a0 me x2
    else
      (gR S 8 0 a0).bind fun v18 =>
      (gI S me 3 3 o).bind fun v20 =>
      (aI S me 11 v18 v20).bind fun v22 =>
      (mX3_isDigit S me v22).bind fun q24 =>
      if q24.1 = 0 then
        mX3_advanceOverNumber_j93 S o a0 q24.2 x2
      else
        (gI S q24.2 3 6 o).bind fun v27 =>
        (gR S 8 0 a0).bind fun v29 =>
        (gI S q24.2 3 3 o).bind fun v31 =>
        (aI S q24.2 11 v29 v31).bind fun v33 =>
        (mJ9_min_7cf53 S q24.2 (100 : Int32) ((((10 : Int32) * v27) + v33) - (48 : Int32))).bind fun q35 =>
        (sI S q35.2 3 6 o q35.1).bind fun m38 =>
        (gI S m38 3 3 o).bind fun v39 =>
        (sI S m38 3 3 o (v39 + (1 : Int32))).bind fun m42 =>
        k25 (m42, x2)
def mX3_advanceOverNumber_j19 (S : SH) (o : Nat) (a0 : Nat) (me : ME) (y0 : Int32) : Option (Unit × ME) :=
  (sI S me 3 6 o (0 : Int32)).bind fun m44 =>
  lpn (mX3_advanceOverNumber_L25 S o a0) lpF (m44, y0)
def mX3_advanceOverNumber (S : SH) (me : ME) (o : Nat) (a0 : Nat) : Option (Unit × ME) :=
  (gR S 8 0 a0).bind fun v45 =>
  (gI S me 3 4 o).bind fun v47 =>
  (aI S me 11 v45 v47).bind fun v49 =>
  if v49 = (48 : Int32) then
    mX3_advanceOverNumber_j19 S o a0 me (1 : Int32)
  else
    mX3_advanceOverNumber_j19 S o a0 me (0 : Int32)
set_option maxRecDepth 100000 in
set_option maxHeartbeats 4000000 in
theorem kX3_advanceOverNumber (l : Launch) (D : va_G) (b : Nat) {S : SH} {me : ME} {o : Nat} {a0 : Nat} {q : Unit × ME} (hM : mX3_advanceOverNumber S me o a0 = some q) : Ct l D b yX3_advanceOverNumber cX3_advanceOverNumber 4 none 1 21 0 0 [.ref (b + o), .ref (b + a0)] S me S q.2 none := by
  refine ct_of (own := RX3) (nm := "advanceOverNumber") (lv := [(0, .ref (b + o)), (1, .ref (b + a0))]) (plainFor_of_name (by decide)) rfl rfl (Nat.le_of_ble_eq_true rfl) rfl ⟨rfl, rfl⟩ (fun X cx ex hL => ?_)
  have J135 : ∀ (me : ME) (y0 : Nat) (y1 : Int32), mX3_advanceOverNumber_j135 S o a0 me y0 y1 = some q → WS X b 4 S me 135 [] [.int y1, .ref (b + y0)] := by
    intro  me y0 y1 hM
    unfold mX3_advanceOverNumber_j135 at hM
    obtain ⟨m2, h1, hM⟩ := bnd hM
    refine ws_putI cx ffX3_40 h1 dX3_advanceOverNumber_135 ?_
    exact ws_vretM cx ex hM dX3_advanceOverNumber_138
  have J124 : ∀ (me : ME) (y0 : Int32), mX3_advanceOverNumber_j124 S o a0 me y0 = some q → WS X b 4 S me 124 [(0, .ref (b + o))] [.int y0] := by
    intro  me y0 hM
    unfold mX3_advanceOverNumber_j124 at hM
    refine ws_istore_n cx dX3_advanceOverNumber_124 rfl (by decide) (lv' := [(3, .int y0), (0, .ref (b + o))]) rfl ?_
    refine ws_aload_n cx dX3_advanceOverNumber_125 rfl (j := 1) rfl ?_
    refine ws_iload_n cx dX3_advanceOverNumber_126 rfl (j := 0) rfl ?_
    refine ws_if_eq cx dX3_advanceOverNumber_127 (tgt := 134) (by decide) (fun c3 => ?_) (fun c3 => ?_)
    · have hM := if_t hM c3
      refine ws_iconst cx dX3_advanceOverNumber_134 (v := 2) (by decide) ?_
      refine ws_sub [] (lv' := []) rfl ?_
      exact J135 _ _ _ hM
    · have hM := if_f hM c3
      refine ws_iconst cx dX3_advanceOverNumber_130 (v := 4) (by decide) ?_
      refine ws_goto cx dX3_advanceOverNumber_131 (tgt := 135) (by decide) ?_
      refine ws_sub [] (lv' := []) rfl ?_
      exact J135 _ _ _ hM
  have J119 : ∀ (me : ME), mX3_advanceOverNumber_j119 S o a0 me = some q → WS X b 4 S me 119 [(0, .ref (b + o))] [] := by
    intro  me hM
    unfold mX3_advanceOverNumber_j119 at hM
    refine ws_iconst cx dX3_advanceOverNumber_119 (v := 1) (by decide) ?_
    refine ws_goto cx dX3_advanceOverNumber_120 (tgt := 124) (by decide) ?_
    refine ws_sub [0] (lv' := [(0, .ref (b + o))]) rfl ?_
    exact J124 _ _ hM
  have J123 : ∀ (me : ME), mX3_advanceOverNumber_j123 S o a0 me = some q → WS X b 4 S me 123 [(0, .ref (b + o))] [] := by
    intro  me hM
    unfold mX3_advanceOverNumber_j123 at hM
    refine ws_iconst cx dX3_advanceOverNumber_123 (v := 0) (by decide) ?_
    refine ws_sub [0] (lv' := [(0, .ref (b + o))]) rfl ?_
    exact J124 _ _ hM
  have J93 : ∀ (me : ME) (x2 : Int32), mX3_advanceOverNumber_j93 S o a0 me x2 = some q → WS X b 4 S me 93 [(0, .ref (b + o)), (2, .int x2)] [] := by
    intro  me x2 hM
    unfold mX3_advanceOverNumber_j93 at hM
    refine ws_aload_n cx dX3_advanceOverNumber_93 rfl (j := 0) rfl ?_
    obtain ⟨v4, h5, hM⟩ := bnd hM
    refine ws_getI cx ffX3_43 h5 dX3_advanceOverNumber_94 ?_
    refine ws_bipush cx dX3_advanceOverNumber_97 (v := 99) (by decide) ?_
    refine ws_icmp_gt cx dX3_advanceOverNumber_99 (tgt := 119) (by decide) (fun c6 => ?_) (fun c6 => ?_)
    · have hM := if_t hM c6
      refine ws_sub [0] (lv' := [(0, .ref (b + o))]) rfl ?_
      exact J119 _ hM
    · have hM := if_f hM c6
      refine ws_iload_n cx dX3_advanceOverNumber_102 rfl (j := 1) rfl ?_
      refine ws_if_eq cx dX3_advanceOverNumber_103 (tgt := 123) (by decide) (fun c7 => ?_) (fun c7 => ?_)
      · have hM := if_t hM c7
        refine ws_sub [0] (lv' := [(0, .ref (b + o))]) rfl ?_
        exact J123 _ hM
      · have hM := if_f hM c7
        refine ws_aload_n cx dX3_advanceOverNumber_106 rfl (j := 0) rfl ?_
        obtain ⟨v8, h9, hM⟩ := bnd hM
        refine ws_getI cx ffX3_33 h9 dX3_advanceOverNumber_107 ?_
        refine ws_aload_n cx dX3_advanceOverNumber_110 rfl (j := 0) rfl ?_
        obtain ⟨v10, h11, hM⟩ := bnd hM
        refine ws_getI cx ffX3_53 h11 dX3_advanceOverNumber_111 ?_
        refine ws_isub cx dX3_advanceOverNumber_114 ?_
        refine ws_iconst cx dX3_advanceOverNumber_115 (v := 1) (by decide) ?_
        refine ws_icmp_le cx dX3_advanceOverNumber_116 (tgt := 123) (by decide) (fun c12 => ?_) (fun c12 => ?_)
        · have hM := if_t hM c12
          refine ws_sub [0] (lv' := [(0, .ref (b + o))]) rfl ?_
          exact J123 _ hM
        · have hM := if_f hM c12
          refine ws_sub [0] (lv' := [(0, .ref (b + o))]) rfl ?_
          exact J119 _ hM
  have L25 : ∀ (n : Nat) (me : ME) (x2 : Int32), lpn (mX3_advanceOverNumber_L25 S o a0) n (me, x2) = some q → WS X b 4 S me 25 [(0, .ref (b + o)), (1, .ref (b + a0)), (2, .int x2)] [] := by
    intro  n
    induction n with
    | zero => intro me x2 hM; exact absurd hM (by intro h; cases h)
    | succ n ih =>
      intro me x2 hM
      have hM : mX3_advanceOverNumber_L25 S o a0 (lpn (mX3_advanceOverNumber_L25 S o a0) n) (me, x2) = some q := hM
      unfold mX3_advanceOverNumber_L25 at hM
      refine ws_aload_n cx dX3_advanceOverNumber_25 rfl (j := 0) rfl ?_
      obtain ⟨v13, h14, hM⟩ := bnd hM
      refine ws_getI cx ffX3_33 h14 dX3_advanceOverNumber_26 ?_
      refine ws_aload_n cx dX3_advanceOverNumber_29 rfl (j := 1) rfl ?_
      obtain ⟨v15, h16, hM⟩ := bnd hM
      refine ws_getI cx ffX3_76 h16 dX3_advanceOverNumber_30 ?_
      refine ws_icmp_ge cx dX3_advanceOverNumber_33 (tgt := 93) (by decide) (fun c17 => ?_) (fun c17 => ?_)
      · have hM := if_t hM c17
        refine ws_sub [0, 2] (lv' := [(0, .ref (b + o)), (2, .int x2)]) rfl ?_
        exact J93 _ _ hM
      · have hM := if_f hM c17
        refine ws_aload_n cx dX3_advanceOverNumber_36 rfl (j := 1) rfl ?_
        obtain ⟨v18, h19, hM⟩ := bnd hM
        refine ws_getR cx ffX3_79 h19 dX3_advanceOverNumber_37 ?_
        refine ws_aload_n cx dX3_advanceOverNumber_40 rfl (j := 0) rfl ?_
        obtain ⟨v20, h21, hM⟩ := bnd hM
        refine ws_getI cx ffX3_33 h21 dX3_advanceOverNumber_41 ?_
        obtain ⟨v22, h23, hM⟩ := bnd hM
        refine ws_iald cx h23 dX3_advanceOverNumber_44 ?_
        obtain ⟨q24, h25, hM⟩ := bnd hM
        refine ws_callS cx (rest := []) (st' := [.int q24.1]) (kX3_isDigit l D b h25) mvX3_isDigit lkX3_82 rfl ⟨by decide, by decide⟩ (Nat.le_of_ble_eq_true rfl) ⟨rfl, rfl⟩ (Or.inl ⟨rfl, rfl⟩) rfl rfl dX3_advanceOverNumber_45 ?_
        refine ws_if_eq cx dX3_advanceOverNumber_48 (tgt := 93) (by decide) (fun c26 => ?_) (fun c26 => ?_)
        · have hM := if_t hM c26
          refine ws_sub [0, 2] (lv' := [(0, .ref (b + o)), (2, .int x2)]) rfl ?_
          exact J93 _ _ hM
        · have hM := if_f hM c26
          refine ws_aload_n cx dX3_advanceOverNumber_51 rfl (j := 0) rfl ?_
          refine ws_bipush cx dX3_advanceOverNumber_52 (v := 100) (by decide) ?_
          refine ws_bipush cx dX3_advanceOverNumber_54 (v := 10) (by decide) ?_
          refine ws_aload_n cx dX3_advanceOverNumber_56 rfl (j := 0) rfl ?_
          obtain ⟨v27, h28, hM⟩ := bnd hM
          refine ws_getI cx ffX3_43 h28 dX3_advanceOverNumber_57 ?_
          refine ws_imul cx dX3_advanceOverNumber_60 ?_
          refine ws_aload_n cx dX3_advanceOverNumber_61 rfl (j := 1) rfl ?_
          obtain ⟨v29, h30, hM⟩ := bnd hM
          refine ws_getR cx ffX3_79 h30 dX3_advanceOverNumber_62 ?_
          refine ws_aload_n cx dX3_advanceOverNumber_65 rfl (j := 0) rfl ?_
          obtain ⟨v31, h32, hM⟩ := bnd hM
          refine ws_getI cx ffX3_33 h32 dX3_advanceOverNumber_66 ?_
          obtain ⟨v33, h34, hM⟩ := bnd hM
          refine ws_iald cx h34 dX3_advanceOverNumber_69 ?_
          refine ws_iadd cx dX3_advanceOverNumber_70 ?_
          refine ws_bipush cx dX3_advanceOverNumber_71 (v := 48) (by decide) ?_
          refine ws_isub cx dX3_advanceOverNumber_73 ?_
          obtain ⟨q35, h36, hM⟩ := bnd hM
          refine ws_callS cx (rest := [.ref (b + o)]) (st' := [.int q35.1, .ref (b + o)]) (kJ9_min_7cf53 l D b h36) mvJ9_min_7cf53 lkX3_89 rfl ⟨by decide, by decide⟩ (Nat.le_of_ble_eq_true rfl) ⟨rfl, rfl⟩ (Or.inl ⟨rfl, rfl⟩) rfl rfl dX3_advanceOverNumber_74 ?_
          obtain ⟨m38, h37, hM⟩ := bnd hM
          refine ws_putI cx ffX3_43 h37 dX3_advanceOverNumber_77 ?_
          refine ws_aload_n cx dX3_advanceOverNumber_80 rfl (j := 0) rfl ?_
          refine ws_dup cx dX3_advanceOverNumber_81 rfl ?_
          obtain ⟨v39, h40, hM⟩ := bnd hM
          refine ws_getI cx ffX3_33 h40 dX3_advanceOverNumber_82 ?_
          refine ws_iconst cx dX3_advanceOverNumber_85 (v := 1) (by decide) ?_
          refine ws_iadd cx dX3_advanceOverNumber_86 ?_
          obtain ⟨m42, h41, hM⟩ := bnd hM
          refine ws_putI cx ffX3_33 h41 dX3_advanceOverNumber_87 ?_
          refine ws_goto cx dX3_advanceOverNumber_90 (tgt := 25) (by decide) ?_
          refine ws_sub [0, 1, 2] (lv' := [(0, .ref (b + o)), (1, .ref (b + a0)), (2, .int x2)]) rfl ?_
          exact ih _ _ hM
  have J19 : ∀ (me : ME) (y0 : Int32), mX3_advanceOverNumber_j19 S o a0 me y0 = some q → WS X b 4 S me 19 [(0, .ref (b + o)), (1, .ref (b + a0))] [.int y0] := by
    intro  me y0 hM
    unfold mX3_advanceOverNumber_j19 at hM
    refine ws_istore_n cx dX3_advanceOverNumber_19 rfl (by decide) (lv' := [(2, .int y0), (0, .ref (b + o)), (1, .ref (b + a0))]) rfl ?_
    refine ws_aload_n cx dX3_advanceOverNumber_20 rfl (j := 1) rfl ?_
    refine ws_iconst cx dX3_advanceOverNumber_21 (v := 0) (by decide) ?_
    obtain ⟨m44, h43, hM⟩ := bnd hM
    refine ws_putI cx ffX3_43 h43 dX3_advanceOverNumber_22 ?_
    refine ws_sub [1, 2, 0] (lv' := [(0, .ref (b + o)), (1, .ref (b + a0)), (2, .int y0)]) rfl ?_
    exact L25 _ _ _ hM
  unfold mX3_advanceOverNumber at hM
  refine ws_aload_n cx dX3_advanceOverNumber_0 rfl (j := 1) rfl ?_
  obtain ⟨v45, h46, hM⟩ := bnd hM
  refine ws_getR cx ffX3_79 h46 dX3_advanceOverNumber_1 ?_
  refine ws_aload_n cx dX3_advanceOverNumber_4 rfl (j := 0) rfl ?_
  obtain ⟨v47, h48, hM⟩ := bnd hM
  refine ws_getI cx ffX3_53 h48 dX3_advanceOverNumber_5 ?_
  obtain ⟨v49, h50, hM⟩ := bnd hM
  refine ws_iald cx h50 dX3_advanceOverNumber_8 ?_
  refine ws_bipush cx dX3_advanceOverNumber_9 (v := 48) (by decide) ?_
  refine ws_icmp_ne cx dX3_advanceOverNumber_11 (tgt := 18) (by decide) (fun c51 => ?_) (fun c51 => ?_)
  · have hM := if_f hM c51
    refine ws_iconst cx dX3_advanceOverNumber_18 (v := 0) (by decide) ?_
    refine ws_sub [0, 1] (lv' := [(0, .ref (b + o)), (1, .ref (b + a0))]) rfl ?_
    exact J19 _ _ hM
  · have hM := if_t hM c51
    refine ws_iconst cx dX3_advanceOverNumber_14 (v := 1) (by decide) ?_
    refine ws_goto cx dX3_advanceOverNumber_15 (tgt := 19) (by decide) ?_
    refine ws_sub [0, 1] (lv' := [(0, .ref (b + o)), (1, .ref (b + a0))]) rfl ?_
    exact J19 _ _ hM

def mX3_advance_j146 (S : SH) (o : Nat) (a0 : Nat) (me : ME) : Option (Unit × ME) :=
  some ((), me)
def mX3_advance_j143 (S : SH) (o : Nat) (a0 : Nat) (me : ME) (y0 : Nat) (y1 : Int32) : Option (Unit × ME) :=
  (sI S me 3 5 y0 y1).bind fun m2 =>
  mX3_advance_j146 S o a0 m2
def mX3_advance_j128 (S : SH) (o : Nat) (a0 : Nat) (me : ME) : Option (Unit × ME) :=
  (gI S me 3 6 o).bind fun v3 =>
  if v3 = (59 : Int32) then
    mX3_advance_j143 S o a0 me o (3 : Int32)
  else
    mX3_advance_j143 S o a0 me o (4 : Int32)
def mX3_advance_j38 (S : SH) (o : Nat) (a0 : Nat) (me : ME) : Option (Unit × ME) :=
  (gI S me 3 3 o).bind fun v6 =>
  (sI S me 3 4 o v6).bind fun m9 =>
  (gI S m9 3 3 o).bind fun v10 =>
  (gI S m9 8 1 a0).bind fun v12 =>
  if v10 < v12 then
    (gR S 8 0 a0).bind fun v15 =>
    (gI S m9 3 3 o).bind fun v17 =>
    (aI S m9 11 v15 v17).bind fun v19 =>
    (sI S m9 3 6 o v19).bind fun m22 =>
    (gI S m22 3 6 o).bind fun v23 =>
    (mX3_isDigit S m22 v23).bind fun q25 =>
    if q25.1 = 0 then
      (gI S q25.2 3 3 o).bind fun v28 =>
      (sI S q25.2 3 3 o (v28 + (1 : Int32))).bind fun m31 =>
      (gI S m31 3 6 o).bind fun v32 =>
      if v32 < (97 : Int32) then
        mX3_advance_j128 S o a0 m31
      else
        (gI S m31 3 6 o).bind fun v35 =>
        if (122 : Int32) < v35 then
          mX3_advance_j128 S o a0 m31
        else
          (sI S m31 3 5 o (1 : Int32)).bind fun m39 =>
          mX3_advance_j146 S o a0 m39
    else
      (ck S 3 o).bind fun _ => (mX3_advanceOverNumber S q25.2 o a0).bind fun q40 =>
      some ((), q40.2)
  else
    (sI S m9 3 5 o (0 : Int32)).bind fun m44 =>
    some ((), m44)
def mX3_advance_L0 (S : SH) (o : Nat) (a0 : Nat) (k0 : (ME → Option (Unit × ME))) : ME → Option (Unit × ME)
  | me =>
    (gI S me 3 3 o).bind fun v45 =>
    (gI S me 8 1 a0).bind fun v47 =>
    if v47 ≤ v45 then
      mX3_advance_j38 S o a0 me
    else
      (gR S 8 0 a0).bind fun v50 =>
      (gI S me 3 3 o).bind fun v52 =>
      (aI S me 11 v50 v52).bind fun v54 =>
      if v54 = (32 : Int32) then
        (gI S me 3 3 o).bind fun v57 =>
        (sI S me 3 3 o (v57 + (1 : Int32))).bind fun m60 =>
        k0 m60
      else
        mX3_advance_j38 S o a0 me
def mX3_advance (S : SH) (me : ME) (o : Nat) (a0 : Nat) : Option (Unit × ME) :=
  lpn (mX3_advance_L0 S o a0) lpF me
set_option maxRecDepth 100000 in
set_option maxHeartbeats 4000000 in
theorem kX3_advance (l : Launch) (D : va_G) (b : Nat) {S : SH} {me : ME} {o : Nat} {a0 : Nat} {q : Unit × ME} (hM : mX3_advance S me o a0 = some q) : Ct l D b yX3_advance cX3_advance 2 none 2 44 0 0 [.ref (b + o), .ref (b + a0)] S me S q.2 none := by
  refine ct_of (own := RX3) (nm := "advance") (lv := [(0, .ref (b + o)), (1, .ref (b + a0))]) (plainFor_of_name (by decide)) rfl rfl (Nat.le_of_ble_eq_true rfl) rfl ⟨rfl, rfl⟩ (fun X cx ex hL => ?_)
  have J146 : ∀ (me : ME), mX3_advance_j146 S o a0 me = some q → WS X b 2 S me 146 [] [] := by
    intro  me hM
    unfold mX3_advance_j146 at hM
    exact ws_vretM cx ex hM dX3_advance_146
  have J143 : ∀ (me : ME) (y0 : Nat) (y1 : Int32), mX3_advance_j143 S o a0 me y0 y1 = some q → WS X b 2 S me 143 [] [.int y1, .ref (b + y0)] := by
    intro  me y0 y1 hM
    unfold mX3_advance_j143 at hM
    obtain ⟨m2, h1, hM⟩ := bnd hM
    refine ws_putI cx ffX3_40 h1 dX3_advance_143 ?_
    refine ws_sub [] (lv' := []) rfl ?_
    exact J146 _ hM
  have J128 : ∀ (me : ME), mX3_advance_j128 S o a0 me = some q → WS X b 2 S me 128 [(0, .ref (b + o))] [] := by
    intro  me hM
    unfold mX3_advance_j128 at hM
    refine ws_aload_n cx dX3_advance_128 rfl (j := 0) rfl ?_
    refine ws_aload_n cx dX3_advance_129 rfl (j := 0) rfl ?_
    obtain ⟨v3, h4, hM⟩ := bnd hM
    refine ws_getI cx ffX3_43 h4 dX3_advance_130 ?_
    refine ws_bipush cx dX3_advance_133 (v := 59) (by decide) ?_
    refine ws_icmp_ne cx dX3_advance_135 (tgt := 142) (by decide) (fun c5 => ?_) (fun c5 => ?_)
    · have hM := if_f hM c5
      refine ws_iconst cx dX3_advance_142 (v := 4) (by decide) ?_
      refine ws_sub [] (lv' := []) rfl ?_
      exact J143 _ _ _ hM
    · have hM := if_t hM c5
      refine ws_iconst cx dX3_advance_138 (v := 3) (by decide) ?_
      refine ws_goto cx dX3_advance_139 (tgt := 143) (by decide) ?_
      refine ws_sub [] (lv' := []) rfl ?_
      exact J143 _ _ _ hM
  have J38 : ∀ (me : ME), mX3_advance_j38 S o a0 me = some q → WS X b 2 S me 38 [(0, .ref (b + o)), (1, .ref (b + a0))] [] := by
    intro  me hM
    unfold mX3_advance_j38 at hM
    refine ws_aload_n cx dX3_advance_38 rfl (j := 0) rfl ?_
    refine ws_aload_n cx dX3_advance_39 rfl (j := 0) rfl ?_
    obtain ⟨v6, h7, hM⟩ := bnd hM
    refine ws_getI cx ffX3_33 h7 dX3_advance_40 ?_
    obtain ⟨m9, h8, hM⟩ := bnd hM
    refine ws_putI cx ffX3_53 h8 dX3_advance_43 ?_
    refine ws_aload_n cx dX3_advance_46 rfl (j := 0) rfl ?_
    obtain ⟨v10, h11, hM⟩ := bnd hM
    refine ws_getI cx ffX3_33 h11 dX3_advance_47 ?_
    refine ws_aload_n cx dX3_advance_50 rfl (j := 1) rfl ?_
    obtain ⟨v12, h13, hM⟩ := bnd hM
    refine ws_getI cx ffX3_76 h13 dX3_advance_51 ?_
    refine ws_icmp_lt cx dX3_advance_54 (tgt := 63) (by decide) (fun c14 => ?_) (fun c14 => ?_)
    · have hM := if_t hM c14
      refine ws_aload_n cx dX3_advance_63 rfl (j := 0) rfl ?_
      refine ws_aload_n cx dX3_advance_64 rfl (j := 1) rfl ?_
      obtain ⟨v15, h16, hM⟩ := bnd hM
      refine ws_getR cx ffX3_79 h16 dX3_advance_65 ?_
      refine ws_aload_n cx dX3_advance_68 rfl (j := 0) rfl ?_
      obtain ⟨v17, h18, hM⟩ := bnd hM
      refine ws_getI cx ffX3_33 h18 dX3_advance_69 ?_
      obtain ⟨v19, h20, hM⟩ := bnd hM
      refine ws_iald cx h20 dX3_advance_72 ?_
      obtain ⟨m22, h21, hM⟩ := bnd hM
      refine ws_putI cx ffX3_43 h21 dX3_advance_73 ?_
      refine ws_aload_n cx dX3_advance_76 rfl (j := 0) rfl ?_
      obtain ⟨v23, h24, hM⟩ := bnd hM
      refine ws_getI cx ffX3_43 h24 dX3_advance_77 ?_
      obtain ⟨q25, h26, hM⟩ := bnd hM
      refine ws_callS cx (rest := []) (st' := [.int q25.1]) (kX3_isDigit l D b h26) mvX3_isDigit lkX3_82 rfl ⟨by decide, by decide⟩ (Nat.le_of_ble_eq_true rfl) ⟨rfl, rfl⟩ (Or.inl ⟨rfl, rfl⟩) rfl rfl dX3_advance_80 ?_
      refine ws_if_eq cx dX3_advance_83 (tgt := 92) (by decide) (fun c27 => ?_) (fun c27 => ?_)
      · have hM := if_t hM c27
        refine ws_aload_n cx dX3_advance_92 rfl (j := 0) rfl ?_
        refine ws_dup cx dX3_advance_93 rfl ?_
        obtain ⟨v28, h29, hM⟩ := bnd hM
        refine ws_getI cx ffX3_33 h29 dX3_advance_94 ?_
        refine ws_iconst cx dX3_advance_97 (v := 1) (by decide) ?_
        refine ws_iadd cx dX3_advance_98 ?_
        obtain ⟨m31, h30, hM⟩ := bnd hM
        refine ws_putI cx ffX3_33 h30 dX3_advance_99 ?_
        refine ws_aload_n cx dX3_advance_102 rfl (j := 0) rfl ?_
        obtain ⟨v32, h33, hM⟩ := bnd hM
        refine ws_getI cx ffX3_43 h33 dX3_advance_103 ?_
        refine ws_bipush cx dX3_advance_106 (v := 97) (by decide) ?_
        refine ws_icmp_lt cx dX3_advance_108 (tgt := 128) (by decide) (fun c34 => ?_) (fun c34 => ?_)
        · have hM := if_t hM c34
          refine ws_sub [0] (lv' := [(0, .ref (b + o))]) rfl ?_
          exact J128 _ hM
        · have hM := if_f hM c34
          refine ws_aload_n cx dX3_advance_111 rfl (j := 0) rfl ?_
          obtain ⟨v35, h36, hM⟩ := bnd hM
          refine ws_getI cx ffX3_43 h36 dX3_advance_112 ?_
          refine ws_bipush cx dX3_advance_115 (v := 122) (by decide) ?_
          refine ws_icmp_gt cx dX3_advance_117 (tgt := 128) (by decide) (fun c37 => ?_) (fun c37 => ?_)
          · have hM := if_t hM c37
            refine ws_sub [0] (lv' := [(0, .ref (b + o))]) rfl ?_
            exact J128 _ hM
          · have hM := if_f hM c37
            refine ws_aload_n cx dX3_advance_120 rfl (j := 0) rfl ?_
            refine ws_iconst cx dX3_advance_121 (v := 1) (by decide) ?_
            obtain ⟨m39, h38, hM⟩ := bnd hM
            refine ws_putI cx ffX3_40 h38 dX3_advance_122 ?_
            refine ws_goto cx dX3_advance_125 (tgt := 146) (by decide) ?_
            refine ws_sub [] (lv' := []) rfl ?_
            exact J146 _ hM
      · have hM := if_f hM c27
        refine ws_aload_n cx dX3_advance_86 rfl (j := 0) rfl ?_
        refine ws_aload_n cx dX3_advance_87 rfl (j := 1) rfl ?_
        obtain ⟨_, h42, hM⟩ := bnd hM
        obtain ⟨q40, h41, hM⟩ := bnd hM
        refine ws_callV cx (rest := []) (st' := []) (kX3_advanceOverNumber l D b h41) mvX3_advanceOverNumber (ck_k h42) (by decide) (q := (RX3, TX3, 7)) rfl seX3_advanceOverNumber lkX3_86 rfl ⟨by decide, by decide⟩ (Nat.le_of_ble_eq_true rfl) ⟨rfl, rfl⟩ (Or.inl ⟨rfl, rfl⟩) rfl rfl dX3_advance_88 ?_
        exact ws_vretM cx ex hM dX3_advance_91
    · have hM := if_f hM c14
      refine ws_aload_n cx dX3_advance_57 rfl (j := 0) rfl ?_
      refine ws_iconst cx dX3_advance_58 (v := 0) (by decide) ?_
      obtain ⟨m44, h43, hM⟩ := bnd hM
      refine ws_putI cx ffX3_40 h43 dX3_advance_59 ?_
      exact ws_vretM cx ex hM dX3_advance_62
  have L0 : ∀ (n : Nat) (me : ME), lpn (mX3_advance_L0 S o a0) n me = some q → WS X b 2 S me 0 [(0, .ref (b + o)), (1, .ref (b + a0))] [] := by
    intro  n
    induction n with
    | zero => intro me hM; exact absurd hM (by intro h; cases h)
    | succ n ih =>
      intro me hM
      have hM : mX3_advance_L0 S o a0 (lpn (mX3_advance_L0 S o a0) n) me = some q := hM
      unfold mX3_advance_L0 at hM
      refine ws_aload_n cx dX3_advance_0 rfl (j := 0) rfl ?_
      obtain ⟨v45, h46, hM⟩ := bnd hM
      refine ws_getI cx ffX3_33 h46 dX3_advance_1 ?_
      refine ws_aload_n cx dX3_advance_4 rfl (j := 1) rfl ?_
      obtain ⟨v47, h48, hM⟩ := bnd hM
      refine ws_getI cx ffX3_76 h48 dX3_advance_5 ?_
      refine ws_icmp_ge cx dX3_advance_8 (tgt := 38) (by decide) (fun c49 => ?_) (fun c49 => ?_)
      · have hM := if_t hM c49
        refine ws_sub [0, 1] (lv' := [(0, .ref (b + o)), (1, .ref (b + a0))]) rfl ?_
        exact J38 _ hM
      · have hM := if_f hM c49
        refine ws_aload_n cx dX3_advance_11 rfl (j := 1) rfl ?_
        obtain ⟨v50, h51, hM⟩ := bnd hM
        refine ws_getR cx ffX3_79 h51 dX3_advance_12 ?_
        refine ws_aload_n cx dX3_advance_15 rfl (j := 0) rfl ?_
        obtain ⟨v52, h53, hM⟩ := bnd hM
        refine ws_getI cx ffX3_33 h53 dX3_advance_16 ?_
        obtain ⟨v54, h55, hM⟩ := bnd hM
        refine ws_iald cx h55 dX3_advance_19 ?_
        refine ws_bipush cx dX3_advance_20 (v := 32) (by decide) ?_
        refine ws_icmp_ne cx dX3_advance_22 (tgt := 38) (by decide) (fun c56 => ?_) (fun c56 => ?_)
        · have hM := if_f hM c56
          refine ws_sub [0, 1] (lv' := [(0, .ref (b + o)), (1, .ref (b + a0))]) rfl ?_
          exact J38 _ hM
        · have hM := if_t hM c56
          refine ws_aload_n cx dX3_advance_25 rfl (j := 0) rfl ?_
          refine ws_dup cx dX3_advance_26 rfl ?_
          obtain ⟨v57, h58, hM⟩ := bnd hM
          refine ws_getI cx ffX3_33 h58 dX3_advance_27 ?_
          refine ws_iconst cx dX3_advance_30 (v := 1) (by decide) ?_
          refine ws_iadd cx dX3_advance_31 ?_
          obtain ⟨m60, h59, hM⟩ := bnd hM
          refine ws_putI cx ffX3_33 h59 dX3_advance_32 ?_
          refine ws_goto cx dX3_advance_35 (tgt := 0) (by decide) ?_
          refine ws_sub [0, 1] (lv' := [(0, .ref (b + o)), (1, .ref (b + a0))]) rfl ?_
          exact ih _ hM
  unfold mX3_advance at hM
  refine ws_sub [0, 1] (lv' := [(0, .ref (b + o)), (1, .ref (b + a0))]) rfl ?_
  exact L0 _ _ hM

def mX3_takeNumber_j26 (S : SH) (o : Nat) (a0 : Nat) (a1 : Int32) (me : ME) (y0 : Int32) : Option (Int32 × ME) :=
  if y0 = 0 ∨ y0 = 1 then some (y0, me) else none
def mX3_takeNumber_j25 (S : SH) (o : Nat) (a0 : Nat) (a1 : Int32) (me : ME) : Option (Int32 × ME) :=
  mX3_takeNumber_j26 S o a0 a1 me (0 : Int32)
def mX3_takeNumber (S : SH) (me : ME) (o : Nat) (a0 : Nat) (a1 : Int32) : Option (Int32 × ME) :=
  (ck S 3 o).bind fun _ => (mX3_advance S me o a0).bind fun q2 =>
  (gI S q2.2 3 5 o).bind fun v5 =>
  if v5 = (2 : Int32) then
    (gI S q2.2 3 6 o).bind fun v8 =>
    if a1 < v8 then
      mX3_takeNumber_j25 S o a0 a1 q2.2
    else
      mX3_takeNumber_j26 S o a0 a1 q2.2 (1 : Int32)
  else
    mX3_takeNumber_j25 S o a0 a1 q2.2
set_option maxRecDepth 100000 in
set_option maxHeartbeats 4000000 in
theorem kX3_takeNumber (l : Launch) (D : va_G) (b : Nat) {S : SH} {me : ME} {o : Nat} {a0 : Nat} {a1 : Int32} {q : Int32 × ME} (hM : mX3_takeNumber S me o a0 a1 = some q) : Ct l D b yX3_takeNumber cX3_takeNumber 3 (some .boolean) 3 65 0 0 [.ref (b + o), .ref (b + a0), .int a1] S me S q.2 (some (.int q.1)) := by
  refine ct_of (own := RX3) (nm := "takeNumber") (lv := [(0, .ref (b + o)), (1, .ref (b + a0)), (2, .int a1)]) (plainFor_of_name (by decide)) rfl rfl (Nat.le_of_ble_eq_true rfl) rfl ⟨rfl, rfl⟩ (fun X cx ex hL => ?_)
  have J26 : ∀ (me : ME) (y0 : Int32), mX3_takeNumber_j26 S o a0 a1 me y0 = some q → WS X b 3 S me 26 [] [.int y0] := by
    intro  me y0 hM
    unfold mX3_takeNumber_j26 at hM
    obtain ⟨h1, hM⟩ := ite_o hM
    exact ws_zretM cx ex h1 hM dX3_takeNumber_26
  have J25 : ∀ (me : ME), mX3_takeNumber_j25 S o a0 a1 me = some q → WS X b 3 S me 25 [] [] := by
    intro  me hM
    unfold mX3_takeNumber_j25 at hM
    refine ws_iconst cx dX3_takeNumber_25 (v := 0) (by decide) ?_
    refine ws_sub [] (lv' := []) rfl ?_
    exact J26 _ _ hM
  unfold mX3_takeNumber at hM
  refine ws_aload_n cx dX3_takeNumber_0 rfl (j := 0) rfl ?_
  refine ws_aload_n cx dX3_takeNumber_1 rfl (j := 1) rfl ?_
  obtain ⟨_, h4, hM⟩ := bnd hM
  obtain ⟨q2, h3, hM⟩ := bnd hM
  refine ws_callV cx (rest := []) (st' := []) (kX3_advance l D b h3) mvX3_advance (ck_k h4) (by decide) (q := (RX3, TX3, 7)) rfl seX3_advance lkX3_36 rfl ⟨by decide, by decide⟩ (Nat.le_of_ble_eq_true rfl) ⟨rfl, rfl⟩ (Or.inl ⟨rfl, rfl⟩) rfl rfl dX3_takeNumber_2 ?_
  refine ws_aload_n cx dX3_takeNumber_5 rfl (j := 0) rfl ?_
  obtain ⟨v5, h6, hM⟩ := bnd hM
  refine ws_getI cx ffX3_40 h6 dX3_takeNumber_6 ?_
  refine ws_iconst cx dX3_takeNumber_9 (v := 2) (by decide) ?_
  refine ws_icmp_ne cx dX3_takeNumber_10 (tgt := 25) (by decide) (fun c7 => ?_) (fun c7 => ?_)
  · have hM := if_f hM c7
    refine ws_sub [] (lv' := []) rfl ?_
    exact J25 _ hM
  · have hM := if_t hM c7
    refine ws_aload_n cx dX3_takeNumber_13 rfl (j := 0) rfl ?_
    obtain ⟨v8, h9, hM⟩ := bnd hM
    refine ws_getI cx ffX3_43 h9 dX3_takeNumber_14 ?_
    refine ws_iload_n cx dX3_takeNumber_17 rfl (j := 2) rfl ?_
    refine ws_icmp_gt cx dX3_takeNumber_18 (tgt := 25) (by decide) (fun c10 => ?_) (fun c10 => ?_)
    · have hM := if_t hM c10
      refine ws_sub [] (lv' := []) rfl ?_
      exact J25 _ hM
    · have hM := if_f hM c10
      refine ws_iconst cx dX3_takeNumber_21 (v := 1) (by decide) ?_
      refine ws_goto cx dX3_takeNumber_22 (tgt := 26) (by decide) ?_
      refine ws_sub [] (lv' := []) rfl ?_
      exact J26 _ _ hM

def mX3_clockOf (S : SH) (me : ME) (a0 : Int32) : Option (Int32 × ME) :=
  if a0 = (98 : Int32) then
    some ((4 : Int32), me)
  else
  if a0 = (99 : Int32) then
    some ((-1 : Int32), me)
  else
  if a0 = (100 : Int32) then
    some ((3 : Int32), me)
  else
  if a0 = (101 : Int32) then
    some ((2 : Int32), me)
  else
  if a0 = (102 : Int32) then
    some ((-1 : Int32), me)
  else
  if a0 = (103 : Int32) then
    some ((-1 : Int32), me)
  else
  if a0 = (104 : Int32) then
    some ((-1 : Int32), me)
  else
  if a0 = (105 : Int32) then
    some ((-1 : Int32), me)
  else
  if a0 = (106 : Int32) then
    some ((-1 : Int32), me)
  else
  if a0 = (107 : Int32) then
    some ((-1 : Int32), me)
  else
  if a0 = (108 : Int32) then
    some ((1 : Int32), me)
  else
  if a0 = (109 : Int32) then
    some ((-1 : Int32), me)
  else
  if a0 = (110 : Int32) then
    some ((-1 : Int32), me)
  else
  if a0 = (111 : Int32) then
    some ((-1 : Int32), me)
  else
  if a0 = (112 : Int32) then
    some ((0 : Int32), me)
  else
  some ((-1 : Int32), me)
set_option maxRecDepth 100000 in
set_option maxHeartbeats 4000000 in
theorem kX3_clockOf (l : Launch) (D : va_G) (b : Nat) {S : SH} {me : ME} {a0 : Int32} {q : Int32 × ME} (hM : mX3_clockOf S me a0 = some q) : Ct l D b yX3_clockOf cX3_clockOf 1 (some .int) 0 0 0 0 [.int a0] S me S q.2 (some (.int q.1)) := by
  refine ct_of (own := RX3) (nm := "clockOf") (lv := [(0, .int a0)]) (plainFor_of_name (by decide)) rfl rfl (Nat.le_of_ble_eq_true rfl) rfl ⟨rfl, rfl⟩ (fun X cx ex hL => ?_)
  unfold mX3_clockOf at hM
  refine ws_iload_n cx dX3_clockOf_0 rfl (j := 0) rfl ?_
  by_cases c1 : a0 = (98 : Int32)
  · have hM := if_t hM c1
    refine ws_tabIn cx dX3_clockOf_1 (tgt := 84) (by rw [c1]; decide) (by rw [c1]; decide) (by rw [c1]; rfl) (by decide) ?_
    refine ws_iconst cx dX3_clockOf_84 (v := 4) (by decide) ?_
    exact ws_iretM cx ex hM dX3_clockOf_85
  · have hM := if_f hM c1
    by_cases c2 : a0 = (99 : Int32)
    · have hM := if_t hM c2
      refine ws_tabIn cx dX3_clockOf_1 (tgt := 86) (by rw [c2]; decide) (by rw [c2]; decide) (by rw [c2]; rfl) (by decide) ?_
      refine ws_iconst cx dX3_clockOf_86 (v := -1) (by decide) ?_
      exact ws_iretM cx ex hM dX3_clockOf_87
    · have hM := if_f hM c2
      by_cases c3 : a0 = (100 : Int32)
      · have hM := if_t hM c3
        refine ws_tabIn cx dX3_clockOf_1 (tgt := 82) (by rw [c3]; decide) (by rw [c3]; decide) (by rw [c3]; rfl) (by decide) ?_
        refine ws_iconst cx dX3_clockOf_82 (v := 3) (by decide) ?_
        exact ws_iretM cx ex hM dX3_clockOf_83
      · have hM := if_f hM c3
        by_cases c4 : a0 = (101 : Int32)
        · have hM := if_t hM c4
          refine ws_tabIn cx dX3_clockOf_1 (tgt := 80) (by rw [c4]; decide) (by rw [c4]; decide) (by rw [c4]; rfl) (by decide) ?_
          refine ws_iconst cx dX3_clockOf_80 (v := 2) (by decide) ?_
          exact ws_iretM cx ex hM dX3_clockOf_81
        · have hM := if_f hM c4
          by_cases c5 : a0 = (102 : Int32)
          · have hM := if_t hM c5
            refine ws_tabIn cx dX3_clockOf_1 (tgt := 86) (by rw [c5]; decide) (by rw [c5]; decide) (by rw [c5]; rfl) (by decide) ?_
            refine ws_iconst cx dX3_clockOf_86 (v := -1) (by decide) ?_
            exact ws_iretM cx ex hM dX3_clockOf_87
          · have hM := if_f hM c5
            by_cases c6 : a0 = (103 : Int32)
            · have hM := if_t hM c6
              refine ws_tabIn cx dX3_clockOf_1 (tgt := 86) (by rw [c6]; decide) (by rw [c6]; decide) (by rw [c6]; rfl) (by decide) ?_
              refine ws_iconst cx dX3_clockOf_86 (v := -1) (by decide) ?_
              exact ws_iretM cx ex hM dX3_clockOf_87
            · have hM := if_f hM c6
              by_cases c7 : a0 = (104 : Int32)
              · have hM := if_t hM c7
                refine ws_tabIn cx dX3_clockOf_1 (tgt := 86) (by rw [c7]; decide) (by rw [c7]; decide) (by rw [c7]; rfl) (by decide) ?_
                refine ws_iconst cx dX3_clockOf_86 (v := -1) (by decide) ?_
                exact ws_iretM cx ex hM dX3_clockOf_87
              · have hM := if_f hM c7
                by_cases c8 : a0 = (105 : Int32)
                · have hM := if_t hM c8
                  refine ws_tabIn cx dX3_clockOf_1 (tgt := 86) (by rw [c8]; decide) (by rw [c8]; decide) (by rw [c8]; rfl) (by decide) ?_
                  refine ws_iconst cx dX3_clockOf_86 (v := -1) (by decide) ?_
                  exact ws_iretM cx ex hM dX3_clockOf_87
                · have hM := if_f hM c8
                  by_cases c9 : a0 = (106 : Int32)
                  · have hM := if_t hM c9
                    refine ws_tabIn cx dX3_clockOf_1 (tgt := 86) (by rw [c9]; decide) (by rw [c9]; decide) (by rw [c9]; rfl) (by decide) ?_
                    refine ws_iconst cx dX3_clockOf_86 (v := -1) (by decide) ?_
                    exact ws_iretM cx ex hM dX3_clockOf_87
                  · have hM := if_f hM c9
                    by_cases c10 : a0 = (107 : Int32)
                    · have hM := if_t hM c10
                      refine ws_tabIn cx dX3_clockOf_1 (tgt := 86) (by rw [c10]; decide) (by rw [c10]; decide) (by rw [c10]; rfl) (by decide) ?_
                      refine ws_iconst cx dX3_clockOf_86 (v := -1) (by decide) ?_
                      exact ws_iretM cx ex hM dX3_clockOf_87
                    · have hM := if_f hM c10
                      by_cases c11 : a0 = (108 : Int32)
                      · have hM := if_t hM c11
                        refine ws_tabIn cx dX3_clockOf_1 (tgt := 78) (by rw [c11]; decide) (by rw [c11]; decide) (by rw [c11]; rfl) (by decide) ?_
                        refine ws_iconst cx dX3_clockOf_78 (v := 1) (by decide) ?_
                        exact ws_iretM cx ex hM dX3_clockOf_79
                      · have hM := if_f hM c11
                        by_cases c12 : a0 = (109 : Int32)
                        · have hM := if_t hM c12
                          refine ws_tabIn cx dX3_clockOf_1 (tgt := 86) (by rw [c12]; decide) (by rw [c12]; decide) (by rw [c12]; rfl) (by decide) ?_
                          refine ws_iconst cx dX3_clockOf_86 (v := -1) (by decide) ?_
                          exact ws_iretM cx ex hM dX3_clockOf_87
                        · have hM := if_f hM c12
                          by_cases c13 : a0 = (110 : Int32)
                          · have hM := if_t hM c13
                            refine ws_tabIn cx dX3_clockOf_1 (tgt := 86) (by rw [c13]; decide) (by rw [c13]; decide) (by rw [c13]; rfl) (by decide) ?_
                            refine ws_iconst cx dX3_clockOf_86 (v := -1) (by decide) ?_
                            exact ws_iretM cx ex hM dX3_clockOf_87
                          · have hM := if_f hM c13
                            by_cases c14 : a0 = (111 : Int32)
                            · have hM := if_t hM c14
                              refine ws_tabIn cx dX3_clockOf_1 (tgt := 86) (by rw [c14]; decide) (by rw [c14]; decide) (by rw [c14]; rfl) (by decide) ?_
                              refine ws_iconst cx dX3_clockOf_86 (v := -1) (by decide) ?_
                              exact ws_iretM cx ex hM dX3_clockOf_87
                            · have hM := if_f hM c14
                              by_cases c15 : a0 = (112 : Int32)
                              · have hM := if_t hM c15
                                refine ws_tabIn cx dX3_clockOf_1 (tgt := 76) (by rw [c15]; decide) (by rw [c15]; decide) (by rw [c15]; rfl) (by decide) ?_
                                refine ws_iconst cx dX3_clockOf_76 (v := 0) (by decide) ?_
                                exact ws_iretM cx ex hM dX3_clockOf_77
                              · have hM := if_f hM c15
                                refine ws_tabOut cx dX3_clockOf_1 (tgt := 86) (by have := lv_neT c1 (show ((98 : Int32)).toInt = 98 from rfl); have := lv_neT c2 (show ((99 : Int32)).toInt = 99 from rfl); have := lv_neT c3 (show ((100 : Int32)).toInt = 100 from rfl); have := lv_neT c4 (show ((101 : Int32)).toInt = 101 from rfl); have := lv_neT c5 (show ((102 : Int32)).toInt = 102 from rfl); have := lv_neT c6 (show ((103 : Int32)).toInt = 103 from rfl); have := lv_neT c7 (show ((104 : Int32)).toInt = 104 from rfl); have := lv_neT c8 (show ((105 : Int32)).toInt = 105 from rfl); have := lv_neT c9 (show ((106 : Int32)).toInt = 106 from rfl); have := lv_neT c10 (show ((107 : Int32)).toInt = 107 from rfl); have := lv_neT c11 (show ((108 : Int32)).toInt = 108 from rfl); have := lv_neT c12 (show ((109 : Int32)).toInt = 109 from rfl); have := lv_neT c13 (show ((110 : Int32)).toInt = 110 from rfl); have := lv_neT c14 (show ((111 : Int32)).toInt = 111 from rfl); have := lv_neT c15 (show ((112 : Int32)).toInt = 112 from rfl); omega) (by decide) ?_
                                refine ws_iconst cx dX3_clockOf_86 (v := -1) (by decide) ?_
                                exact ws_iretM cx ex hM dX3_clockOf_87
