def mX10_due_j49 (S : SH) (o : Nat) (a0 : Int32) (a1 : Int32) (a2 : Int32) (a3 : Int32) (a4 : Int32) (me : ME) : Option (Int32 × ME) :=
  some ((-1 : Int32), me)
def mX10_due_j108 (S : SH) (o : Nat) (a0 : Int32) (a1 : Int32) (a2 : Int32) (a3 : Int32) (a4 : Int32) (me : ME) (y0 : Int32) : Option (Int32 × ME) :=
  some (y0, me)
def mX10_due_j91 (S : SH) (o : Nat) (a0 : Int32) (a1 : Int32) (a2 : Int32) (a3 : Int32) (a4 : Int32) (me : ME) (x6 : Int32) : Option (Int32 × ME) :=
  if x6 = (-9 : Int32) then
    mX10_due_j108 S o a0 a1 a2 a3 a4 me (-9 : Int32)
  else
    mX10_due_j108 S o a0 a1 a2 a3 a4 me (a3 + x6)
def mX10_due_j201 (S : SH) (o : Nat) (a0 : Int32) (a1 : Int32) (a2 : Int32) (a3 : Int32) (a4 : Int32) (me : ME) (y0 : Int32) : Option (Int32 × ME) :=
  some (y0, me)
def mX10_due_j181 (S : SH) (o : Nat) (a0 : Int32) (a1 : Int32) (a2 : Int32) (a3 : Int32) (a4 : Int32) (me : ME) (y0 : Int32) : Option (Int32 × ME) :=
  (mX10_in S me y0 (0 : Int32) (60 : Int32)).bind fun q2 =>
  if q2.1 = 0 then
    mX10_due_j201 S o a0 a1 a2 a3 a4 q2.2 (-9 : Int32)
  else
    mX10_due_j201 S o a0 a1 a2 a3 a4 q2.2 y0
def mX10_due (S : SH) (me : ME) (o : Nat) (a0 : Int32) (a1 : Int32) (a2 : Int32) (a3 : Int32) (a4 : Int32) : Option (Int32 × ME) :=
  (ck S 10 o).bind fun _ => (mX10_isStation S me o a0).bind fun q5 =>
  if q5.1 = 0 then
    mX10_due_j49 S o a0 a1 a2 a3 a4 q5.2
  else
    (mX10_in S q5.2 a1 (0 : Int32) (29 : Int32)).bind fun q9 =>
    if q9.1 = 0 then
      mX10_due_j49 S o a0 a1 a2 a3 a4 q9.2
    else
      (mX10_in S q9.2 a2 (0 : Int32) (29 : Int32)).bind fun q12 =>
      if q12.1 = 0 then
        mX10_due_j49 S o a0 a1 a2 a3 a4 q12.2
      else
        (mX10_in S q12.2 a3 (0 : Int32) (60 : Int32)).bind fun q15 =>
        if q15.1 = 0 then
          mX10_due_j49 S o a0 a1 a2 a3 a4 q15.2
        else
          (mX10_in S q15.2 a4 (0 : Int32) (1 : Int32)).bind fun q18 =>
          if q18.1 = 0 then
            mX10_due_j49 S o a0 a1 a2 a3 a4 q18.2
          else
            (gR S 10 1 o).bind fun v21 =>
            (aI S q18.2 11 v21 a0).bind fun v23 =>
            (mX10_square S q18.2 (a1 - v23)).bind fun q25 =>
            (gR S 10 2 o).bind fun v27 =>
            (aI S q25.2 11 v27 a0).bind fun v29 =>
            (mX10_square S q25.2 (a2 - v29)).bind fun q31 =>
            (mX10_root S q31.2 (q25.1 + q31.1)).bind fun q33 =>
            if q33.1 = (-9 : Int32) then
              mX10_due_j91 S o a0 a1 a2 a3 a4 q33.2 q33.1
            else
              if a4 = 0 then
                mX10_due_j91 S o a0 a1 a2 a3 a4 q33.2 q33.1
              else
                (gR S 10 3 o).bind fun v37 =>
                (aI S q33.2 11 v37 ((1 : Int32) + a0)).bind fun v39 =>
                if v39 = (1 : Int32) then
                  mX10_due_j181 S o a0 a1 a2 a3 a4 q33.2 ((a3 + q33.1) + (3 : Int32))
                else
                  if v39 = (2 : Int32) then
                    mX10_due_j181 S o a0 a1 a2 a3 a4 q33.2 ((a3 + q33.1) - (3 : Int32))
                  else
                    if v39 = (3 : Int32) then
                      mX10_due_j181 S o a0 a1 a2 a3 a4 q33.2 ((2 : Int32) * (a3 + q33.1))
                    else
                      if v39 = (4 : Int32) then
                        mX10_due_j181 S o a0 a1 a2 a3 a4 q33.2 ((60 : Int32) - (a3 + q33.1))
                      else
                        mX10_due_j181 S o a0 a1 a2 a3 a4 q33.2 (a3 + q33.1)
set_option maxRecDepth 100000 in
set_option maxHeartbeats 4000000 in
theorem kX10_due (l : Launch) (D : va_G) (b : Nat) {S : SH} {me : ME} {o : Nat} {a0 : Int32} {a1 : Int32} {a2 : Int32} {a3 : Int32} {a4 : Int32} {q : Int32 × ME} (hM : mX10_due S me o a0 a1 a2 a3 a4 = some q) : Ct l D b yX10_due cX10_due 10 (some .int) 2 43 0 0 [.ref (b + o), .int a0, .int a1, .int a2, .int a3, .int a4] S me S q.2 (some (.int q.1)) := by
  refine ct_of (own := RX10) (nm := "due") (lv := [(0, .ref (b + o)), (1, .int a0), (2, .int a1), (3, .int a2), (4, .int a3), (5, .int a4)]) (plainFor_of_name (by decide)) rfl rfl (Nat.le_of_ble_eq_true rfl) rfl ⟨rfl, rfl⟩ (fun X cx ex hL => ?_)
  have J49 : ∀ (me : ME), mX10_due_j49 S o a0 a1 a2 a3 a4 me = some q → WS X b 10 S me 49 [] [] := by
    intro  me hM
    unfold mX10_due_j49 at hM
    refine ws_iconst cx dX10_due_49 (v := -1) (by decide) ?_
    exact ws_iretM cx ex hM dX10_due_50
  have J108 : ∀ (me : ME) (y0 : Int32), mX10_due_j108 S o a0 a1 a2 a3 a4 me y0 = some q → WS X b 10 S me 108 [] [.int y0] := by
    intro  me y0 hM
    unfold mX10_due_j108 at hM
    exact ws_iretM cx ex hM dX10_due_108
  have J91 : ∀ (me : ME) (x6 : Int32), mX10_due_j91 S o a0 a1 a2 a3 a4 me x6 = some q → WS X b 10 S me 91 [(4, .int a3), (6, .int x6)] [] := by
    intro  me x6 hM
    unfold mX10_due_j91 at hM
    refine ws_iload cx dX10_due_91 (j := 1) rfl ?_
    refine ws_bipush cx dX10_due_93 (v := -9) (by decide) ?_
    refine ws_icmp_ne cx dX10_due_95 (tgt := 103) (by decide) (fun c1 => ?_) (fun c1 => ?_)
    · have hM := if_f hM c1
      refine ws_iload cx dX10_due_103 (j := 0) rfl ?_
      refine ws_iload cx dX10_due_105 (j := 1) rfl ?_
      refine ws_iadd cx dX10_due_107 ?_
      refine ws_sub [] (lv' := []) rfl ?_
      exact J108 _ _ hM
    · have hM := if_t hM c1
      refine ws_bipush cx dX10_due_98 (v := -9) (by decide) ?_
      refine ws_goto cx dX10_due_100 (tgt := 108) (by decide) ?_
      refine ws_sub [] (lv' := []) rfl ?_
      exact J108 _ _ hM
  have J201 : ∀ (me : ME) (y0 : Int32), mX10_due_j201 S o a0 a1 a2 a3 a4 me y0 = some q → WS X b 10 S me 201 [] [.int y0] := by
    intro  me y0 hM
    unfold mX10_due_j201 at hM
    exact ws_iretM cx ex hM dX10_due_201
  have J181 : ∀ (me : ME) (y0 : Int32), mX10_due_j181 S o a0 a1 a2 a3 a4 me y0 = some q → WS X b 10 S me 181 [] [.int y0] := by
    intro  me y0 hM
    unfold mX10_due_j181 at hM
    refine ws_istore cx dX10_due_181 (by decide) (lv' := [(9, .int y0)]) rfl ?_
    refine ws_iload cx dX10_due_183 (j := 0) rfl ?_
    refine ws_iconst cx dX10_due_185 (v := 0) (by decide) ?_
    refine ws_bipush cx dX10_due_186 (v := 60) (by decide) ?_
    obtain ⟨q2, h3, hM⟩ := bnd hM
    refine ws_callS cx (rest := []) (st' := [.int q2.1]) (kX10_in l D b h3) mvX10_in lkX10_48 rfl ⟨by decide, by decide⟩ (Nat.le_of_ble_eq_true rfl) ⟨rfl, rfl⟩ (Or.inl ⟨rfl, rfl⟩) rfl rfl dX10_due_188 ?_
    refine ws_if_eq cx dX10_due_191 (tgt := 199) (by decide) (fun c4 => ?_) (fun c4 => ?_)
    · have hM := if_t hM c4
      refine ws_bipush cx dX10_due_199 (v := -9) (by decide) ?_
      refine ws_sub [] (lv' := []) rfl ?_
      exact J201 _ _ hM
    · have hM := if_f hM c4
      refine ws_iload cx dX10_due_194 (j := 0) rfl ?_
      refine ws_goto cx dX10_due_196 (tgt := 201) (by decide) ?_
      refine ws_sub [] (lv' := []) rfl ?_
      exact J201 _ _ hM
  unfold mX10_due at hM
  refine ws_aload_n cx dX10_due_0 rfl (j := 0) rfl ?_
  refine ws_iload_n cx dX10_due_1 rfl (j := 1) rfl ?_
  obtain ⟨_, h7, hM⟩ := bnd hM
  obtain ⟨q5, h6, hM⟩ := bnd hM
  refine ws_callV cx (rest := []) (st' := [.int q5.1]) (kX10_isStation l D b h6) mvX10_isStation (ck_k h7) (by decide) (q := (RX10, TX10, 31)) rfl seX10_isStation lkX10_138 rfl ⟨by decide, by decide⟩ (Nat.le_of_ble_eq_true rfl) ⟨rfl, rfl⟩ (Or.inl ⟨rfl, rfl⟩) rfl rfl dX10_due_2 ?_
  refine ws_if_eq cx dX10_due_5 (tgt := 49) (by decide) (fun c8 => ?_) (fun c8 => ?_)
  · have hM := if_t hM c8
    refine ws_sub [] (lv' := []) rfl ?_
    exact J49 _ hM
  · have hM := if_f hM c8
    refine ws_iload_n cx dX10_due_8 rfl (j := 2) rfl ?_
    refine ws_iconst cx dX10_due_9 (v := 0) (by decide) ?_
    refine ws_bipush cx dX10_due_10 (v := 29) (by decide) ?_
    obtain ⟨q9, h10, hM⟩ := bnd hM
    refine ws_callS cx (rest := []) (st' := [.int q9.1]) (kX10_in l D b h10) mvX10_in lkX10_48 rfl ⟨by decide, by decide⟩ (Nat.le_of_ble_eq_true rfl) ⟨rfl, rfl⟩ (Or.inl ⟨rfl, rfl⟩) rfl rfl dX10_due_12 ?_
    refine ws_if_eq cx dX10_due_15 (tgt := 49) (by decide) (fun c11 => ?_) (fun c11 => ?_)
    · have hM := if_t hM c11
      refine ws_sub [] (lv' := []) rfl ?_
      exact J49 _ hM
    · have hM := if_f hM c11
      refine ws_iload_n cx dX10_due_18 rfl (j := 3) rfl ?_
      refine ws_iconst cx dX10_due_19 (v := 0) (by decide) ?_
      refine ws_bipush cx dX10_due_20 (v := 29) (by decide) ?_
      obtain ⟨q12, h13, hM⟩ := bnd hM
      refine ws_callS cx (rest := []) (st' := [.int q12.1]) (kX10_in l D b h13) mvX10_in lkX10_48 rfl ⟨by decide, by decide⟩ (Nat.le_of_ble_eq_true rfl) ⟨rfl, rfl⟩ (Or.inl ⟨rfl, rfl⟩) rfl rfl dX10_due_22 ?_
      refine ws_if_eq cx dX10_due_25 (tgt := 49) (by decide) (fun c14 => ?_) (fun c14 => ?_)
      · have hM := if_t hM c14
        refine ws_sub [] (lv' := []) rfl ?_
        exact J49 _ hM
      · have hM := if_f hM c14
        refine ws_iload cx dX10_due_28 (j := 4) rfl ?_
        refine ws_iconst cx dX10_due_30 (v := 0) (by decide) ?_
        refine ws_bipush cx dX10_due_31 (v := 60) (by decide) ?_
        obtain ⟨q15, h16, hM⟩ := bnd hM
        refine ws_callS cx (rest := []) (st' := [.int q15.1]) (kX10_in l D b h16) mvX10_in lkX10_48 rfl ⟨by decide, by decide⟩ (Nat.le_of_ble_eq_true rfl) ⟨rfl, rfl⟩ (Or.inl ⟨rfl, rfl⟩) rfl rfl dX10_due_33 ?_
        refine ws_if_eq cx dX10_due_36 (tgt := 49) (by decide) (fun c17 => ?_) (fun c17 => ?_)
        · have hM := if_t hM c17
          refine ws_sub [] (lv' := []) rfl ?_
          exact J49 _ hM
        · have hM := if_f hM c17
          refine ws_iload cx dX10_due_39 (j := 5) rfl ?_
          refine ws_iconst cx dX10_due_41 (v := 0) (by decide) ?_
          refine ws_iconst cx dX10_due_42 (v := 1) (by decide) ?_
          obtain ⟨q18, h19, hM⟩ := bnd hM
          refine ws_callS cx (rest := []) (st' := [.int q18.1]) (kX10_in l D b h19) mvX10_in lkX10_48 rfl ⟨by decide, by decide⟩ (Nat.le_of_ble_eq_true rfl) ⟨rfl, rfl⟩ (Or.inl ⟨rfl, rfl⟩) rfl rfl dX10_due_43 ?_
          refine ws_if_ne cx dX10_due_46 (tgt := 51) (by decide) (fun c20 => ?_) (fun c20 => ?_)
          · have hM := if_f hM c20
            refine ws_iload_n cx dX10_due_51 rfl (j := 2) rfl ?_
            refine ws_aload_n cx dX10_due_52 rfl (j := 0) rfl ?_
            obtain ⟨v21, h22, hM⟩ := bnd hM
            refine ws_getR cx ffX10_7 h22 dX10_due_53 ?_
            refine ws_iload_n cx dX10_due_56 rfl (j := 1) rfl ?_
            obtain ⟨v23, h24, hM⟩ := bnd hM
            refine ws_iald cx h24 dX10_due_57 ?_
            refine ws_isub cx dX10_due_58 ?_
            obtain ⟨q25, h26, hM⟩ := bnd hM
            refine ws_callS cx (rest := []) (st' := [.int q25.1]) (kX10_square l D b h26) mvX10_square lkX10_113 rfl ⟨by decide, by decide⟩ (Nat.le_of_ble_eq_true rfl) ⟨rfl, rfl⟩ (Or.inl ⟨rfl, rfl⟩) rfl rfl dX10_due_59 ?_
            refine ws_iload_n cx dX10_due_62 rfl (j := 3) rfl ?_
            refine ws_aload_n cx dX10_due_63 rfl (j := 0) rfl ?_
            obtain ⟨v27, h28, hM⟩ := bnd hM
            refine ws_getR cx ffX10_13 h28 dX10_due_64 ?_
            refine ws_iload_n cx dX10_due_67 rfl (j := 1) rfl ?_
            obtain ⟨v29, h30, hM⟩ := bnd hM
            refine ws_iald cx h30 dX10_due_68 ?_
            refine ws_isub cx dX10_due_69 ?_
            obtain ⟨q31, h32, hM⟩ := bnd hM
            refine ws_callS cx (rest := [.int q25.1]) (st' := [.int q31.1, .int q25.1]) (kX10_square l D b h32) mvX10_square lkX10_113 rfl ⟨by decide, by decide⟩ (Nat.le_of_ble_eq_true rfl) ⟨rfl, rfl⟩ (Or.inl ⟨rfl, rfl⟩) rfl rfl dX10_due_70 ?_
            refine ws_iadd cx dX10_due_73 ?_
            obtain ⟨q33, h34, hM⟩ := bnd hM
            refine ws_callS cx (rest := []) (st' := [.int q33.1]) (kX10_root l D b h34) mvX10_root lkX10_228 rfl ⟨by decide, by decide⟩ (Nat.le_of_ble_eq_true rfl) ⟨rfl, rfl⟩ (Or.inl ⟨rfl, rfl⟩) rfl rfl dX10_due_74 ?_
            refine ws_istore cx dX10_due_77 (by decide) (lv' := [(6, .int q33.1), (0, .ref (b + o)), (1, .int a0), (2, .int a1), (3, .int a2), (4, .int a3), (5, .int a4)]) rfl ?_
            refine ws_iload cx dX10_due_79 (j := 0) rfl ?_
            refine ws_bipush cx dX10_due_81 (v := -9) (by decide) ?_
            refine ws_icmp_eq cx dX10_due_83 (tgt := 91) (by decide) (fun c35 => ?_) (fun c35 => ?_)
            · have hM := if_t hM c35
              refine ws_sub [5, 0] (lv' := [(4, .int a3), (6, .int q33.1)]) rfl ?_
              exact J91 _ _ hM
            · have hM := if_f hM c35
              refine ws_iload cx dX10_due_86 (j := 6) rfl ?_
              refine ws_if_ne cx dX10_due_88 (tgt := 109) (by decide) (fun c36 => ?_) (fun c36 => ?_)
              · have hM := if_f hM c36
                refine ws_iload cx dX10_due_109 (j := 5) rfl ?_
                refine ws_iload cx dX10_due_111 (j := 0) rfl ?_
                refine ws_iadd cx dX10_due_113 ?_
                refine ws_istore cx dX10_due_114 (by decide) (lv' := [(7, .int (a3 + q33.1)), (6, .int q33.1), (0, .ref (b + o)), (1, .int a0), (2, .int a1), (3, .int a2), (4, .int a3), (5, .int a4)]) rfl ?_
                refine ws_aload_n cx dX10_due_116 rfl (j := 2) rfl ?_
                obtain ⟨v37, h38, hM⟩ := bnd hM
                refine ws_getR cx ffX10_16 h38 dX10_due_117 ?_
                refine ws_iconst cx dX10_due_120 (v := 1) (by decide) ?_
                refine ws_iload_n cx dX10_due_121 rfl (j := 3) rfl ?_
                refine ws_iadd cx dX10_due_122 ?_
                obtain ⟨v39, h40, hM⟩ := bnd hM
                refine ws_iald cx h40 dX10_due_123 ?_
                refine ws_istore cx dX10_due_124 (by decide) (lv' := [(8, .int v39), (7, .int (a3 + q33.1)), (6, .int q33.1), (0, .ref (b + o)), (1, .int a0), (2, .int a1), (3, .int a2), (4, .int a3), (5, .int a4)]) rfl ?_
                refine ws_iload cx dX10_due_126 (j := 0) rfl ?_
                refine ws_iconst cx dX10_due_128 (v := 1) (by decide) ?_
                refine ws_icmp_ne cx dX10_due_129 (tgt := 139) (by decide) (fun c41 => ?_) (fun c41 => ?_)
                · have hM := if_f hM c41
                  refine ws_iload cx dX10_due_139 (j := 0) rfl ?_
                  refine ws_iconst cx dX10_due_141 (v := 2) (by decide) ?_
                  refine ws_icmp_ne cx dX10_due_142 (tgt := 152) (by decide) (fun c42 => ?_) (fun c42 => ?_)
                  · have hM := if_f hM c42
                    refine ws_iload cx dX10_due_152 (j := 0) rfl ?_
                    refine ws_iconst cx dX10_due_154 (v := 3) (by decide) ?_
                    refine ws_icmp_ne cx dX10_due_155 (tgt := 165) (by decide) (fun c43 => ?_) (fun c43 => ?_)
                    · have hM := if_f hM c43
                      refine ws_iload cx dX10_due_165 (j := 0) rfl ?_
                      refine ws_iconst cx dX10_due_167 (v := 4) (by decide) ?_
                      refine ws_icmp_ne cx dX10_due_168 (tgt := 179) (by decide) (fun c44 => ?_) (fun c44 => ?_)
                      · have hM := if_f hM c44
                        refine ws_iload cx dX10_due_179 (j := 1) rfl ?_
                        refine ws_sub [] (lv' := []) rfl ?_
                        exact J181 _ _ hM
                      · have hM := if_t hM c44
                        refine ws_bipush cx dX10_due_171 (v := 60) (by decide) ?_
                        refine ws_iload cx dX10_due_173 (j := 1) rfl ?_
                        refine ws_isub cx dX10_due_175 ?_
                        refine ws_goto cx dX10_due_176 (tgt := 181) (by decide) ?_
                        refine ws_sub [] (lv' := []) rfl ?_
                        exact J181 _ _ hM
                    · have hM := if_t hM c43
                      refine ws_iconst cx dX10_due_158 (v := 2) (by decide) ?_
                      refine ws_iload cx dX10_due_159 (j := 1) rfl ?_
                      refine ws_imul cx dX10_due_161 ?_
                      refine ws_goto cx dX10_due_162 (tgt := 181) (by decide) ?_
                      refine ws_sub [] (lv' := []) rfl ?_
                      exact J181 _ _ hM
                  · have hM := if_t hM c42
                    refine ws_iload cx dX10_due_145 (j := 1) rfl ?_
                    refine ws_iconst cx dX10_due_147 (v := 3) (by decide) ?_
                    refine ws_isub cx dX10_due_148 ?_
                    refine ws_goto cx dX10_due_149 (tgt := 181) (by decide) ?_
                    refine ws_sub [] (lv' := []) rfl ?_
                    exact J181 _ _ hM
                · have hM := if_t hM c41
                  refine ws_iload cx dX10_due_132 (j := 1) rfl ?_
                  refine ws_iconst cx dX10_due_134 (v := 3) (by decide) ?_
                  refine ws_iadd cx dX10_due_135 ?_
                  refine ws_goto cx dX10_due_136 (tgt := 181) (by decide) ?_
                  refine ws_sub [] (lv' := []) rfl ?_
                  exact J181 _ _ hM
              · have hM := if_t hM c36
                refine ws_sub [5, 0] (lv' := [(4, .int a3), (6, .int q33.1)]) rfl ?_
                exact J91 _ _ hM
          · have hM := if_t hM c20
            refine ws_sub [] (lv' := []) rfl ?_
            exact J49 _ hM

def mX10_odds_j37 (S : SH) (o : Nat) (a0 : Int32) (a1 : Int32) (a2 : Int32) (me : ME) : Option (Int32 × ME) :=
  some ((-1 : Int32), me)
def mX10_odds_j142 (S : SH) (o : Nat) (a0 : Int32) (a1 : Int32) (a2 : Int32) (k84 : (ME × Int32 × Int64 × Int64 × Int32 → Option (Int32 × ME))) (k95 : (ME × Int32 × Int64 × Int64 × Int32 × Int64 × Int32 → Option (Int32 × ME))) (me : ME) (x4 : Int32) (x5 : Int64) (x7 : Int64) (x9 : Int32) (x12 : Int32) (y0 : Int64) (y1 : Int64) : Option (Int32 × ME) :=
  k95 (me, x4, x5, x7, x9, y0 * y1, x12 + (1 : Int32))
def mX10_odds_j175 (S : SH) (o : Nat) (a0 : Int32) (a1 : Int32) (a2 : Int32) (k84 : (ME × Int32 × Int64 × Int64 × Int32 → Option (Int32 × ME))) (me : ME) (x4 : Int32) (x5 : Int64) (x9 : Int32) (y0 : Int64) (y1 : Int64) : Option (Int32 × ME) :=
  k84 (me, x4, x5, y0 + y1, (x9 - (1 : Int32)) &&& x4)
def mX10_odds_j174 (S : SH) (o : Nat) (a0 : Int32) (a1 : Int32) (a2 : Int32) (k84 : (ME × Int32 × Int64 × Int64 × Int32 → Option (Int32 × ME))) (me : ME) (x4 : Int32) (x5 : Int64) (x9 : Int32) (y0 : Int64) : Option (Int32 × ME) :=
  mX10_odds_j175 S o a0 a1 a2 k84 me x4 x5 x9 y0 (0 : Int64)
def mX10_odds_j151 (S : SH) (o : Nat) (a0 : Int32) (a1 : Int32) (a2 : Int32) (k84 : (ME × Int32 × Int64 × Int64 × Int32 → Option (Int32 × ME))) (me : ME) (x4 : Int32) (x5 : Int64) (x7 : Int64) (x9 : Int32) (x10 : Int64) : Option (Int32 × ME) :=
  if (lg_cmp x10 (0 : Int64)) ≤ 0 then
    mX10_odds_j174 S o a0 a1 a2 k84 me x4 x5 x9 x7
  else
    (ck S 10 o).bind fun _ => (mX10_verdictOf S me o x9).bind fun q2 =>
    if q2.1 = 0 then
      mX10_odds_j175 S o a0 a1 a2 k84 q2.2 x4 x5 x9 x7 x10
    else
      mX10_odds_j174 S o a0 a1 a2 k84 q2.2 x4 x5 x9 x7
def mX10_odds_L95 (S : SH) (o : Nat) (a0 : Int32) (a1 : Int32) (a2 : Int32) (k84 : (ME × Int32 × Int64 × Int64 × Int32 → Option (Int32 × ME))) (k95 : (ME × Int32 × Int64 × Int64 × Int32 × Int64 × Int32 → Option (Int32 × ME))) : ME × Int32 × Int64 × Int64 × Int32 × Int64 × Int32 → Option (Int32 × ME)
  | (me, x4, x5, x7, x9, x10, x12) =>
    (gR S 10 3 o).bind fun v6 =>
    (aI S me 11 v6 (0 : Int32)).bind fun v8 =>
    if v8 ≤ x12 then
      mX10_odds_j151 S o a0 a1 a2 k84 me x4 x5 x7 x9 x10
    else
      (mX10_has S me x4 x12).bind fun q11 =>
      if q11.1 = 0 then
        mX10_odds_j142 S o a0 a1 a2 k84 k95 q11.2 x4 x5 x7 x9 x12 x10 (1 : Int64)
      else
        (mX10_has S q11.2 x9 x12).bind fun q14 =>
        if q14.1 = 0 then
          mX10_odds_j142 S o a0 a1 a2 k84 k95 q14.2 x4 x5 x7 x9 x12 x10 a1.toInt64
        else
          mX10_odds_j142 S o a0 a1 a2 k84 k95 q14.2 x4 x5 x7 x9 x12 x10 (((10 : Int32) - a1).toInt64)
def mX10_odds_j203 (S : SH) (o : Nat) (a0 : Int32) (a1 : Int32) (a2 : Int32) (me : ME) (y0 : Int64) (y1 : Int64) (y2 : Int32) : Option (Int32 × ME) :=
  (mX10_lowest S me y0 y1 y2).bind fun q17 =>
  some (q17.1, q17.2)
def mX10_odds_j190 (S : SH) (o : Nat) (a0 : Int32) (a1 : Int32) (a2 : Int32) (me : ME) (x5 : Int64) (x7 : Int64) : Option (Int32 × ME) :=
  if a2 = 0 then
    mX10_odds_j203 S o a0 a1 a2 me x7 x5 (1 : Int32)
  else
    mX10_odds_j203 S o a0 a1 a2 me x7 x5 (0 : Int32)
def mX10_odds_L84 (S : SH) (o : Nat) (a0 : Int32) (a1 : Int32) (a2 : Int32) (k84 : (ME × Int32 × Int64 × Int64 × Int32 → Option (Int32 × ME))) : ME × Int32 × Int64 × Int64 × Int32 → Option (Int32 × ME)
  | (me, x4, x5, x7, x9) =>
    if x9 ≤ 0 then
      mX10_odds_j190 S o a0 a1 a2 me x5 x7
    else
      lpn (mX10_odds_L95 S o a0 a1 a2 k84) lpF (me, x4, x5, x7, x9, (1 : Int64), (0 : Int32))
def mX10_odds_j80 (S : SH) (o : Nat) (a0 : Int32) (a1 : Int32) (a2 : Int32) (me : ME) (x4 : Int32) (x5 : Int64) (x7 : Int64) : Option (Int32 × ME) :=
  lpn (mX10_odds_L84 S o a0 a1 a2) lpF (me, x4, x5, x7, x4)
def mX10_odds_L56 (S : SH) (o : Nat) (a0 : Int32) (a1 : Int32) (a2 : Int32) (k56 : (ME × Int32 × Int64 × Int64 × Int32 → Option (Int32 × ME))) : ME × Int32 × Int64 × Int64 × Int32 → Option (Int32 × ME)
  | (me, x4, x5, x7, x9) =>
    (mX10_bits S me x4).bind fun q21 =>
    if q21.1 ≤ x9 then
      mX10_odds_j80 S o a0 a1 a2 q21.2 x4 x5 x7
    else
      k56 (q21.2, x4, x5 * (10 : Int64), x7, x9 + (1 : Int32))
def mX10_odds (S : SH) (me : ME) (o : Nat) (a0 : Int32) (a1 : Int32) (a2 : Int32) : Option (Int32 × ME) :=
  (ck S 10 o).bind fun _ => (mX10_layGroups S me o).bind fun q24 =>
  (gI S q24.2 10 20 o).bind fun v27 =>
  (mX10_in S q24.2 a0 (0 : Int32) (v27 - (1 : Int32))).bind fun q29 =>
  if q29.1 = 0 then
    mX10_odds_j37 S o a0 a1 a2 q29.2
  else
    (mX10_in S q29.2 a1 (0 : Int32) (10 : Int32)).bind fun q32 =>
    if q32.1 = 0 then
      mX10_odds_j37 S o a0 a1 a2 q32.2
    else
      (mX10_in S q32.2 a2 (0 : Int32) (1 : Int32)).bind fun q35 =>
      if q35.1 = 0 then
        mX10_odds_j37 S o a0 a1 a2 q35.2
      else
        (gR S 10 21 o).bind fun v38 =>
        (aI S q35.2 11 v38 a0).bind fun v40 =>
        lpn (mX10_odds_L56 S o a0 a1 a2) lpF (q35.2, v40, (1 : Int64), (0 : Int64), (0 : Int32))
set_option maxRecDepth 100000 in
set_option maxHeartbeats 4000000 in
theorem kX10_odds (l : Launch) (D : va_G) (b : Nat) {S : SH} {me : ME} {o : Nat} {a0 : Int32} {a1 : Int32} {a2 : Int32} {q : Int32 × ME} (hM : mX10_odds S me o a0 a1 a2 = some q) : Ct l D b yX10_odds cX10_odds 13 (some .int) 5 118 0 0 [.ref (b + o), .int a0, .int a1, .int a2] S me S q.2 (some (.int q.1)) := by
  refine ct_of (own := RX10) (nm := "odds") (lv := [(0, .ref (b + o)), (1, .int a0), (2, .int a1), (3, .int a2)]) (plainFor_of_name (by decide)) rfl rfl (Nat.le_of_ble_eq_true rfl) rfl ⟨rfl, rfl⟩ (fun X cx ex hL => ?_)
  have J37 : ∀ (me : ME), mX10_odds_j37 S o a0 a1 a2 me = some q → WS X b 13 S me 37 [] [] := by
    intro  me hM
    unfold mX10_odds_j37 at hM
    refine ws_iconst cx dX10_odds_37 (v := -1) (by decide) ?_
    exact ws_iretM cx ex hM dX10_odds_38
  have J142 : ∀ (k84 : (ME × Int32 × Int64 × Int64 × Int32 → Option (Int32 × ME))), (∀ (me : ME) (x4 : Int32) (x5 : Int64) (x7 : Int64) (x9 : Int32), k84 (me, x4, x5, x7, x9) = some q → WS X b 13 S me 84 [(0, .ref (b + o)), (2, .int a1), (3, .int a2), (4, .int x4), (5, .long x5), (7, .long x7), (9, .int x9)] []) → ∀ (k95 : (ME × Int32 × Int64 × Int64 × Int32 × Int64 × Int32 → Option (Int32 × ME))), (∀ (me : ME) (x4 : Int32) (x5 : Int64) (x7 : Int64) (x9 : Int32) (x10 : Int64) (x12 : Int32), k95 (me, x4, x5, x7, x9, x10, x12) = some q → WS X b 13 S me 95 [(0, .ref (b + o)), (2, .int a1), (3, .int a2), (4, .int x4), (5, .long x5), (7, .long x7), (9, .int x9), (10, .long x10), (12, .int x12)] []) → ∀ (me : ME) (x4 : Int32) (x5 : Int64) (x7 : Int64) (x9 : Int32) (x12 : Int32) (y0 : Int64) (y1 : Int64), mX10_odds_j142 S o a0 a1 a2 k84 k95 me x4 x5 x7 x9 x12 y0 y1 = some q → WS X b 13 S me 142 [(0, .ref (b + o)), (2, .int a1), (3, .int a2), (4, .int x4), (5, .long x5), (7, .long x7), (9, .int x9), (12, .int x12)] [.long y1, .long y0] := by
    intro k84 hk84 k95 hk95 me x4 x5 x7 x9 x12 y0 y1 hM
    unfold mX10_odds_j142 at hM
    refine ws_lmul cx dX10_odds_142 ?_
    refine ws_lstore cx dX10_odds_143 (by decide) (lv' := [(10, .long (y0 * y1)), (0, .ref (b + o)), (2, .int a1), (3, .int a2), (4, .int x4), (5, .long x5), (7, .long x7), (9, .int x9), (12, .int x12)]) rfl ?_
    refine ws_iinc cx dX10_odds_145 (j := 8) rfl (v := x12 + (1 : Int32)) rfl (by decide) (lv' := [(12, .int (x12 + (1 : Int32))), (10, .long (y0 * y1)), (0, .ref (b + o)), (2, .int a1), (3, .int a2), (4, .int x4), (5, .long x5), (7, .long x7), (9, .int x9)]) rfl ?_
    refine ws_goto cx dX10_odds_148 (tgt := 95) (by decide) ?_
    refine ws_sub [2, 3, 4, 5, 6, 7, 8, 1, 0] (lv' := [(0, .ref (b + o)), (2, .int a1), (3, .int a2), (4, .int x4), (5, .long x5), (7, .long x7), (9, .int x9), (10, .long (y0 * y1)), (12, .int (x12 + (1 : Int32)))]) rfl ?_
    exact hk95 _ _ _ _ _ _ _ hM
  have J175 : ∀ (k84 : (ME × Int32 × Int64 × Int64 × Int32 → Option (Int32 × ME))), (∀ (me : ME) (x4 : Int32) (x5 : Int64) (x7 : Int64) (x9 : Int32), k84 (me, x4, x5, x7, x9) = some q → WS X b 13 S me 84 [(0, .ref (b + o)), (2, .int a1), (3, .int a2), (4, .int x4), (5, .long x5), (7, .long x7), (9, .int x9)] []) → ∀ (me : ME) (x4 : Int32) (x5 : Int64) (x9 : Int32) (y0 : Int64) (y1 : Int64), mX10_odds_j175 S o a0 a1 a2 k84 me x4 x5 x9 y0 y1 = some q → WS X b 13 S me 175 [(0, .ref (b + o)), (2, .int a1), (3, .int a2), (4, .int x4), (5, .long x5), (9, .int x9)] [.long y1, .long y0] := by
    intro k84 hk84 me x4 x5 x9 y0 y1 hM
    unfold mX10_odds_j175 at hM
    refine ws_ladd cx dX10_odds_175 ?_
    refine ws_lstore cx dX10_odds_176 (by decide) (lv' := [(7, .long (y0 + y1)), (0, .ref (b + o)), (2, .int a1), (3, .int a2), (4, .int x4), (5, .long x5), (9, .int x9)]) rfl ?_
    refine ws_iload cx dX10_odds_178 (j := 6) rfl ?_
    refine ws_iconst cx dX10_odds_180 (v := 1) (by decide) ?_
    refine ws_isub cx dX10_odds_181 ?_
    refine ws_iload cx dX10_odds_182 (j := 4) rfl ?_
    refine ws_iand cx dX10_odds_184 ?_
    refine ws_istore cx dX10_odds_185 (by decide) (lv' := [(9, .int ((x9 - (1 : Int32)) &&& x4)), (7, .long (y0 + y1)), (0, .ref (b + o)), (2, .int a1), (3, .int a2), (4, .int x4), (5, .long x5)]) rfl ?_
    refine ws_goto cx dX10_odds_187 (tgt := 84) (by decide) ?_
    refine ws_sub [2, 3, 4, 5, 6, 1, 0] (lv' := [(0, .ref (b + o)), (2, .int a1), (3, .int a2), (4, .int x4), (5, .long x5), (7, .long (y0 + y1)), (9, .int ((x9 - (1 : Int32)) &&& x4))]) rfl ?_
    exact hk84 _ _ _ _ _ hM
  have J174 : ∀ (k84 : (ME × Int32 × Int64 × Int64 × Int32 → Option (Int32 × ME))), (∀ (me : ME) (x4 : Int32) (x5 : Int64) (x7 : Int64) (x9 : Int32), k84 (me, x4, x5, x7, x9) = some q → WS X b 13 S me 84 [(0, .ref (b + o)), (2, .int a1), (3, .int a2), (4, .int x4), (5, .long x5), (7, .long x7), (9, .int x9)] []) → ∀ (me : ME) (x4 : Int32) (x5 : Int64) (x9 : Int32) (y0 : Int64), mX10_odds_j174 S o a0 a1 a2 k84 me x4 x5 x9 y0 = some q → WS X b 13 S me 174 [(0, .ref (b + o)), (2, .int a1), (3, .int a2), (4, .int x4), (5, .long x5), (9, .int x9)] [.long y0] := by
    intro k84 hk84 me x4 x5 x9 y0 hM
    unfold mX10_odds_j174 at hM
    refine ws_lconst cx dX10_odds_174 (v := 0) (by decide) ?_
    refine ws_sub [0, 1, 2, 3, 4, 5] (lv' := [(0, .ref (b + o)), (2, .int a1), (3, .int a2), (4, .int x4), (5, .long x5), (9, .int x9)]) rfl ?_
    exact J175 _ hk84 _ _ _ _ _ _ hM
  have J151 : ∀ (k84 : (ME × Int32 × Int64 × Int64 × Int32 → Option (Int32 × ME))), (∀ (me : ME) (x4 : Int32) (x5 : Int64) (x7 : Int64) (x9 : Int32), k84 (me, x4, x5, x7, x9) = some q → WS X b 13 S me 84 [(0, .ref (b + o)), (2, .int a1), (3, .int a2), (4, .int x4), (5, .long x5), (7, .long x7), (9, .int x9)] []) → ∀ (me : ME) (x4 : Int32) (x5 : Int64) (x7 : Int64) (x9 : Int32) (x10 : Int64), mX10_odds_j151 S o a0 a1 a2 k84 me x4 x5 x7 x9 x10 = some q → WS X b 13 S me 151 [(0, .ref (b + o)), (2, .int a1), (3, .int a2), (4, .int x4), (5, .long x5), (7, .long x7), (9, .int x9), (10, .long x10)] [] := by
    intro k84 hk84 me x4 x5 x7 x9 x10 hM
    unfold mX10_odds_j151 at hM
    refine ws_lload cx dX10_odds_151 (j := 5) rfl ?_
    refine ws_lload cx dX10_odds_153 (j := 7) rfl ?_
    refine ws_lconst cx dX10_odds_155 (v := 0) (by decide) ?_
    refine ws_lcmp cx dX10_odds_156 ?_
    refine ws_if_le cx dX10_odds_157 (tgt := 174) (by decide) (fun c1 => ?_) (fun c1 => ?_)
    · have hM := if_t hM c1
      refine ws_sub [0, 1, 2, 3, 4, 6] (lv' := [(0, .ref (b + o)), (2, .int a1), (3, .int a2), (4, .int x4), (5, .long x5), (9, .int x9)]) rfl ?_
      exact J174 _ hk84 _ _ _ _ _ hM
    · have hM := if_f hM c1
      refine ws_aload_n cx dX10_odds_160 rfl (j := 0) rfl ?_
      refine ws_iload cx dX10_odds_161 (j := 6) rfl ?_
      obtain ⟨_, h4, hM⟩ := bnd hM
      obtain ⟨q2, h3, hM⟩ := bnd hM
      refine ws_callV cx (rest := [.long x7]) (st' := [.int q2.1, .long x7]) (kX10_verdictOf l D b h3) mvX10_verdictOf (ck_k h4) (by decide) (q := (RX10, TX10, 31)) rfl seX10_verdictOf lkX10_207 rfl ⟨by decide, by decide⟩ (Nat.le_of_ble_eq_true rfl) ⟨rfl, rfl⟩ (Or.inl ⟨rfl, rfl⟩) rfl rfl dX10_odds_163 ?_
      refine ws_if_ne cx dX10_odds_166 (tgt := 174) (by decide) (fun c5 => ?_) (fun c5 => ?_)
      · have hM := if_f hM c5
        refine ws_sub [0, 1, 2, 3, 4, 6] (lv' := [(0, .ref (b + o)), (2, .int a1), (3, .int a2), (4, .int x4), (5, .long x5), (9, .int x9)]) rfl ?_
        exact J174 _ hk84 _ _ _ _ _ hM
      · have hM := if_t hM c5
        refine ws_lload cx dX10_odds_169 (j := 7) rfl ?_
        refine ws_goto cx dX10_odds_171 (tgt := 175) (by decide) ?_
        refine ws_sub [0, 1, 2, 3, 4, 6] (lv' := [(0, .ref (b + o)), (2, .int a1), (3, .int a2), (4, .int x4), (5, .long x5), (9, .int x9)]) rfl ?_
        exact J175 _ hk84 _ _ _ _ _ _ hM
  have L95 : ∀ (k84 : (ME × Int32 × Int64 × Int64 × Int32 → Option (Int32 × ME))), (∀ (me : ME) (x4 : Int32) (x5 : Int64) (x7 : Int64) (x9 : Int32), k84 (me, x4, x5, x7, x9) = some q → WS X b 13 S me 84 [(0, .ref (b + o)), (2, .int a1), (3, .int a2), (4, .int x4), (5, .long x5), (7, .long x7), (9, .int x9)] []) → ∀ (n : Nat) (me : ME) (x4 : Int32) (x5 : Int64) (x7 : Int64) (x9 : Int32) (x10 : Int64) (x12 : Int32), lpn (mX10_odds_L95 S o a0 a1 a2 k84) n (me, x4, x5, x7, x9, x10, x12) = some q → WS X b 13 S me 95 [(0, .ref (b + o)), (2, .int a1), (3, .int a2), (4, .int x4), (5, .long x5), (7, .long x7), (9, .int x9), (10, .long x10), (12, .int x12)] [] := by
    intro k84 hk84 n
    induction n with
    | zero => intro me x4 x5 x7 x9 x10 x12 hM; exact absurd hM (by intro h; cases h)
    | succ n ih =>
      intro me x4 x5 x7 x9 x10 x12 hM
      have hM : mX10_odds_L95 S o a0 a1 a2 k84 (lpn (mX10_odds_L95 S o a0 a1 a2 k84) n) (me, x4, x5, x7, x9, x10, x12) = some q := hM
      unfold mX10_odds_L95 at hM
      refine ws_iload cx dX10_odds_95 (j := 8) rfl ?_
      refine ws_aload_n cx dX10_odds_97 rfl (j := 0) rfl ?_
      obtain ⟨v6, h7, hM⟩ := bnd hM
      refine ws_getR cx ffX10_16 h7 dX10_odds_98 ?_
      refine ws_iconst cx dX10_odds_101 (v := 0) (by decide) ?_
      obtain ⟨v8, h9, hM⟩ := bnd hM
      refine ws_iald cx h9 dX10_odds_102 ?_
      refine ws_icmp_ge cx dX10_odds_103 (tgt := 151) (by decide) (fun c10 => ?_) (fun c10 => ?_)
      · have hM := if_t hM c10
        refine ws_sub [0, 1, 2, 3, 4, 5, 6, 7] (lv' := [(0, .ref (b + o)), (2, .int a1), (3, .int a2), (4, .int x4), (5, .long x5), (7, .long x7), (9, .int x9), (10, .long x10)]) rfl ?_
        exact J151 _ hk84 _ _ _ _ _ _ hM
      · have hM := if_f hM c10
        refine ws_lload cx dX10_odds_106 (j := 7) rfl ?_
        refine ws_iload cx dX10_odds_108 (j := 3) rfl ?_
        refine ws_iload cx dX10_odds_110 (j := 8) rfl ?_
        obtain ⟨q11, h12, hM⟩ := bnd hM
        refine ws_callS cx (rest := [.long x10]) (st' := [.int q11.1, .long x10]) (kX10_has l D b h12) mvX10_has lkX10_125 rfl ⟨by decide, by decide⟩ (Nat.le_of_ble_eq_true rfl) ⟨rfl, rfl⟩ (Or.inl ⟨rfl, rfl⟩) rfl rfl dX10_odds_112 ?_
        refine ws_if_ne cx dX10_odds_115 (tgt := 122) (by decide) (fun c13 => ?_) (fun c13 => ?_)
        · have hM := if_f hM c13
          refine ws_iload cx dX10_odds_122 (j := 6) rfl ?_
          refine ws_iload cx dX10_odds_124 (j := 8) rfl ?_
          obtain ⟨q14, h15, hM⟩ := bnd hM
          refine ws_callS cx (rest := [.long x10]) (st' := [.int q14.1, .long x10]) (kX10_has l D b h15) mvX10_has lkX10_125 rfl ⟨by decide, by decide⟩ (Nat.le_of_ble_eq_true rfl) ⟨rfl, rfl⟩ (Or.inl ⟨rfl, rfl⟩) rfl rfl dX10_odds_126 ?_
          refine ws_if_eq cx dX10_odds_129 (tgt := 140) (by decide) (fun c16 => ?_) (fun c16 => ?_)
          · have hM := if_t hM c16
            refine ws_iload_n cx dX10_odds_140 rfl (j := 1) rfl ?_
            refine ws_i2l cx dX10_odds_141 ?_
            refine ws_sub [0, 1, 2, 3, 4, 5, 6, 8] (lv' := [(0, .ref (b + o)), (2, .int a1), (3, .int a2), (4, .int x4), (5, .long x5), (7, .long x7), (9, .int x9), (12, .int x12)]) rfl ?_
            exact J142 _ hk84 _ ih _ _ _ _ _ _ _ _ hM
          · have hM := if_f hM c16
            refine ws_bipush cx dX10_odds_132 (v := 10) (by decide) ?_
            refine ws_iload_n cx dX10_odds_134 rfl (j := 1) rfl ?_
            refine ws_isub cx dX10_odds_135 ?_
            refine ws_i2l cx dX10_odds_136 ?_
            refine ws_goto cx dX10_odds_137 (tgt := 142) (by decide) ?_
            refine ws_sub [0, 1, 2, 3, 4, 5, 6, 8] (lv' := [(0, .ref (b + o)), (2, .int a1), (3, .int a2), (4, .int x4), (5, .long x5), (7, .long x7), (9, .int x9), (12, .int x12)]) rfl ?_
            exact J142 _ hk84 _ ih _ _ _ _ _ _ _ _ hM
        · have hM := if_t hM c13
          refine ws_lconst cx dX10_odds_118 (v := 1) (by decide) ?_
          refine ws_goto cx dX10_odds_119 (tgt := 142) (by decide) ?_
          refine ws_sub [0, 1, 2, 3, 4, 5, 6, 8] (lv' := [(0, .ref (b + o)), (2, .int a1), (3, .int a2), (4, .int x4), (5, .long x5), (7, .long x7), (9, .int x9), (12, .int x12)]) rfl ?_
          exact J142 _ hk84 _ ih _ _ _ _ _ _ _ _ hM
  have J203 : ∀ (me : ME) (y0 : Int64) (y1 : Int64) (y2 : Int32), mX10_odds_j203 S o a0 a1 a2 me y0 y1 y2 = some q → WS X b 13 S me 203 [] [.int y2, .long y1, .long y0] := by
    intro  me y0 y1 y2 hM
    unfold mX10_odds_j203 at hM
    obtain ⟨q17, h18, hM⟩ := bnd hM
    refine ws_callS cx (rest := []) (st' := [.int q17.1]) (kX10_lowest l D b h18) mvX10_lowest lkX10_240 rfl ⟨by decide, by decide⟩ (Nat.le_of_ble_eq_true rfl) ⟨rfl, rfl⟩ (Or.inl ⟨rfl, rfl⟩) rfl rfl dX10_odds_203 ?_
    exact ws_iretM cx ex hM dX10_odds_206
  have J190 : ∀ (me : ME) (x5 : Int64) (x7 : Int64), mX10_odds_j190 S o a0 a1 a2 me x5 x7 = some q → WS X b 13 S me 190 [(3, .int a2), (5, .long x5), (7, .long x7)] [] := by
    intro  me x5 x7 hM
    unfold mX10_odds_j190 at hM
    refine ws_lload cx dX10_odds_190 (j := 2) rfl ?_
    refine ws_lload cx dX10_odds_192 (j := 1) rfl ?_
    refine ws_iload_n cx dX10_odds_194 rfl (j := 0) rfl ?_
    refine ws_if_ne cx dX10_odds_195 (tgt := 202) (by decide) (fun c19 => ?_) (fun c19 => ?_)
    · have hM := if_f hM c19
      refine ws_iconst cx dX10_odds_202 (v := 0) (by decide) ?_
      refine ws_sub [] (lv' := []) rfl ?_
      exact J203 _ _ _ _ hM
    · have hM := if_t hM c19
      refine ws_iconst cx dX10_odds_198 (v := 1) (by decide) ?_
      refine ws_goto cx dX10_odds_199 (tgt := 203) (by decide) ?_
      refine ws_sub [] (lv' := []) rfl ?_
      exact J203 _ _ _ _ hM
  have L84 : ∀ (n : Nat) (me : ME) (x4 : Int32) (x5 : Int64) (x7 : Int64) (x9 : Int32), lpn (mX10_odds_L84 S o a0 a1 a2) n (me, x4, x5, x7, x9) = some q → WS X b 13 S me 84 [(0, .ref (b + o)), (2, .int a1), (3, .int a2), (4, .int x4), (5, .long x5), (7, .long x7), (9, .int x9)] [] := by
    intro  n
    induction n with
    | zero => intro me x4 x5 x7 x9 hM; exact absurd hM (by intro h; cases h)
    | succ n ih =>
      intro me x4 x5 x7 x9 hM
      have hM : mX10_odds_L84 S o a0 a1 a2 (lpn (mX10_odds_L84 S o a0 a1 a2) n) (me, x4, x5, x7, x9) = some q := hM
      unfold mX10_odds_L84 at hM
      refine ws_iload cx dX10_odds_84 (j := 6) rfl ?_
      refine ws_if_le cx dX10_odds_86 (tgt := 190) (by decide) (fun c20 => ?_) (fun c20 => ?_)
      · have hM := if_t hM c20
        refine ws_sub [2, 4, 5] (lv' := [(3, .int a2), (5, .long x5), (7, .long x7)]) rfl ?_
        exact J190 _ _ _ hM
      · have hM := if_f hM c20
        refine ws_lconst cx dX10_odds_89 (v := 1) (by decide) ?_
        refine ws_lstore cx dX10_odds_90 (by decide) (lv' := [(10, .long (1 : Int64)), (0, .ref (b + o)), (2, .int a1), (3, .int a2), (4, .int x4), (5, .long x5), (7, .long x7), (9, .int x9)]) rfl ?_
        refine ws_iconst cx dX10_odds_92 (v := 0) (by decide) ?_
        refine ws_istore cx dX10_odds_93 (by decide) (lv' := [(12, .int (0 : Int32)), (10, .long (1 : Int64)), (0, .ref (b + o)), (2, .int a1), (3, .int a2), (4, .int x4), (5, .long x5), (7, .long x7), (9, .int x9)]) rfl ?_
        refine ws_sub [2, 3, 4, 5, 6, 7, 8, 1, 0] (lv' := [(0, .ref (b + o)), (2, .int a1), (3, .int a2), (4, .int x4), (5, .long x5), (7, .long x7), (9, .int x9), (10, .long (1 : Int64)), (12, .int (0 : Int32))]) rfl ?_
        exact L95 _ ih _ _ _ _ _ _ _ _ hM
  have J80 : ∀ (me : ME) (x4 : Int32) (x5 : Int64) (x7 : Int64), mX10_odds_j80 S o a0 a1 a2 me x4 x5 x7 = some q → WS X b 13 S me 80 [(0, .ref (b + o)), (2, .int a1), (3, .int a2), (4, .int x4), (5, .long x5), (7, .long x7)] [] := by
    intro  me x4 x5 x7 hM
    unfold mX10_odds_j80 at hM
    refine ws_iload cx dX10_odds_80 (j := 3) rfl ?_
    refine ws_istore cx dX10_odds_82 (by decide) (lv' := [(9, .int x4), (0, .ref (b + o)), (2, .int a1), (3, .int a2), (4, .int x4), (5, .long x5), (7, .long x7)]) rfl ?_
    refine ws_sub [1, 2, 3, 4, 5, 6, 0] (lv' := [(0, .ref (b + o)), (2, .int a1), (3, .int a2), (4, .int x4), (5, .long x5), (7, .long x7), (9, .int x4)]) rfl ?_
    exact L84 _ _ _ _ _ _ hM
  have L56 : ∀ (n : Nat) (me : ME) (x4 : Int32) (x5 : Int64) (x7 : Int64) (x9 : Int32), lpn (mX10_odds_L56 S o a0 a1 a2) n (me, x4, x5, x7, x9) = some q → WS X b 13 S me 56 [(0, .ref (b + o)), (2, .int a1), (3, .int a2), (4, .int x4), (5, .long x5), (7, .long x7), (9, .int x9)] [] := by
    intro  n
    induction n with
    | zero => intro me x4 x5 x7 x9 hM; exact absurd hM (by intro h; cases h)
    | succ n ih =>
      intro me x4 x5 x7 x9 hM
      have hM : mX10_odds_L56 S o a0 a1 a2 (lpn (mX10_odds_L56 S o a0 a1 a2) n) (me, x4, x5, x7, x9) = some q := hM
      unfold mX10_odds_L56 at hM
      refine ws_iload cx dX10_odds_56 (j := 6) rfl ?_
      refine ws_iload cx dX10_odds_58 (j := 3) rfl ?_
      obtain ⟨q21, h22, hM⟩ := bnd hM
      refine ws_callS cx (rest := [.int x9]) (st' := [.int q21.1, .int x9]) (kX10_bits l D b h22) mvX10_bits lkX10_210 rfl ⟨by decide, by decide⟩ (Nat.le_of_ble_eq_true rfl) ⟨rfl, rfl⟩ (Or.inl ⟨rfl, rfl⟩) rfl rfl dX10_odds_60 ?_
      refine ws_icmp_ge cx dX10_odds_63 (tgt := 80) (by decide) (fun c23 => ?_) (fun c23 => ?_)
      · have hM := if_t hM c23
        refine ws_sub [0, 1, 2, 3, 4, 5] (lv' := [(0, .ref (b + o)), (2, .int a1), (3, .int a2), (4, .int x4), (5, .long x5), (7, .long x7)]) rfl ?_
        exact J80 _ _ _ _ hM
      · have hM := if_f hM c23
        refine ws_lload cx dX10_odds_66 (j := 4) rfl ?_
        refine ws_ldc2 cx cwX10_244 dX10_odds_68 ?_
        refine ws_lmul cx dX10_odds_71 ?_
        refine ws_lstore cx dX10_odds_72 (by decide) (lv' := [(5, .long (x5 * (10 : Int64))), (0, .ref (b + o)), (2, .int a1), (3, .int a2), (4, .int x4), (7, .long x7), (9, .int x9)]) rfl ?_
        refine ws_iinc cx dX10_odds_74 (j := 6) rfl (v := x9 + (1 : Int32)) rfl (by decide) (lv' := [(9, .int (x9 + (1 : Int32))), (5, .long (x5 * (10 : Int64))), (0, .ref (b + o)), (2, .int a1), (3, .int a2), (4, .int x4), (7, .long x7)]) rfl ?_
        refine ws_goto cx dX10_odds_77 (tgt := 56) (by decide) ?_
        refine ws_sub [2, 3, 4, 5, 1, 6, 0] (lv' := [(0, .ref (b + o)), (2, .int a1), (3, .int a2), (4, .int x4), (5, .long (x5 * (10 : Int64))), (7, .long x7), (9, .int (x9 + (1 : Int32)))]) rfl ?_
        exact ih _ _ _ _ _ hM
  unfold mX10_odds at hM
  refine ws_aload_n cx dX10_odds_0 rfl (j := 0) rfl ?_
  obtain ⟨_, h26, hM⟩ := bnd hM
  obtain ⟨q24, h25, hM⟩ := bnd hM
  refine ws_callV cx (rest := []) (st' := []) (kX10_layGroups l D b h25) mvX10_layGroups (ck_k h26) (by decide) (q := (RX10, TX10, 31)) rfl seX10_layGroups lkX10_135 rfl ⟨by decide, by decide⟩ (Nat.le_of_ble_eq_true rfl) ⟨rfl, rfl⟩ (Or.inl ⟨rfl, rfl⟩) rfl rfl dX10_odds_1 ?_
  refine ws_iload_n cx dX10_odds_4 rfl (j := 1) rfl ?_
  refine ws_iconst cx dX10_odds_5 (v := 0) (by decide) ?_
  refine ws_aload_n cx dX10_odds_6 rfl (j := 0) rfl ?_
  obtain ⟨v27, h28, hM⟩ := bnd hM
  refine ws_getI cx ffX10_122 h28 dX10_odds_7 ?_
  refine ws_iconst cx dX10_odds_10 (v := 1) (by decide) ?_
  refine ws_isub cx dX10_odds_11 ?_
  obtain ⟨q29, h30, hM⟩ := bnd hM
  refine ws_callS cx (rest := []) (st' := [.int q29.1]) (kX10_in l D b h30) mvX10_in lkX10_48 rfl ⟨by decide, by decide⟩ (Nat.le_of_ble_eq_true rfl) ⟨rfl, rfl⟩ (Or.inl ⟨rfl, rfl⟩) rfl rfl dX10_odds_12 ?_
  refine ws_if_eq cx dX10_odds_15 (tgt := 37) (by decide) (fun c31 => ?_) (fun c31 => ?_)
  · have hM := if_t hM c31
    refine ws_sub [] (lv' := []) rfl ?_
    exact J37 _ hM
  · have hM := if_f hM c31
    refine ws_iload_n cx dX10_odds_18 rfl (j := 2) rfl ?_
    refine ws_iconst cx dX10_odds_19 (v := 0) (by decide) ?_
    refine ws_bipush cx dX10_odds_20 (v := 10) (by decide) ?_
    obtain ⟨q32, h33, hM⟩ := bnd hM
    refine ws_callS cx (rest := []) (st' := [.int q32.1]) (kX10_in l D b h33) mvX10_in lkX10_48 rfl ⟨by decide, by decide⟩ (Nat.le_of_ble_eq_true rfl) ⟨rfl, rfl⟩ (Or.inl ⟨rfl, rfl⟩) rfl rfl dX10_odds_22 ?_
    refine ws_if_eq cx dX10_odds_25 (tgt := 37) (by decide) (fun c34 => ?_) (fun c34 => ?_)
    · have hM := if_t hM c34
      refine ws_sub [] (lv' := []) rfl ?_
      exact J37 _ hM
    · have hM := if_f hM c34
      refine ws_iload_n cx dX10_odds_28 rfl (j := 3) rfl ?_
      refine ws_iconst cx dX10_odds_29 (v := 0) (by decide) ?_
      refine ws_iconst cx dX10_odds_30 (v := 1) (by decide) ?_
      obtain ⟨q35, h36, hM⟩ := bnd hM
      refine ws_callS cx (rest := []) (st' := [.int q35.1]) (kX10_in l D b h36) mvX10_in lkX10_48 rfl ⟨by decide, by decide⟩ (Nat.le_of_ble_eq_true rfl) ⟨rfl, rfl⟩ (Or.inl ⟨rfl, rfl⟩) rfl rfl dX10_odds_31 ?_
      refine ws_if_ne cx dX10_odds_34 (tgt := 39) (by decide) (fun c37 => ?_) (fun c37 => ?_)
      · have hM := if_f hM c37
        refine ws_aload_n cx dX10_odds_39 rfl (j := 0) rfl ?_
        obtain ⟨v38, h39, hM⟩ := bnd hM
        refine ws_getR cx ffX10_41 h39 dX10_odds_40 ?_
        refine ws_iload_n cx dX10_odds_43 rfl (j := 1) rfl ?_
        obtain ⟨v40, h41, hM⟩ := bnd hM
        refine ws_iald cx h41 dX10_odds_44 ?_
        refine ws_istore cx dX10_odds_45 (by decide) (lv' := [(4, .int v40), (0, .ref (b + o)), (1, .int a0), (2, .int a1), (3, .int a2)]) rfl ?_
        refine ws_lconst cx dX10_odds_47 (v := 1) (by decide) ?_
        refine ws_lstore cx dX10_odds_48 (by decide) (lv' := [(5, .long (1 : Int64)), (4, .int v40), (0, .ref (b + o)), (1, .int a0), (2, .int a1), (3, .int a2)]) rfl ?_
        refine ws_lconst cx dX10_odds_50 (v := 0) (by decide) ?_
        refine ws_lstore cx dX10_odds_51 (by decide) (lv' := [(7, .long (0 : Int64)), (5, .long (1 : Int64)), (4, .int v40), (0, .ref (b + o)), (1, .int a0), (2, .int a1), (3, .int a2)]) rfl ?_
        refine ws_iconst cx dX10_odds_53 (v := 0) (by decide) ?_
        refine ws_istore cx dX10_odds_54 (by decide) (lv' := [(9, .int (0 : Int32)), (7, .long (0 : Int64)), (5, .long (1 : Int64)), (4, .int v40), (0, .ref (b + o)), (1, .int a0), (2, .int a1), (3, .int a2)]) rfl ?_
        refine ws_sub [4, 6, 7, 3, 2, 1, 0] (lv' := [(0, .ref (b + o)), (2, .int a1), (3, .int a2), (4, .int v40), (5, .long (1 : Int64)), (7, .long (0 : Int64)), (9, .int (0 : Int32))]) rfl ?_
        exact L56 _ _ _ _ _ _ hM
      · have hM := if_t hM c37
        refine ws_sub [] (lv' := []) rfl ?_
        exact J37 _ hM

def mX10_keep_j49 (S : SH) (o : Nat) (a0 : Int32) (me : ME) : Option (Int32 × ME) :=
  (gR S 10 3 o).bind fun v1 =>
  (aI S me 11 v1 (0 : Int32)).bind fun v3 =>
  some (v3, me)
def mX10_keep_L20 (S : SH) (o : Nat) (a0 : Int32) (k20 : (ME × Int32 → Option (Int32 × ME))) : ME × Int32 → Option (Int32 × ME)
  | (me, x2) =>
    if (25 : Int32) ≤ x2 then
      mX10_keep_j49 S o a0 me
    else
      (gR S 10 8 o).bind fun v6 =>
      (gR S 10 3 o).bind fun v8 =>
      (aI S me 11 v8 x2).bind fun v10 =>
      (uI S me v6 (((25 : Int32) * a0) + x2) v10).bind fun m13 =>
      k20 (m13, x2 + (1 : Int32))
def mX10_keep (S : SH) (me : ME) (o : Nat) (a0 : Int32) : Option (Int32 × ME) :=
  (mX10_in S me a0 (0 : Int32) (1 : Int32)).bind fun q14 =>
  if q14.1 = 0 then
    some ((-1 : Int32), q14.2)
  else
    (gR S 10 7 o).bind fun v17 =>
    (uZ S q14.2 v17 a0 (1 : Int32)).bind fun m20 =>
    lpn (mX10_keep_L20 S o a0) lpF (m20, (0 : Int32))
set_option maxRecDepth 100000 in
set_option maxHeartbeats 4000000 in
theorem kX10_keep (l : Launch) (D : va_G) (b : Nat) {S : SH} {me : ME} {o : Nat} {a0 : Int32} {q : Int32 × ME} (hM : mX10_keep S me o a0 = some q) : Ct l D b yX10_keep cX10_keep 3 (some .int) 1 22 0 0 [.ref (b + o), .int a0] S me S q.2 (some (.int q.1)) := by
  refine ct_of (own := RX10) (nm := "keep") (lv := [(0, .ref (b + o)), (1, .int a0)]) (plainFor_of_name (by decide)) rfl rfl (Nat.le_of_ble_eq_true rfl) rfl ⟨rfl, rfl⟩ (fun X cx ex hL => ?_)
  have J49 : ∀ (me : ME), mX10_keep_j49 S o a0 me = some q → WS X b 3 S me 49 [(0, .ref (b + o))] [] := by
    intro  me hM
    unfold mX10_keep_j49 at hM
    refine ws_aload_n cx dX10_keep_49 rfl (j := 0) rfl ?_
    obtain ⟨v1, h2, hM⟩ := bnd hM
    refine ws_getR cx ffX10_16 h2 dX10_keep_50 ?_
    refine ws_iconst cx dX10_keep_53 (v := 0) (by decide) ?_
    obtain ⟨v3, h4, hM⟩ := bnd hM
    refine ws_iald cx h4 dX10_keep_54 ?_
    exact ws_iretM cx ex hM dX10_keep_55
  have L20 : ∀ (n : Nat) (me : ME) (x2 : Int32), lpn (mX10_keep_L20 S o a0) n (me, x2) = some q → WS X b 3 S me 20 [(0, .ref (b + o)), (1, .int a0), (2, .int x2)] [] := by
    intro  n
    induction n with
    | zero => intro me x2 hM; exact absurd hM (by intro h; cases h)
    | succ n ih =>
      intro me x2 hM
      have hM : mX10_keep_L20 S o a0 (lpn (mX10_keep_L20 S o a0) n) (me, x2) = some q := hM
      unfold mX10_keep_L20 at hM
      refine ws_iload_n cx dX10_keep_20 rfl (j := 2) rfl ?_
      refine ws_bipush cx dX10_keep_21 (v := 25) (by decide) ?_
      refine ws_icmp_ge cx dX10_keep_23 (tgt := 49) (by decide) (fun c5 => ?_) (fun c5 => ?_)
      · have hM := if_t hM c5
        refine ws_sub [0] (lv' := [(0, .ref (b + o))]) rfl ?_
        exact J49 _ hM
      · have hM := if_f hM c5
        refine ws_aload_n cx dX10_keep_26 rfl (j := 0) rfl ?_
        obtain ⟨v6, h7, hM⟩ := bnd hM
        refine ws_getR cx ffX10_26 h7 dX10_keep_27 ?_
        refine ws_bipush cx dX10_keep_30 (v := 25) (by decide) ?_
        refine ws_iload_n cx dX10_keep_32 rfl (j := 1) rfl ?_
        refine ws_imul cx dX10_keep_33 ?_
        refine ws_iload_n cx dX10_keep_34 rfl (j := 2) rfl ?_
        refine ws_iadd cx dX10_keep_35 ?_
        refine ws_aload_n cx dX10_keep_36 rfl (j := 0) rfl ?_
        obtain ⟨v8, h9, hM⟩ := bnd hM
        refine ws_getR cx ffX10_16 h9 dX10_keep_37 ?_
        refine ws_iload_n cx dX10_keep_40 rfl (j := 2) rfl ?_
        obtain ⟨v10, h11, hM⟩ := bnd hM
        refine ws_iald cx h11 dX10_keep_41 ?_
        obtain ⟨m13, h12, hM⟩ := bnd hM
        refine ws_iast cx h12 dX10_keep_42 ?_
        refine ws_iinc cx dX10_keep_43 (j := 2) rfl (v := x2 + (1 : Int32)) rfl (by decide) (lv' := [(2, .int (x2 + (1 : Int32))), (0, .ref (b + o)), (1, .int a0)]) rfl ?_
        refine ws_goto cx dX10_keep_46 (tgt := 20) (by decide) ?_
        refine ws_sub [1, 2, 0] (lv' := [(0, .ref (b + o)), (1, .int a0), (2, .int (x2 + (1 : Int32)))]) rfl ?_
        exact ih _ _ hM
  unfold mX10_keep at hM
  refine ws_iload_n cx dX10_keep_0 rfl (j := 1) rfl ?_
  refine ws_iconst cx dX10_keep_1 (v := 0) (by decide) ?_
  refine ws_iconst cx dX10_keep_2 (v := 1) (by decide) ?_
  obtain ⟨q14, h15, hM⟩ := bnd hM
  refine ws_callS cx (rest := []) (st' := [.int q14.1]) (kX10_in l D b h15) mvX10_in lkX10_48 rfl ⟨by decide, by decide⟩ (Nat.le_of_ble_eq_true rfl) ⟨rfl, rfl⟩ (Or.inl ⟨rfl, rfl⟩) rfl rfl dX10_keep_3 ?_
  refine ws_if_ne cx dX10_keep_6 (tgt := 11) (by decide) (fun c16 => ?_) (fun c16 => ?_)
  · have hM := if_f hM c16
    refine ws_aload_n cx dX10_keep_11 rfl (j := 0) rfl ?_
    obtain ⟨v17, h18, hM⟩ := bnd hM
    refine ws_getR cx ffX10_22 h18 dX10_keep_12 ?_
    refine ws_iload_n cx dX10_keep_15 rfl (j := 1) rfl ?_
    refine ws_iconst cx dX10_keep_16 (v := 1) (by decide) ?_
    obtain ⟨m20, h19, hM⟩ := bnd hM
    refine ws_zast cx h19 dX10_keep_17 ?_
    refine ws_iconst cx dX10_keep_18 (v := 0) (by decide) ?_
    refine ws_istore_n cx dX10_keep_19 rfl (by decide) (lv' := [(2, .int (0 : Int32)), (0, .ref (b + o)), (1, .int a0)]) rfl ?_
    refine ws_sub [1, 2, 0] (lv' := [(0, .ref (b + o)), (1, .int a0), (2, .int (0 : Int32))]) rfl ?_
    exact L20 _ _ _ hM
  · have hM := if_t hM c16
    refine ws_iconst cx dX10_keep_9 (v := -1) (by decide) ?_
    exact ws_iretM cx ex hM dX10_keep_10

def mX10_back_j54 (S : SH) (o : Nat) (a0 : Int32) (me : ME) : Option (Int32 × ME) :=
  (sI S me 10 4 o (0 : Int32)).bind fun m2 =>
  (gR S 10 3 o).bind fun v3 =>
  (aI S m2 11 v3 (0 : Int32)).bind fun v5 =>
  some (v5, m2)
def mX10_back_L25 (S : SH) (o : Nat) (a0 : Int32) (k25 : (ME × Int32 → Option (Int32 × ME))) : ME × Int32 → Option (Int32 × ME)
  | (me, x2) =>
    if (25 : Int32) ≤ x2 then
      mX10_back_j54 S o a0 me
    else
      (gR S 10 3 o).bind fun v8 =>
      (gR S 10 8 o).bind fun v10 =>
      (aI S me 11 v10 (((25 : Int32) * a0) + x2)).bind fun v12 =>
      (uI S me v8 x2 v12).bind fun m15 =>
      k25 (m15, x2 + (1 : Int32))
def mX10_back (S : SH) (me : ME) (o : Nat) (a0 : Int32) : Option (Int32 × ME) :=
  (mX10_in S me a0 (0 : Int32) (1 : Int32)).bind fun q16 =>
  if q16.1 = 0 then
    some ((-1 : Int32), q16.2)
  else
    (gR S 10 7 o).bind fun v19 =>
    (aI S q16.2 13 v19 a0).bind fun v21 =>
    if v21 = 0 then
      some ((-2 : Int32), q16.2)
    else
      lpn (mX10_back_L25 S o a0) lpF (q16.2, (0 : Int32))
set_option maxRecDepth 100000 in
set_option maxHeartbeats 4000000 in
theorem kX10_back (l : Launch) (D : va_G) (b : Nat) {S : SH} {me : ME} {o : Nat} {a0 : Int32} {q : Int32 × ME} (hM : mX10_back S me o a0 = some q) : Ct l D b yX10_back cX10_back 3 (some .int) 1 22 0 0 [.ref (b + o), .int a0] S me S q.2 (some (.int q.1)) := by
  refine ct_of (own := RX10) (nm := "back") (lv := [(0, .ref (b + o)), (1, .int a0)]) (plainFor_of_name (by decide)) rfl rfl (Nat.le_of_ble_eq_true rfl) rfl ⟨rfl, rfl⟩ (fun X cx ex hL => ?_)
  have J54 : ∀ (me : ME), mX10_back_j54 S o a0 me = some q → WS X b 3 S me 54 [(0, .ref (b + o))] [] := by
    intro  me hM
    unfold mX10_back_j54 at hM
    refine ws_aload_n cx dX10_back_54 rfl (j := 0) rfl ?_
    refine ws_iconst cx dX10_back_55 (v := 0) (by decide) ?_
    obtain ⟨m2, h1, hM⟩ := bnd hM
    refine ws_putI cx ffX10_107 h1 dX10_back_56 ?_
    refine ws_aload_n cx dX10_back_59 rfl (j := 0) rfl ?_
    obtain ⟨v3, h4, hM⟩ := bnd hM
    refine ws_getR cx ffX10_16 h4 dX10_back_60 ?_
    refine ws_iconst cx dX10_back_63 (v := 0) (by decide) ?_
    obtain ⟨v5, h6, hM⟩ := bnd hM
    refine ws_iald cx h6 dX10_back_64 ?_
    exact ws_iretM cx ex hM dX10_back_65
  have L25 : ∀ (n : Nat) (me : ME) (x2 : Int32), lpn (mX10_back_L25 S o a0) n (me, x2) = some q → WS X b 3 S me 25 [(0, .ref (b + o)), (1, .int a0), (2, .int x2)] [] := by
    intro  n
    induction n with
    | zero => intro me x2 hM; exact absurd hM (by intro h; cases h)
    | succ n ih =>
      intro me x2 hM
      have hM : mX10_back_L25 S o a0 (lpn (mX10_back_L25 S o a0) n) (me, x2) = some q := hM
      unfold mX10_back_L25 at hM
      refine ws_iload_n cx dX10_back_25 rfl (j := 2) rfl ?_
      refine ws_bipush cx dX10_back_26 (v := 25) (by decide) ?_
      refine ws_icmp_ge cx dX10_back_28 (tgt := 54) (by decide) (fun c7 => ?_) (fun c7 => ?_)
      · have hM := if_t hM c7
        refine ws_sub [0] (lv' := [(0, .ref (b + o))]) rfl ?_
        exact J54 _ hM
      · have hM := if_f hM c7
        refine ws_aload_n cx dX10_back_31 rfl (j := 0) rfl ?_
        obtain ⟨v8, h9, hM⟩ := bnd hM
        refine ws_getR cx ffX10_16 h9 dX10_back_32 ?_
        refine ws_iload_n cx dX10_back_35 rfl (j := 2) rfl ?_
        refine ws_aload_n cx dX10_back_36 rfl (j := 0) rfl ?_
        obtain ⟨v10, h11, hM⟩ := bnd hM
        refine ws_getR cx ffX10_26 h11 dX10_back_37 ?_
        refine ws_bipush cx dX10_back_40 (v := 25) (by decide) ?_
        refine ws_iload_n cx dX10_back_42 rfl (j := 1) rfl ?_
        refine ws_imul cx dX10_back_43 ?_
        refine ws_iload_n cx dX10_back_44 rfl (j := 2) rfl ?_
        refine ws_iadd cx dX10_back_45 ?_
        obtain ⟨v12, h13, hM⟩ := bnd hM
        refine ws_iald cx h13 dX10_back_46 ?_
        obtain ⟨m15, h14, hM⟩ := bnd hM
        refine ws_iast cx h14 dX10_back_47 ?_
        refine ws_iinc cx dX10_back_48 (j := 2) rfl (v := x2 + (1 : Int32)) rfl (by decide) (lv' := [(2, .int (x2 + (1 : Int32))), (0, .ref (b + o)), (1, .int a0)]) rfl ?_
        refine ws_goto cx dX10_back_51 (tgt := 25) (by decide) ?_
        refine ws_sub [1, 2, 0] (lv' := [(0, .ref (b + o)), (1, .int a0), (2, .int (x2 + (1 : Int32)))]) rfl ?_
        exact ih _ _ hM
  unfold mX10_back at hM
  refine ws_iload_n cx dX10_back_0 rfl (j := 1) rfl ?_
  refine ws_iconst cx dX10_back_1 (v := 0) (by decide) ?_
  refine ws_iconst cx dX10_back_2 (v := 1) (by decide) ?_
  obtain ⟨q16, h17, hM⟩ := bnd hM
  refine ws_callS cx (rest := []) (st' := [.int q16.1]) (kX10_in l D b h17) mvX10_in lkX10_48 rfl ⟨by decide, by decide⟩ (Nat.le_of_ble_eq_true rfl) ⟨rfl, rfl⟩ (Or.inl ⟨rfl, rfl⟩) rfl rfl dX10_back_3 ?_
  refine ws_if_ne cx dX10_back_6 (tgt := 11) (by decide) (fun c18 => ?_) (fun c18 => ?_)
  · have hM := if_f hM c18
    refine ws_aload_n cx dX10_back_11 rfl (j := 0) rfl ?_
    obtain ⟨v19, h20, hM⟩ := bnd hM
    refine ws_getR cx ffX10_22 h20 dX10_back_12 ?_
    refine ws_iload_n cx dX10_back_15 rfl (j := 1) rfl ?_
    obtain ⟨v21, h22, hM⟩ := bnd hM
    refine ws_zald cx h22 dX10_back_16 ?_
    refine ws_if_ne cx dX10_back_17 (tgt := 23) (by decide) (fun c23 => ?_) (fun c23 => ?_)
    · have hM := if_f hM c23
      refine ws_iconst cx dX10_back_23 (v := 0) (by decide) ?_
      refine ws_istore_n cx dX10_back_24 rfl (by decide) (lv' := [(2, .int (0 : Int32)), (0, .ref (b + o)), (1, .int a0)]) rfl ?_
      refine ws_sub [1, 2, 0] (lv' := [(0, .ref (b + o)), (1, .int a0), (2, .int (0 : Int32))]) rfl ?_
      exact L25 _ _ _ hM
    · have hM := if_t hM c23
      refine ws_bipush cx dX10_back_20 (v := -2) (by decide) ?_
      exact ws_iretM cx ex hM dX10_back_22
  · have hM := if_t hM c18
    refine ws_iconst cx dX10_back_9 (v := -1) (by decide) ?_
    exact ws_iretM cx ex hM dX10_back_10

def mX10_sureMany_j31 (S : SH) (o : Nat) (k4 : (ME × Int32 × Int32 → Option (Int32 × ME))) (me : ME) (x2 : Int32) (y0 : Int32) (y1 : Int32) : Option (Int32 × ME) :=
  k4 (me, y0 + y1, x2 + (1 : Int32))
def mX10_sureMany_j39 (S : SH) (o : Nat) (me : ME) (x1 : Int32) : Option (Int32 × ME) :=
  some (x1, me)
def mX10_sureMany_L4 (S : SH) (o : Nat) (k4 : (ME × Int32 × Int32 → Option (Int32 × ME))) : ME × Int32 × Int32 → Option (Int32 × ME)
  | (me, x1, x2) =>
    (gI S me 10 20 o).bind fun v1 =>
    if v1 ≤ x2 then
      mX10_sureMany_j39 S o me x1
    else
      (gR S 10 21 o).bind fun v4 =>
      (aI S me 11 v4 x2).bind fun v6 =>
      (ck S 10 o).bind fun _ => (mX10_verdictOf S me o v6).bind fun q8 =>
      if q8.1 = 0 then
        mX10_sureMany_j31 S o k4 q8.2 x2 x1 (1 : Int32)
      else
        mX10_sureMany_j31 S o k4 q8.2 x2 x1 (0 : Int32)
def mX10_sureMany (S : SH) (me : ME) (o : Nat) : Option (Int32 × ME) :=
  lpn (mX10_sureMany_L4 S o) lpF (me, (0 : Int32), (0 : Int32))
set_option maxRecDepth 100000 in
set_option maxHeartbeats 4000000 in
theorem kX10_sureMany (l : Launch) (D : va_G) (b : Nat) {S : SH} {me : ME} {o : Nat} {q : Int32 × ME} (hM : mX10_sureMany S me o = some q) : Ct l D b yX10_sureMany cX10_sureMany 3 (some .int) 5 118 0 0 [.ref (b + o)] S me S q.2 (some (.int q.1)) := by
  refine ct_of (own := RX10) (nm := "sureMany") (lv := [(0, .ref (b + o))]) (plainFor_of_name (by decide)) rfl rfl (Nat.le_of_ble_eq_true rfl) rfl ⟨rfl, rfl⟩ (fun X cx ex hL => ?_)
  have J31 : ∀ (k4 : (ME × Int32 × Int32 → Option (Int32 × ME))), (∀ (me : ME) (x1 : Int32) (x2 : Int32), k4 (me, x1, x2) = some q → WS X b 3 S me 4 [(0, .ref (b + o)), (1, .int x1), (2, .int x2)] []) → ∀ (me : ME) (x2 : Int32) (y0 : Int32) (y1 : Int32), mX10_sureMany_j31 S o k4 me x2 y0 y1 = some q → WS X b 3 S me 31 [(0, .ref (b + o)), (2, .int x2)] [.int y1, .int y0] := by
    intro k4 hk4 me x2 y0 y1 hM
    unfold mX10_sureMany_j31 at hM
    refine ws_iadd cx dX10_sureMany_31 ?_
    refine ws_istore_n cx dX10_sureMany_32 rfl (by decide) (lv' := [(1, .int (y0 + y1)), (0, .ref (b + o)), (2, .int x2)]) rfl ?_
    refine ws_iinc cx dX10_sureMany_33 (j := 2) rfl (v := x2 + (1 : Int32)) rfl (by decide) (lv' := [(2, .int (x2 + (1 : Int32))), (1, .int (y0 + y1)), (0, .ref (b + o))]) rfl ?_
    refine ws_goto cx dX10_sureMany_36 (tgt := 4) (by decide) ?_
    refine ws_sub [2, 1, 0] (lv' := [(0, .ref (b + o)), (1, .int (y0 + y1)), (2, .int (x2 + (1 : Int32)))]) rfl ?_
    exact hk4 _ _ _ hM
  have J39 : ∀ (me : ME) (x1 : Int32), mX10_sureMany_j39 S o me x1 = some q → WS X b 3 S me 39 [(1, .int x1)] [] := by
    intro  me x1 hM
    unfold mX10_sureMany_j39 at hM
    refine ws_iload_n cx dX10_sureMany_39 rfl (j := 0) rfl ?_
    exact ws_iretM cx ex hM dX10_sureMany_40
  have L4 : ∀ (n : Nat) (me : ME) (x1 : Int32) (x2 : Int32), lpn (mX10_sureMany_L4 S o) n (me, x1, x2) = some q → WS X b 3 S me 4 [(0, .ref (b + o)), (1, .int x1), (2, .int x2)] [] := by
    intro  n
    induction n with
    | zero => intro me x1 x2 hM; exact absurd hM (by intro h; cases h)
    | succ n ih =>
      intro me x1 x2 hM
      have hM : mX10_sureMany_L4 S o (lpn (mX10_sureMany_L4 S o) n) (me, x1, x2) = some q := hM
      unfold mX10_sureMany_L4 at hM
      refine ws_iload_n cx dX10_sureMany_4 rfl (j := 2) rfl ?_
      refine ws_aload_n cx dX10_sureMany_5 rfl (j := 0) rfl ?_
      obtain ⟨v1, h2, hM⟩ := bnd hM
      refine ws_getI cx ffX10_122 h2 dX10_sureMany_6 ?_
      refine ws_icmp_ge cx dX10_sureMany_9 (tgt := 39) (by decide) (fun c3 => ?_) (fun c3 => ?_)
      · have hM := if_t hM c3
        refine ws_sub [1] (lv' := [(1, .int x1)]) rfl ?_
        exact J39 _ _ hM
      · have hM := if_f hM c3
        refine ws_iload_n cx dX10_sureMany_12 rfl (j := 1) rfl ?_
        refine ws_aload_n cx dX10_sureMany_13 rfl (j := 0) rfl ?_
        refine ws_aload_n cx dX10_sureMany_14 rfl (j := 0) rfl ?_
        obtain ⟨v4, h5, hM⟩ := bnd hM
        refine ws_getR cx ffX10_41 h5 dX10_sureMany_15 ?_
        refine ws_iload_n cx dX10_sureMany_18 rfl (j := 2) rfl ?_
        obtain ⟨v6, h7, hM⟩ := bnd hM
        refine ws_iald cx h7 dX10_sureMany_19 ?_
        obtain ⟨_, h10, hM⟩ := bnd hM
        obtain ⟨q8, h9, hM⟩ := bnd hM
        refine ws_callV cx (rest := [.int x1]) (st' := [.int q8.1, .int x1]) (kX10_verdictOf l D b h9) mvX10_verdictOf (ck_k h10) (by decide) (q := (RX10, TX10, 31)) rfl seX10_verdictOf lkX10_207 rfl ⟨by decide, by decide⟩ (Nat.le_of_ble_eq_true rfl) ⟨rfl, rfl⟩ (Or.inl ⟨rfl, rfl⟩) rfl rfl dX10_sureMany_20 ?_
        refine ws_if_ne cx dX10_sureMany_23 (tgt := 30) (by decide) (fun c11 => ?_) (fun c11 => ?_)
        · have hM := if_f hM c11
          refine ws_iconst cx dX10_sureMany_30 (v := 0) (by decide) ?_
          refine ws_sub [0, 2] (lv' := [(0, .ref (b + o)), (2, .int x2)]) rfl ?_
          exact J31 _ ih _ _ _ _ hM
        · have hM := if_t hM c11
          refine ws_iconst cx dX10_sureMany_26 (v := 1) (by decide) ?_
          refine ws_goto cx dX10_sureMany_27 (tgt := 31) (by decide) ?_
          refine ws_sub [0, 2] (lv' := [(0, .ref (b + o)), (2, .int x2)]) rfl ?_
          exact J31 _ ih _ _ _ _ hM
  unfold mX10_sureMany at hM
  refine ws_iconst cx dX10_sureMany_0 (v := 0) (by decide) ?_
  refine ws_istore_n cx dX10_sureMany_1 rfl (by decide) (lv' := [(1, .int (0 : Int32)), (0, .ref (b + o))]) rfl ?_
  refine ws_iconst cx dX10_sureMany_2 (v := 0) (by decide) ?_
  refine ws_istore_n cx dX10_sureMany_3 rfl (by decide) (lv' := [(2, .int (0 : Int32)), (1, .int (0 : Int32)), (0, .ref (b + o))]) rfl ?_
  refine ws_sub [2, 1, 0] (lv' := [(0, .ref (b + o)), (1, .int (0 : Int32)), (2, .int (0 : Int32))]) rfl ?_
  exact L4 _ _ _ _ hM

def mX10_count (S : SH) (me : ME) (o : Nat) (a0 : Int32) : Option (Int32 × ME) :=
  (ck S 10 o).bind fun _ => (mX10_layGroups S me o).bind fun q1 =>
  if a0 = (0 : Int32) then
    (gI S q1.2 10 0 o).bind fun v5 =>
    some (v5, q1.2)
  else
  if a0 = (1 : Int32) then
    (gR S 10 3 o).bind fun v8 =>
    (aI S q1.2 11 v8 (0 : Int32)).bind fun v10 =>
    some (v10, q1.2)
  else
  if a0 = (2 : Int32) then
    (gI S q1.2 10 20 o).bind fun v13 =>
    some (v13, q1.2)
  else
  if a0 = (3 : Int32) then
    (ck S 10 o).bind fun _ => (mX10_sureMany S q1.2 o).bind fun q16 =>
    some (q16.1, q16.2)
  else
  if a0 = (4 : Int32) then
    (gI S q1.2 10 9 o).bind fun v20 =>
    some (v20, q1.2)
  else
  if a0 = (5 : Int32) then
    (gI S q1.2 10 4 o).bind fun v23 =>
    some (v23, q1.2)
  else
  some ((-1 : Int32), q1.2)
set_option maxRecDepth 100000 in
set_option maxHeartbeats 4000000 in
theorem kX10_count (l : Launch) (D : va_G) (b : Nat) {S : SH} {me : ME} {o : Nat} {a0 : Int32} {q : Int32 × ME} (hM : mX10_count S me o a0 = some q) : Ct l D b yX10_count cX10_count 2 (some .int) 6 140 0 0 [.ref (b + o), .int a0] S me S q.2 (some (.int q.1)) := by
  refine ct_of (own := RX10) (nm := "count") (lv := [(0, .ref (b + o)), (1, .int a0)]) (plainFor_of_name (by decide)) rfl rfl (Nat.le_of_ble_eq_true rfl) rfl ⟨rfl, rfl⟩ (fun X cx ex hL => ?_)
  unfold mX10_count at hM
  refine ws_aload_n cx dX10_count_0 rfl (j := 0) rfl ?_
  obtain ⟨_, h3, hM⟩ := bnd hM
  obtain ⟨q1, h2, hM⟩ := bnd hM
  refine ws_callV cx (rest := []) (st' := []) (kX10_layGroups l D b h2) mvX10_layGroups (ck_k h3) (by decide) (q := (RX10, TX10, 31)) rfl seX10_layGroups lkX10_135 rfl ⟨by decide, by decide⟩ (Nat.le_of_ble_eq_true rfl) ⟨rfl, rfl⟩ (Or.inl ⟨rfl, rfl⟩) rfl rfl dX10_count_1 ?_
  refine ws_iload_n cx dX10_count_4 rfl (j := 1) rfl ?_
  by_cases c4 : a0 = (0 : Int32)
  · have hM := if_t hM c4
    refine ws_tabIn cx dX10_count_5 (tgt := 44) (by rw [c4]; decide) (by rw [c4]; decide) (by rw [c4]; rfl) (by decide) ?_
    refine ws_aload_n cx dX10_count_44 rfl (j := 0) rfl ?_
    obtain ⟨v5, h6, hM⟩ := bnd hM
    refine ws_getI cx ffX10_104 h6 dX10_count_45 ?_
    exact ws_iretM cx ex hM dX10_count_48
  · have hM := if_f hM c4
    by_cases c7 : a0 = (1 : Int32)
    · have hM := if_t hM c7
      refine ws_tabIn cx dX10_count_5 (tgt := 49) (by rw [c7]; decide) (by rw [c7]; decide) (by rw [c7]; rfl) (by decide) ?_
      refine ws_aload_n cx dX10_count_49 rfl (j := 0) rfl ?_
      obtain ⟨v8, h9, hM⟩ := bnd hM
      refine ws_getR cx ffX10_16 h9 dX10_count_50 ?_
      refine ws_iconst cx dX10_count_53 (v := 0) (by decide) ?_
      obtain ⟨v10, h11, hM⟩ := bnd hM
      refine ws_iald cx h11 dX10_count_54 ?_
      exact ws_iretM cx ex hM dX10_count_55
    · have hM := if_f hM c7
      by_cases c12 : a0 = (2 : Int32)
      · have hM := if_t hM c12
        refine ws_tabIn cx dX10_count_5 (tgt := 56) (by rw [c12]; decide) (by rw [c12]; decide) (by rw [c12]; rfl) (by decide) ?_
        refine ws_aload_n cx dX10_count_56 rfl (j := 0) rfl ?_
        obtain ⟨v13, h14, hM⟩ := bnd hM
        refine ws_getI cx ffX10_122 h14 dX10_count_57 ?_
        exact ws_iretM cx ex hM dX10_count_60
      · have hM := if_f hM c12
        by_cases c15 : a0 = (3 : Int32)
        · have hM := if_t hM c15
          refine ws_tabIn cx dX10_count_5 (tgt := 61) (by rw [c15]; decide) (by rw [c15]; decide) (by rw [c15]; rfl) (by decide) ?_
          refine ws_aload_n cx dX10_count_61 rfl (j := 0) rfl ?_
          obtain ⟨_, h18, hM⟩ := bnd hM
          obtain ⟨q16, h17, hM⟩ := bnd hM
          refine ws_callV cx (rest := []) (st' := [.int q16.1]) (kX10_sureMany l D b h17) mvX10_sureMany (ck_k h18) (by decide) (q := (RX10, TX10, 31)) rfl seX10_sureMany lkX10_246 rfl ⟨by decide, by decide⟩ (Nat.le_of_ble_eq_true rfl) ⟨rfl, rfl⟩ (Or.inl ⟨rfl, rfl⟩) rfl rfl dX10_count_62 ?_
          exact ws_iretM cx ex hM dX10_count_65
        · have hM := if_f hM c15
          by_cases c19 : a0 = (4 : Int32)
          · have hM := if_t hM c19
            refine ws_tabIn cx dX10_count_5 (tgt := 66) (by rw [c19]; decide) (by rw [c19]; decide) (by rw [c19]; rfl) (by decide) ?_
            refine ws_aload_n cx dX10_count_66 rfl (j := 0) rfl ?_
            obtain ⟨v20, h21, hM⟩ := bnd hM
            refine ws_getI cx ffX10_52 h21 dX10_count_67 ?_
            exact ws_iretM cx ex hM dX10_count_70
          · have hM := if_f hM c19
            by_cases c22 : a0 = (5 : Int32)
            · have hM := if_t hM c22
              refine ws_tabIn cx dX10_count_5 (tgt := 71) (by rw [c22]; decide) (by rw [c22]; decide) (by rw [c22]; rfl) (by decide) ?_
              refine ws_aload_n cx dX10_count_71 rfl (j := 0) rfl ?_
              obtain ⟨v23, h24, hM⟩ := bnd hM
              refine ws_getI cx ffX10_107 h24 dX10_count_72 ?_
              exact ws_iretM cx ex hM dX10_count_75
            · have hM := if_f hM c22
              refine ws_tabOut cx dX10_count_5 (tgt := 76) (by have := lv_neT c4 (show ((0 : Int32)).toInt = 0 from rfl); have := lv_neT c7 (show ((1 : Int32)).toInt = 1 from rfl); have := lv_neT c12 (show ((2 : Int32)).toInt = 2 from rfl); have := lv_neT c15 (show ((3 : Int32)).toInt = 3 from rfl); have := lv_neT c19 (show ((4 : Int32)).toInt = 4 from rfl); have := lv_neT c22 (show ((5 : Int32)).toInt = 5 from rfl); omega) (by decide) ?_
              refine ws_iconst cx dX10_count_76 (v := -1) (by decide) ?_
              exact ws_iretM cx ex hM dX10_count_77
