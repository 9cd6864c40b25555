/-! ===== group ===== -/
noncomputable def grV (A : AS) (s : Nat) (w : Int) : Int := if w = 0 then (s : Int) else if w = 1 then (RK (mR A s) (eR A s) : Int) else if w = 2 then VD A s else if w = 3 then outS A s else if w = 4 then (foB A s 512).1 else if w = 5 then (foB A s 512).2 else if w = 6 then (cnB A s 900).1 else (cnB A s 900).2
theorem grV_0 (A : AS) (s : Nat) : grV A s 0 = (s : Int) := by unfold grV; rw [if_pos rfl]
theorem grV_1 (A : AS) (s : Nat) : grV A s 1 = (RK (mR A s) (eR A s) : Int) := by unfold grV; rw [if_neg (by decide), if_pos rfl]
theorem grV_2 (A : AS) (s : Nat) : grV A s 2 = VD A s := by unfold grV; rw [if_neg (by decide), if_neg (by decide), if_pos rfl]
theorem grV_3 (A : AS) (s : Nat) : grV A s 3 = outS A s := by unfold grV; rw [if_neg (by decide), if_neg (by decide), if_neg (by decide), if_pos rfl]
theorem grV_4 (A : AS) (s : Nat) : grV A s 4 = (foB A s 512).1 := by unfold grV; rw [if_neg (by decide), if_neg (by decide), if_neg (by decide), if_neg (by decide), if_pos rfl]
theorem grV_5 (A : AS) (s : Nat) : grV A s 5 = (foB A s 512).2 := by unfold grV; rw [if_neg (by decide), if_neg (by decide), if_neg (by decide), if_neg (by decide), if_neg (by decide), if_pos rfl]
theorem grV_6 (A : AS) (s : Nat) : grV A s 6 = (cnB A s 900).1 := by unfold grV; rw [if_neg (by decide), if_neg (by decide), if_neg (by decide), if_neg (by decide), if_neg (by decide), if_neg (by decide), if_pos rfl]
theorem grV_7 (A : AS) (s : Nat) : grV A s 7 = (cnB A s 900).2 := by unfold grV; rw [if_neg (by decide), if_neg (by decide), if_neg (by decide), if_neg (by decide), if_neg (by decide), if_neg (by decide), if_neg (by decide)]
noncomputable def spGroup (g w : Int) (A : AS) : Int × AS := (if (0 ≤ g ∧ g ≤ (gN A : Int) - 1) ∧ 0 ≤ w ∧ w ≤ 7 then grV A (gT A g.toNat) w else -1, A)
theorem ok_group (g w : Int) : OpOK (spGroup g w) := fun A h => h
theorem C_group {g w : Int} (h1 : -2147483648 ≤ g) (h2 : g ≤ 2147483647) (h3 : -2147483648 ≤ w) (h4 : w ≤ 2147483647) : OpC (fun me => mX9_group S1 me 0 (iv g) (iv w)) (spGroup g w) := by
  intro me A hR hA
  have hg9 := gN_le hA
  obtain ⟨m1, a1, a2, a3⟩ := C_reg hR hA
  have key : ∃ (v : Int) (m : ME), mX9_group S1 me 0 (iv g) (iv w) = some (iv v, m) ∧ FrC me m ∧ v = (spGroup g w A).1 := by
    have m1g : iv (gN A : Int) - 1 = iv ((gN A : Int) - 1) := by rw [show (1 : Int32) = iv 1 from rfl, iv_sub]
    have one0 : ¬ (1 : Int32) = 0 := by decide
    by_cases cg : 0 ≤ g ∧ g ≤ (gN A : Int) - 1
    · have wg : mX9_within S1 m1 (iv g) (iv ((gN A : Int) - 1)) = some (1, m1) := within_t S1 m1 cg (by omega)
      have hg : g.toNat < gN A := by omega
      have hset : m1.1 68 g.toNat = iv (gT A g.toNat) := gc_set a2 hg
      have hs2 := gT_lt hA hg
      have hs5 := gT_512 hA hg
      have hfo := gT_fo hA hg
      by_cases cw : 0 ≤ w ∧ w ≤ 7
      · have ww : mX9_within S1 m1 (iv w) (7 : Int32) = some (1, m1) := within_t S1 m1 (y := 7) cw (by omega)
        have hsp : (spGroup g w A).1 = grV A (gT A g.toNat) w := if_pos ⟨cg, cw⟩
        rw [hsp]
        unfold mX9_group
        simp only [ck_s kS_0, bs, a1, rS_0_8, rS_0_9, rS_0_10, rS_67_0, gI_k kS_67, gc_many a2, m1g, wg, ww, if_neg one0, aI_k kS_68 lS_68 (i := g) (by omega) (by omega) (by omega), hset, ck_s kS_71, ck_s kS_82]
        generalize gT A g.toNat = s at *
        rcases (show w = 0 ∨ w = 1 ∨ w = 2 ∨ w = 3 ∨ w = 4 ∨ w = 5 ∨ w = 6 ∨ w = 7 by omega) with rfl | rfl | rfl | rfl | rfl | rfl | rfl | rfl
        · refine ⟨_, m1, ?_, a3, (grV_0 A s).symm⟩
          rw [if_pos (show iv 0 = (0 : Int32) from rfl)]
        · obtain ⟨m2, P, R, last, b1, -, -, b4, -, b2⟩ := C_solve a2.1 hA hs5
          refine ⟨_, m2, ?_, a3.trans b2.frC, (grV_1 A s).symm⟩
          rw [if_neg (show ¬ iv 1 = (0 : Int32) by decide), if_pos (show iv 1 = (1 : Int32) from rfl)]
          simp only [b1, bs, gI_k kS_71, b4]
        · obtain ⟨m2, b1, b2, -⟩ := C_judge a2.1 hA hs5
          refine ⟨_, m2, ?_, a3.trans b2.frC, (grV_2 A s).symm⟩
          rw [if_neg (show ¬ iv 2 = (0 : Int32) by decide), if_neg (show ¬ iv 2 = (1 : Int32) by decide), if_pos (show iv 2 = (2 : Int32) from rfl)]
          simp only [b1, bs]
        · obtain ⟨m2, b1, b2⟩ := C_out a2.1 hA hs5
          refine ⟨_, m2, ?_, a3.trans b2.frC, (grV_3 A s).symm⟩
          rw [if_neg (show ¬ iv 3 = (0 : Int32) by decide), if_neg (show ¬ iv 3 = (1 : Int32) by decide), if_neg (show ¬ iv 3 = (2 : Int32) by decide), if_pos (show iv 3 = (3 : Int32) from rfl)]
          simp only [b1, bs]
        · obtain ⟨m2, b1, b2, b4, -⟩ := C_four a2.1 hA hs2
          refine ⟨_, m2, ?_, a3.trans b2.frC, (grV_4 A s).symm⟩
          rw [if_neg (show ¬ iv 4 = (0 : Int32) by decide), if_neg (show ¬ iv 4 = (1 : Int32) by decide), if_neg (show ¬ iv 4 = (2 : Int32) by decide), if_neg (show ¬ iv 4 = (3 : Int32) by decide), if_pos (show iv 4 = (4 : Int32) from rfl)]
          simp only [b1, bs, gI_k kS_82, b4]
        · obtain ⟨m2, b1, b2, -, b4⟩ := C_four a2.1 hA hs2
          refine ⟨_, m2, ?_, a3.trans b2.frC, (grV_5 A s).symm⟩
          rw [if_neg (show ¬ iv 5 = (0 : Int32) by decide), if_neg (show ¬ iv 5 = (1 : Int32) by decide), if_neg (show ¬ iv 5 = (2 : Int32) by decide), if_neg (show ¬ iv 5 = (3 : Int32) by decide), if_neg (show ¬ iv 5 = (4 : Int32) by decide), if_pos (show iv 5 = (5 : Int32) from rfl)]
          simp only [b1, bs, gI_k kS_82, b4]
        · obtain ⟨m2, b1, b2, b4, -⟩ := C_can a2.1 hA hs5 hfo
          refine ⟨_, m2, ?_, a3.trans b2.frC, (grV_6 A s).symm⟩
          rw [if_neg (show ¬ iv 6 = (0 : Int32) by decide), if_neg (show ¬ iv 6 = (1 : Int32) by decide), if_neg (show ¬ iv 6 = (2 : Int32) by decide), if_neg (show ¬ iv 6 = (3 : Int32) by decide), if_neg (show ¬ iv 6 = (4 : Int32) by decide), if_neg (show ¬ iv 6 = (5 : Int32) by decide), if_pos (show iv 6 = (6 : Int32) from rfl)]
          simp only [b1, bs, gI_k kS_82, b4]
        · obtain ⟨m2, b1, b2, -, b4⟩ := C_can a2.1 hA hs5 hfo
          refine ⟨_, m2, ?_, a3.trans b2.frC, (grV_7 A s).symm⟩
          rw [if_neg (show ¬ iv 7 = (0 : Int32) by decide), if_neg (show ¬ iv 7 = (1 : Int32) by decide), if_neg (show ¬ iv 7 = (2 : Int32) by decide), if_neg (show ¬ iv 7 = (3 : Int32) by decide), if_neg (show ¬ iv 7 = (4 : Int32) by decide), if_neg (show ¬ iv 7 = (5 : Int32) by decide), if_neg (show ¬ iv 7 = (6 : Int32) by decide)]
          simp only [b1, bs, gI_k kS_82, b4]
      · have ww : mX9_within S1 m1 (iv w) (7 : Int32) = some (0, m1) := within_f S1 m1 (y := 7) cw (by omega) (by omega) (by omega) (by omega)
        refine ⟨-1, m1, ?_, a3, (if_neg (fun q => cw q.2)).symm⟩
        unfold mX9_group mX9_group_j29
        simp only [ck_s kS_0, bs, a1, rS_0_8, gI_k kS_67, gc_many a2, m1g, wg, ww, if_neg one0]
        rw [if_pos trivial]
        rfl
    · have wg : mX9_within S1 m1 (iv g) (iv ((gN A : Int) - 1)) = some (0, m1) := within_f S1 m1 cg (by omega) (by omega) (by omega) (by omega)
      refine ⟨-1, m1, ?_, a3, (if_neg (fun q => cg q.1)).symm⟩
      unfold mX9_group mX9_group_j29
      simp only [ck_s kS_0, bs, a1, rS_0_8, gI_k kS_67, gc_many a2, m1g, wg]
      rw [if_pos trivial]
      rfl
  obtain ⟨v, m, e, f, q⟩ := key
  exact ⟨m, by show mX9_group S1 me 0 (iv g) (iv w) = _; rw [e, q], f.rep hR, f.eqM⟩
theorem M_group {g w : Int} (h1 : -2147483648 ≤ g) (h2 : g ≤ 2147483647) (h3 : -2147483648 ≤ w) (h4 : w ≤ 2147483647) : OpM (fun me => mX10_group S1 me 91 (iv g) (iv w)) (spGroup g w) := by
  intro me A hR hA
  have hg9 := gN_le hA
  obtain ⟨m1, a1, a2, a3⟩ := M_lay hR hA
  have hR1 := a3.rep hR
  have key : ∃ (v : Int) (m : ME), mX10_group S1 me 91 (iv g) (iv w) = some (iv v, m) ∧ FrM me m ∧ v = (spGroup g w A).1 := by
    have m1g : iv (gN A : Int) - 1 = iv ((gN A : Int) - 1) := by rw [show (1 : Int32) = iv 1 from rfl, iv_sub]
    have one0 : ¬ (1 : Int32) = 0 := by decide
    by_cases cg : 0 ≤ g ∧ g ≤ (gN A : Int) - 1
    · have wg : mX10_in S1 m1 (iv g) (0 : Int32) (iv ((gN A : Int) - 1)) = some (1, m1) := in_t S1 m1 (y := 0) cg (by omega) (by omega)
      have hg : g.toNat < gN A := by omega
      have hset : m1.1 102 g.toNat = iv (gT A g.toNat) := gm_set a2 hg
      have hs2 := gT_lt hA hg
      have hs5 := gT_512 hA hg
      have hfo := gT_fo hA hg
      by_cases cw : 0 ≤ w ∧ w ≤ 7
      · have ww : mX10_in S1 m1 (iv w) (0 : Int32) (7 : Int32) = some (1, m1) := in_t S1 m1 (y := 0) (z := 7) cw (by omega) (by omega)
        have hsp : (spGroup g w A).1 = grV A (gT A g.toNat) w := if_pos ⟨cg, cw⟩
        rw [hsp]
        unfold mX10_group
        simp only [ck_s kS_91, bs, a1, rS_91_21, gI_k kS_91, gm_many a2, m1g, wg, ww, if_neg one0, aI_k kS_102 lS_102 (i := g) (by omega) (by omega) (by omega), hset]
        generalize gT A g.toNat = s at *
        rcases (show w = 0 ∨ w = 1 ∨ w = 2 ∨ w = 3 ∨ w = 4 ∨ w = 5 ∨ w = 6 ∨ w = 7 by omega) with rfl | rfl | rfl | rfl | rfl | rfl | rfl | rfl
        · refine ⟨_, m1, ?_, a3, (grV_0 A s).symm⟩
          rw [if_pos (show iv 0 = (0 : Int32) from rfl)]
        · obtain ⟨m2, b1, -, b2⟩ := M_rankV hR1 hA hs5 hfo
          refine ⟨_, m2, ?_, a3.trans b2.1, (grV_1 A s).symm⟩
          rw [if_neg (show ¬ iv 1 = (0 : Int32) by decide), if_pos (show iv 1 = (1 : Int32) from rfl)]
          simp only [b1, bs]
        · obtain ⟨m2, b1, b2, -⟩ := M_verdict hR1 hA hs5 hfo
          refine ⟨_, m2, ?_, a3.trans b2.1, (grV_2 A s).symm⟩
          rw [if_neg (show ¬ iv 2 = (0 : Int32) by decide), if_neg (show ¬ iv 2 = (1 : Int32) by decide), if_pos (show iv 2 = (2 : Int32) from rfl)]
          simp only [b1, bs]
        · obtain ⟨m2, b1, b2⟩ := M_out hR1 hA hs2
          refine ⟨_, m2, ?_, a3.trans b2.1, (grV_3 A s).symm⟩
          rw [if_neg (show ¬ iv 3 = (0 : Int32) by decide), if_neg (show ¬ iv 3 = (1 : Int32) by decide), if_neg (show ¬ iv 3 = (2 : Int32) by decide), if_pos (show iv 3 = (3 : Int32) from rfl)]
          simp only [b1, bs]
        · obtain ⟨m2, b1, b2, -⟩ := M_four hR1 hA hs2
          refine ⟨_, m2, ?_, a3.trans b2, (grV_4 A s).symm⟩
          rw [if_neg (show ¬ iv 4 = (0 : Int32) by decide), if_neg (show ¬ iv 4 = (1 : Int32) by decide), if_neg (show ¬ iv 4 = (2 : Int32) by decide), if_neg (show ¬ iv 4 = (3 : Int32) by decide), if_pos (show iv 4 = (4 : Int32) from rfl)]
          simp only [b1, bs]
        · obtain ⟨m2, b1, b2, b3⟩ := M_four hR1 hA hs2
          have hb := foB_b hA hs2 512 (by omega)
          refine ⟨_, m2, ?_, a3.trans b2, (grV_5 A s).symm⟩
          rw [if_neg (show ¬ iv 5 = (0 : Int32) by decide), if_neg (show ¬ iv 5 = (1 : Int32) by decide), if_neg (show ¬ iv 5 = (2 : Int32) by decide), if_neg (show ¬ iv 5 = (3 : Int32) by decide), if_neg (show ¬ iv 5 = (4 : Int32) by decide), if_pos (show iv 5 = (5 : Int32) from rfl)]
          unfold mX10_group_j125
          simp only [b1, bs, gI_k kS_91]
          by_cases c9 : (foB A s 512).1 = -9
          · rw [if_pos (show iv (foB A s 512).1 = (-9 : Int32) by rw [c9]; rfl)]
            have e9 : (foB A s 512).2 = -9 := by
              rcases hb with q | q
              · rw [q]
              · omega
            rw [e9]; rfl
          · have hb2 : -9 ≤ (foB A s 512).1 ∧ (foB A s 512).1 < 512 := by
              rcases hb with q | q
              · rw [q]; decide
              · omega
            rw [if_neg (show ¬ iv (foB A s 512).1 = (-9 : Int32) from iv_ne (y := -9) (by omega) (by omega) (by omega) (by omega) c9), b3 c9]
        · obtain ⟨m2, b1, b2, b4, -⟩ := M_can hR1 hA hs5 hfo
          refine ⟨_, m2, ?_, a3.trans b2, (grV_6 A s).symm⟩
          rw [if_neg (show ¬ iv 6 = (0 : Int32) by decide), if_neg (show ¬ iv 6 = (1 : Int32) by decide), if_neg (show ¬ iv 6 = (2 : Int32) by decide), if_neg (show ¬ iv 6 = (3 : Int32) by decide), if_neg (show ¬ iv 6 = (4 : Int32) by decide), if_neg (show ¬ iv 6 = (5 : Int32) by decide), if_pos (show iv 6 = (6 : Int32) from rfl)]
          simp only [b1, bs, gI_k kS_91, b4]
        · obtain ⟨m2, b1, b2, -, b4⟩ := M_can hR1 hA hs5 hfo
          refine ⟨_, m2, ?_, a3.trans b2, (grV_7 A s).symm⟩
          rw [if_neg (show ¬ iv 7 = (0 : Int32) by decide), if_neg (show ¬ iv 7 = (1 : Int32) by decide), if_neg (show ¬ iv 7 = (2 : Int32) by decide), if_neg (show ¬ iv 7 = (3 : Int32) by decide), if_neg (show ¬ iv 7 = (4 : Int32) by decide), if_neg (show ¬ iv 7 = (5 : Int32) by decide), if_neg (show ¬ iv 7 = (6 : Int32) by decide)]
          simp only [b1, bs, gI_k kS_91, b4]
      · have ww : mX10_in S1 m1 (iv w) (0 : Int32) (7 : Int32) = some (0, m1) := in_f S1 m1 (y := 0) (z := 7) cw (by omega) (by omega) (by omega) (by omega) (by omega) (by omega)
        refine ⟨-1, m1, ?_, a3, (if_neg (fun q => cw q.2)).symm⟩
        unfold mX10_group mX10_group_j28
        simp only [ck_s kS_91, bs, a1, gI_k kS_91, gm_many a2, m1g, wg, ww, if_neg one0]
        rw [if_pos trivial]
        rfl
    · have wg : mX10_in S1 m1 (iv g) (0 : Int32) (iv ((gN A : Int) - 1)) = some (0, m1) := in_f S1 m1 (y := 0) cg (by omega) (by omega) (by omega) (by omega) (by omega) (by omega)
      refine ⟨-1, m1, ?_, a3, (if_neg (fun q => cg q.1)).symm⟩
      unfold mX10_group mX10_group_j28
      simp only [ck_s kS_91, bs, a1, gI_k kS_91, gm_many a2, m1g, wg]
      rw [if_pos trivial]
      rfl
  obtain ⟨v, m, e, f, q⟩ := key
  exact ⟨m, by show mX10_group S1 me 91 (iv g) (iv w) = _; rw [e, q], f.rep hR, f.eqC⟩
