/-! ===== the model: the loops that lay the groups ===== -/
theorem L105_v {me : ME} {A : AS} (hR : RepM me A) (hA : ASok A) {g k b : Nat} (hg : g < 9) (hb : me.1 102 g = iv b) (hb2 : b < 512) (hk : k < PN A) (k9 : ME × Int32 × Int32 → Option (Unit × ME)) (k94 : ME × Int32 × Int32 × Int32 × Int32 × Int32 → Option (Unit × ME)) (x1 x2 x4 : Int32) : lpn (mX10_layGroups_L105 S1 91 k9 k94) lpF (me, x1, x2, iv k, x4, iv g, 1, 0) = k94 (me, x1, x2, iv k, @ite _ (Fit A b k) (Classical.propDecidable _) (iv g) x4, iv g + (-1 : Int32)) := by
  have hn : PN A ≤ 9 := hA.2.2.1.1
  refine lpn_up (P := fun i s => s = (me, x1, x2, iv k, x4, iv g, @ite _ (∀ j, j < i → b.testBit j = true → Tog A j k) (Classical.propDecidable _) 1 0, iv i)) (e := PN A) ?_ ?_ (PN A) 0 lpF _ (by omega) (by unfold lpF; omega) ?_
  · rintro i s kk hi rfl
    refine ⟨_, rfl, ?_⟩
    unfold mX10_layGroups_L105 mX10_layGroups_j150 mX10_layGroups_j146 mX10_layGroups_j151
    simp only [rS_91_3, rS_91_21, bs, show (0 : Int32) = iv 0 from rfl, aI_k kS_94 lS_94 (i := 0) (by omega) (by omega) (by omega), Int.toNat_zero, many_v hR]
    rw [if_neg (show ¬ iv (PN A) ≤ iv i by rw [iv_le (by omega) (by omega) (by omega) (by omega)]; omega)]
    by_cases c : ∀ j, j < i → b.testBit j = true → Tog A j k
    · rw [if_pos c, if_neg (show ¬ (1 : Int32) = iv 0 by decide)]
      simp only [aI_k kS_102 lS_102 (i := (g : Int)) (by omega) (by omega) (by omega), Int.toNat_natCast, hb, bs, has_v S1 me (show b < 2147483648 by omega) (show i < 31 by omega), ck_s kS_91, isTogether_v hR hA hi hk]
      by_cases cb : b.testBit i = true
      · rw [if_pos cb, if_neg (show ¬ (1 : Int32) = iv 0 by decide)]
        by_cases t : Tog A i k
        · rw [if_pos t, if_neg (show ¬ (1 : Int32) = iv 0 by decide), if_pos (show ∀ j, j < i + 1 → b.testBit j = true → Tog A j k from fun j h1 h2 => by
            by_cases e : j = i
            · subst e; exact t
            · exact c j (by omega) h2), show (1 : Int32) = iv 1 from rfl, iv_add]
          rfl
        · rw [if_neg t, if_pos (show (0 : Int32) = iv 0 from rfl), if_neg (show ¬ ∀ j, j < i + 1 → b.testBit j = true → Tog A j k from fun F => t (F i (by omega) cb)), show (1 : Int32) = iv 1 from rfl, iv_add]
          rfl
      · rw [if_neg cb, if_pos (show (0 : Int32) = iv 0 from rfl), if_pos (show ∀ j, j < i + 1 → b.testBit j = true → Tog A j k from fun j h1 h2 => by
            by_cases e : j = i
            · subst e; exact absurd h2 cb
            · exact c j (by omega) h2), show (1 : Int32) = iv 1 from rfl, iv_add]
        rfl
    · rw [if_neg c, if_pos rfl, if_neg (show ¬ ∀ j, j < i + 1 → b.testBit j = true → Tog A j k from fun F => c (fun j h1 h2 => F j (by omega) h2)), show (1 : Int32) = iv 1 from rfl, iv_add]
      rfl
  · rintro s kk rfl
    unfold mX10_layGroups_L105 mX10_layGroups_j159 mX10_layGroups_j171
    simp only [rS_91_3, rS_91_21, bs, show (0 : Int32) = iv 0 from rfl, aI_k kS_94 lS_94 (i := 0) (by omega) (by omega) (by omega), Int.toNat_zero, many_v hR]
    rw [if_pos (show iv (PN A) ≤ iv (PN A) by rw [iv_le (by omega) (by omega) (by omega) (by omega)]; omega)]
    by_cases c : Fit A b k
    · rw [if_pos c, if_pos (show ∀ j, j < PN A → b.testBit j = true → Tog A j k from c), if_neg (show ¬ (1 : Int32) = iv 0 by decide)]
    · rw [if_neg c, if_neg (show ¬ ∀ j, j < PN A → b.testBit j = true → Tog A j k from c), if_pos rfl]
  · have : ∀ j, j < 0 → b.testBit j = true → Tog A j k := fun j h => by omega
    rw [if_pos this]
    rfl
/-- the model's groups, i readings in -/
def GrM (me : ME) (A : AS) (i : Nat) : Prop := me.1 91 20 = iv (grp A i).1 ∧ ∀ g, g < (grp A i).1 → me.1 102 g = iv ((grp A i).2.1 g)
theorem L94_v {me : ME} {A : AS} (hR : RepM me A) (hA : ASok A) {i : Nat} (hi : i < PN A) (hG : GrM me A i) (k9 : ME × Int32 × Int32 → Option (Unit × ME)) (x1 x2 : Int32) : ∀ (g n to : Nat), g < n → g ≤ (grp A i).1 → ((g ≤ to ∧ to < (grp A i).1 ∧ Fit A ((grp A i).2.1 to) (nth A i) ∧ ∀ g', g ≤ g' → g' < to → ¬ Fit A ((grp A i).2.1 g') (nth A i)) ∨ (to = (grp A i).1 ∧ ∀ g', g ≤ g' → g' < to → ¬ Fit A ((grp A i).2.1 g') (nth A i))) → lpn (mX10_layGroups_L94 S1 91 k9) n (me, x1, x2, iv (nth A i), iv to, iv (g - 1)) = mX10_layGroups_j179 S1 91 k9 me x1 x2 (iv (nth A i)) (iv (gto A i)) := by
  have hn : PN A ≤ 9 := hA.2.2.1.1
  have hle := grp_le A i
  have hst := grp_lt (A := A) (i := i) (fun t ht => by have := nth_lt hA (show t < PN A by omega); omega)
  intro g
  induction g with
  | zero =>
    intro n to h1 h2 h3
    obtain ⟨n, rfl⟩ : ∃ z, n = z + 1 := ⟨n - 1, by omega⟩
    have : gto A i = to := fstN_eq (by
      rcases h3 with ⟨-, a, b, c⟩ | ⟨a, b⟩
      · exact Or.inl ⟨a, b, fun g' hg' => c g' (by omega) hg'⟩
      · exact Or.inr ⟨a, fun g' hg' => b g' (by omega) (by omega)⟩)
    rw [this]
    show mX10_layGroups_L94 S1 91 k9 _ _ = _
    unfold mX10_layGroups_L94
    simp only []
    rw [if_pos (by rw [show (0 : Int32) = iv 0 from rfl, iv_lt (by omega) (by omega) (by omega) (by omega)]; omega)]
  | succ g ih =>
    intro n to h1 h2 h3
    obtain ⟨n, rfl⟩ : ∃ z, n = z + 1 := ⟨n - 1, by omega⟩
    show mX10_layGroups_L94 S1 91 k9 (lpn (mX10_layGroups_L94 S1 91 k9) n) _ = _
    have step : ∀ k94, mX10_layGroups_L94 S1 91 k9 k94 (me, x1, x2, iv (nth A i), iv to, iv ((g + 1 : Nat) - 1)) = k94 (me, x1, x2, iv (nth A i), @ite _ (Fit A ((grp A i).2.1 g) (nth A i)) (Classical.propDecidable _) (iv g) (iv to), iv (g - 1)) := by
      intro k94
      unfold mX10_layGroups_L94
      simp only []
      rw [if_neg (by rw [show (0 : Int32) = iv 0 from rfl, iv_lt (by omega) (by omega) (by omega) (by omega)]; omega), show ((g + 1 : Nat) : Int) - 1 = (g : Int) by omega, L105_v hR hA (show g < 9 by omega) (hG.2 g (by omega)) (hst g) (nth_lt hA hi) k9 k94 x1 x2 (iv to), show (-1 : Int32) = iv (-1) from rfl, iv_add]
      rfl
    rw [step]
    by_cases c : Fit A ((grp A i).2.1 g) (nth A i)
    · rw [if_pos c]
      exact ih n g (by omega) (by omega) (Or.inl ⟨by omega, by omega, c, fun g' a b => by omega⟩)
    · rw [if_neg c]
      have w : ∀ g', g ≤ g' → g' < to → ¬ Fit A ((grp A i).2.1 g') (nth A i) := fun g' a b => by
        by_cases e : g' = g
        · subst e; exact c
        · rcases h3 with ⟨-, -, -, q⟩ | ⟨-, q⟩
          · exact q g' (by omega) b
          · exact q g' (by omega) b
      refine ih n to (by omega) (by omega) ?_
      rcases h3 with ⟨a, b, c, d⟩ | ⟨a, b⟩
      · exact Or.inl ⟨by omega, b, c, w⟩
      · exact Or.inr ⟨a, w⟩
theorem L25_v {me : ME} {A : AS} (hR : RepM me A) (hA : ASok A) {i u : Nat} (hi : i < PN A) (hu : u < 512) (hub : ∀ j, u.testBit j = true ↔ j ∈ picks A i) (k9 : ME × Int32 × Int32 → Option (Unit × ME)) (x2 : Int32) : lpn (mX10_layGroups_L25 S1 91 k9) lpF (me, iv u, x2, (-9 : Int32), (0 : Int32)) = mX10_layGroups_j74 S1 91 k9 me (iv u) x2 (iv (nth A i)) := by
  have hn : PN A ≤ 9 := hA.2.2.1.1
  refine lpn_up (P := fun j s => ∃ K : Int, s = (me, iv u, x2, iv K, iv j) ∧ ((K = -9 ∧ ∀ j', j' < j → j' ∈ picks A i) ∨ ∃ k : Nat, K = k ∧ k < j ∧ ¬ k ∈ picks A i ∧ ∀ j', j' < j → ¬ j' ∈ picks A i → j' = k ∨ Ah A k j')) (e := PN A) ?_ ?_ (PN A) 0 lpF _ (by omega) (by unfold lpF; omega) ⟨-9, rfl, Or.inl ⟨rfl, fun j' h => by omega⟩⟩
  · rintro j s kk hj ⟨K, rfl, hK⟩
    have st : ∀ kk, mX10_layGroups_L25 S1 91 k9 kk (me, iv u, x2, iv K, iv j) = kk (me, iv u, x2, @ite _ (¬ j ∈ picks A i ∧ (K = -9 ∨ ∃ k : Nat, K = k ∧ Ah A j k)) (Classical.propDecidable _) (iv j) (iv K), iv ((j + 1 : Nat) : Int)) := by
      intro kk
      unfold mX10_layGroups_L25 mX10_layGroups_j61 mX10_layGroups_j66 mX10_layGroups_j67
      simp only [rS_91_3, bs, show (0 : Int32) = iv 0 from rfl, aI_k kS_94 lS_94 (i := 0) (by omega) (by omega) (by omega), Int.toNat_zero, many_v hR]
      rw [if_neg (show ¬ iv (PN A) ≤ iv j by rw [iv_le (by omega) (by omega) (by omega) (by omega)]; omega), show (1 : Int32) = iv 1 from rfl, iv_add, show (j : Int) + 1 = ((j + 1 : Nat) : Int) by omega]
      simp only [has_v S1 me (show u < 2147483648 by omega) (show j < 31 by omega), bs]
      by_cases cu : j ∈ picks A i
      · rw [if_pos ((hub j).mpr cu), if_neg (show ¬ (1 : Int32) = iv 0 by decide), if_neg (show ¬ (¬ j ∈ picks A i ∧ _) from fun h => h.1 cu)]
      · rw [if_neg (fun h => cu ((hub j).mp h)), if_pos (show (0 : Int32) = iv 0 from rfl)]
        rcases hK with ⟨rfl, h9⟩ | ⟨k, rfl, k1, k2, k3⟩
        · rw [if_pos (show iv (-9) = (-9 : Int32) from rfl), if_pos (show (¬ j ∈ picks A i ∧ _) from ⟨cu, Or.inl rfl⟩)]
        · rw [if_neg (show ¬ iv k = (-9 : Int32) by rw [show (-9 : Int32) = iv (-9) from rfl, iv_eq (by omega) (by omega) (by omega) (by omega)]; omega)]
          simp only [ck_s kS_91, bs, isAhead_v hR hA hj (show k < PN A by omega)]
          by_cases c : Ah A j k
          · rw [if_pos c, if_neg (show ¬ (1 : Int32) = iv 0 by decide), if_pos (show (¬ j ∈ picks A i ∧ _) from ⟨cu, Or.inr ⟨k, rfl, c⟩⟩)]
          · rw [if_neg c, if_pos (show (0 : Int32) = iv 0 from rfl), if_neg]
            rintro ⟨-, h | ⟨k', h, h'⟩⟩
            · omega
            · have : k = k' := by omega
              subst this; exact c h'
    refine ⟨_, ?_, st kk⟩
    by_cases c : ¬ j ∈ picks A i ∧ (K = -9 ∨ ∃ k : Nat, K = k ∧ Ah A j k)
    · rw [if_pos c]
      refine ⟨j, rfl, Or.inr ⟨j, rfl, by omega, c.1, fun j' h1 h2 => ?_⟩⟩
      by_cases e : j' = j
      · exact Or.inl e
      · right
        rcases hK with ⟨rfl, h9⟩ | ⟨k, rfl, k1, k2, k3⟩
        · exact absurd (h9 j' (by omega)) h2
        · rcases c.2 with h | ⟨k', h, h'⟩
          · omega
          · have : k = k' := by omega
            subst this
            rcases k3 j' (by omega) h2 with q | q
            · rw [q]; exact h'
            · exact Ah_tr h' q
    · rw [if_neg c]
      refine ⟨K, rfl, ?_⟩
      rcases hK with ⟨rfl, h9⟩ | ⟨k, rfl, k1, k2, k3⟩
      · refine Or.inl ⟨rfl, fun j' hj' => ?_⟩
        by_cases e : j' = j
        · subst e
          exact Classical.byContradiction fun q => c ⟨q, Or.inl rfl⟩
        · exact h9 j' (by omega)
      · refine Or.inr ⟨k, rfl, by omega, k2, fun j' h1 h2 => ?_⟩
        by_cases e : j' = j
        · subst e
          right
          refine (Ah_to (show k ≠ j' by omega)).resolve_right (fun q => c ⟨h2, Or.inr ⟨k, rfl, q⟩⟩)
        · exact k3 j' (by omega) h2
  · rintro s kk ⟨K, rfl, hK⟩
    have hp := nth_pick hA hi
    have hKn : K = nth A i := by
      rcases hK with ⟨rfl, h9⟩ | ⟨k, rfl, k1, k2, k3⟩
      · exact absurd (h9 _ hp.1.1) hp.1.2
      · have : Pick A (fun j => j ∈ picks A i) k := ⟨⟨k1, k2⟩, k3⟩
        rw [Pick_un this hp]
    rw [hKn]
    unfold mX10_layGroups_L25
    simp only [rS_91_3, bs, show (0 : Int32) = iv 0 from rfl, aI_k kS_94 lS_94 (i := 0) (by omega) (by omega) (by omega), Int.toNat_zero, many_v hR]
    rw [if_pos (show iv (PN A) ≤ iv (PN A) by rw [iv_le (by omega) (by omega) (by omega) (by omega)]; omega)]
theorem M_lay {me : ME} {A : AS} (hR : RepM me A) (hA : ASok A) : ∃ me1 : ME, mX10_layGroups S1 me 91 = some ((), me1) ∧ GrM me1 A (PN A) ∧ FrM me me1 := by
  have hn : PN A ≤ 9 := hA.2.2.1.1
  unfold mX10_layGroups
  simp only [sI_k kS_91, bs]
  have key : ∀ (d i n u : Nat) (m2 : ME), i + d = PN A → d < n → GrM m2 A i → FrM me m2 → u < 512 → (∀ j, u.testBit j = true ↔ j ∈ picks A i) → ∃ me1 : ME, lpn (mX10_layGroups_L9 S1 91) n (m2, iv u, iv i) = some ((), me1) ∧ GrM me1 A (PN A) ∧ FrM me me1 := by
    intro d
    induction d with
    | zero =>
      intro i n u m2 e1 e2 g1 g2 g3 g4
      obtain ⟨n, rfl⟩ : ∃ z, n = z + 1 := ⟨n - 1, by omega⟩
      have : i = PN A := by omega
      subst this
      refine ⟨m2, ?_, g1, g2⟩
      show mX10_layGroups_L9 S1 91 _ _ = _
      unfold mX10_layGroups_L9 mX10_layGroups_j225
      simp only [rS_91_3, bs, show (0 : Int32) = iv 0 from rfl, aI_k kS_94 lS_94 (i := 0) (by omega) (by omega) (by omega), Int.toNat_zero, many_v (g2.rep hR)]
      rw [if_pos (by rw [iv_le (by omega) (by omega) (by omega) (by omega)]; omega)]
    | succ d ih =>
      intro i n u m2 e1 e2 g1 g2 g3 g4
      obtain ⟨n, rfl⟩ : ∃ z, n = z + 1 := ⟨n - 1, by omega⟩
      have hi : i < PN A := by omega
      have hR2 := g2.rep hR
      have hni := nth_lt hA hi
      have hle := grp_le A i
      have hto := gto_le A i
      let m3 : ME := if gto A i = (grp A i).1 then (up2 (up2 m2.1 102 (gto A i) 0) 91 20 (iv ((grp A i).1 + 1 : Nat)), m2.2) else m2
      let m4 : ME := (up2 m3.1 102 (gto A i) (iv ((grp A (i + 1)).2.1 (gto A i))), m3.2)
      have fr3 : FrM m2 m3 := by
        show FrM m2 (if gto A i = (grp A i).1 then (up2 (up2 m2.1 102 (gto A i) 0) 91 20 (iv ((grp A i).1 + 1 : Nat)), m2.2) else m2)
        split
        · exact FrM.trans (FrM.up102 (k := gto A i) (v := 0)) (FrM.up20 (me := (up2 m2.1 102 (gto A i) 0, m2.2)) (by omega))
        · exact FrM.rfl'
      have fr4 : FrM m2 m4 := fr3.trans FrM.up102
      have h367 : m3.1 91 20 = iv (grp A (i + 1)).1 := by
        show (if gto A i = (grp A i).1 then (up2 (up2 m2.1 102 (gto A i) 0) 91 20 (iv ((grp A i).1 + 1 : Nat)), m2.2) else m2).1 91 20 = _
        rw [grp_succ]
        by_cases c : gto A i = (grp A i).1
        · rw [if_pos c]
          show up2 (up2 m2.1 102 (gto A i) 0) 91 20 (iv ((grp A i).1 + 1 : Nat)) 91 20 = iv ((if gto A i = (grp A i).1 then (grp A i).1 + 1 else (grp A i).1 : Nat) : Int)
          rw [up2_s, if_pos c]
        · rw [if_neg c]
          show _ = iv ((if gto A i = (grp A i).1 then (grp A i).1 + 1 else (grp A i).1 : Nat) : Int)
          rw [if_neg c]; exact g1.1
      have h368 : m3.1 102 (gto A i) = iv ((if gto A i = (grp A i).1 then 0 else (grp A i).2.1 (gto A i) : Nat) : Int) := by
        show (if gto A i = (grp A i).1 then (up2 (up2 m2.1 102 (gto A i) 0) 91 20 (iv ((grp A i).1 + 1 : Nat)), m2.2) else m2).1 102 (gto A i) = _
        by_cases c : gto A i = (grp A i).1
        · rw [if_pos c, if_pos c]
          show up2 (up2 m2.1 102 (gto A i) 0) 91 20 (iv ((grp A i).1 + 1 : Nat)) 102 (gto A i) = _
          rw [up2_r _ _ _ (by decide), up2_s]; rfl
        · rw [if_neg c, if_neg c]; exact g1.2 _ (gto_fit A i c)
      have h368k : ∀ g, g ≠ gto A i → m3.1 102 g = m2.1 102 g := fun g hg => by
        show (if gto A i = (grp A i).1 then (up2 (up2 m2.1 102 (gto A i) 0) 91 20 (iv ((grp A i).1 + 1 : Nat)), m2.2) else m2).1 102 g = _
        split
        · show up2 (up2 m2.1 102 (gto A i) 0) 91 20 (iv ((grp A i).1 + 1 : Nat)) 102 g = _
          rw [up2_r _ _ _ (by decide), up2_k _ _ _ _ hg]
        · rfl
      have hstep : ∀ kk, mX10_layGroups_L9 S1 91 kk (m2, iv u, iv i) = kk (m4, iv ((u ||| 2 ^ nth A i : Nat) : Int), iv ((i + 1 : Nat) : Int)) := by
        intro kk
        unfold mX10_layGroups_L9
        simp only [rS_91_3, bs, aI_k kS_94 lS_94 (i := 0) (by omega) (by omega) (by omega), Int.toNat_zero, show (0 : Int32) = iv 0 from rfl, many_v hR2]
        rw [if_neg (show ¬ iv (PN A) ≤ iv i by rw [iv_le (by omega) (by omega) (by omega) (by omega)]; omega), show iv 0 = (0 : Int32) from rfl, L25_v hR2 hA hi g3 g4 kk (iv i)]
        unfold mX10_layGroups_j74
        simp only [gI_k kS_91, bs, g1.1, shl_v (show nth A i < 31 by omega), or_v]
        rw [show (1 : Int32) = iv 1 from rfl, iv_sub, L94_v hR2 hA hi g1 kk _ (iv i) (grp A i).1 lpF (grp A i).1 (by unfold lpF; omega) (by omega) (Or.inr ⟨rfl, fun g' a b => by omega⟩)]
        unfold mX10_layGroups_j179
        simp only [gI_k kS_91, bs, g1.1]
        have fin : mX10_layGroups_j206 S1 91 kk m3 (iv ((u ||| 2 ^ nth A i : Nat) : Int)) (iv i) (iv (nth A i)) (iv (gto A i)) = kk (m4, iv ((u ||| 2 ^ nth A i : Nat) : Int), iv ((i + 1 : Nat) : Int)) := by
          unfold mX10_layGroups_j206
          simp only [rS_91_21, bs, aI_k kS_102 lS_102 (i := (gto A i : Int)) (by omega) (by omega) (by omega), uI_k kS_102 lS_102 (i := (gto A i : Int)) (by omega) (by omega) (by omega), Int.toNat_natCast, h368, shl_v (show nth A i < 31 by omega), or_v]
          rw [show (1 : Int32) = iv 1 from rfl, iv_add]
          refine congrArg kk (Prod.ext (Prod.ext ?_ rfl) (Prod.ext rfl (congrArg iv (by omega))))
          show up2 m3.1 102 (gto A i) _ = up2 m3.1 102 (gto A i) (iv ((grp A (i + 1)).2.1 (gto A i)))
          rw [grp_succ]
          simp [va_up]
        rw [← fin]
        by_cases c : gto A i = (grp A i).1
        · rw [if_pos (by rw [c])]
          simp only [rS_91_21, bs, uI_k kS_102 lS_102 (i := (gto A i : Int)) (by omega) (by omega) (by omega), Int.toNat_natCast, gI_k kS_91, sI_k kS_91, up2_r m2.1 _ _ (show (91 : Nat) ≠ 102 by decide), g1.1, show (1 : Int32) = iv 1 from rfl, iv_add]
          have : m3 = (up2 (up2 m2.1 102 (gto A i) 0) 91 20 (iv ((grp A i).1 + 1 : Nat)), m2.2) := if_pos c
          rw [this]
          rfl
        · rw [if_neg (show ¬ iv (gto A i) = iv (grp A i).1 by rw [iv_eq (by omega) (by omega) (by omega) (by omega)]; omega)]
          have : m3 = m2 := if_neg c
          rw [this]
      rw [show lpn (mX10_layGroups_L9 S1 91) (n + 1) (m2, iv u, iv i) = lpn (mX10_layGroups_L9 S1 91) n (m4, iv ((u ||| 2 ^ nth A i : Nat) : Int), iv ((i + 1 : Nat) : Int)) from hstep _]
      refine ih (i + 1) n (u ||| 2 ^ nth A i) m4 (by omega) (by omega) ⟨?_, fun g hg => ?_⟩ (g2.trans fr4) (or_lt g3 (by omega)) (fun j => ?_)
      · show up2 m3.1 102 (gto A i) (iv ((grp A (i + 1)).2.1 (gto A i))) 91 20 = _
        rw [up2_r _ _ _ (by decide)]; exact h367
      · show up2 m3.1 102 (gto A i) (iv ((grp A (i + 1)).2.1 (gto A i))) 102 g = _
        by_cases c : g = gto A i
        · rw [c, up2_s]
        · rw [up2_k _ _ _ _ c, h368k g c, grp_succ]
          show _ = iv ((va_up (grp A i).2.1 (gto A i) _ g : Nat) : Int)
          rw [show ∀ v, va_up (grp A i).2.1 (gto A i) v g = (grp A i).2.1 g from fun v => by simp [va_up, c]]
          refine g1.2 g ?_
          rw [grp_succ] at hg
          have hg : g < (if gto A i = (grp A i).1 then (grp A i).1 + 1 else (grp A i).1) := hg
          split at hg <;> omega
      · rw [or_bit, picks_succ, List.mem_append, List.mem_singleton, Bool.or_eq_true, g4 j, decide_eq_true_eq]
        exact ⟨fun h => h.imp id Eq.symm, fun h => h.imp id Eq.symm⟩
  exact key (PN A) 0 lpF 0 (up2 me.1 91 20 0, me.2) (by omega) (by unfold lpF; omega) ⟨up2_s me.1 91 20 0, fun g hg => absurd hg (Nat.not_lt_zero g)⟩ (FrM.up20 (by omega)) (by omega) (fun j => by simp [picks])
