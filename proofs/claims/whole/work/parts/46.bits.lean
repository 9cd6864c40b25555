/-! ===== bits of a set ===== -/
def pc (b : Nat) : Nat := b % 2 + b / 2 % 2 + b / 4 % 2 + b / 8 % 2 + b / 16 % 2 + b / 32 % 2 + b / 64 % 2 + b / 128 % 2 + b / 256 % 2
def bcv (x : Int32) : Int32 := ((mJ6_bitCount_0f7a4 sh0 mem0 x).getD (0, mem0)).1
theorem bc_all : ∀ b, b < 512 → bcv (nI b) = nI (pc b) := by decide +kernel
theorem bitCount_v (S : SH) (me : ME) {b : Nat} (h : b < 512) : mJ6_bitCount_0f7a4 S me (iv b) = some (iv (pc b), me) := by
  have e : mJ6_bitCount_0f7a4 S me (iv b) = some (bcv (iv b), me) := rfl
  rw [e, ← iv_nI, bc_all b h, iv_nI]
theorem low_all : ∀ b, b < 512 → b ≠ 0 → nI b &&& (nI b - 1) = nI (b &&& (b - 1)) ∧ pc (b &&& (b - 1)) + 1 = pc b ∧ b &&& (b - 1) < b := by decide +kernel
theorem pc_0 : ∀ b, b < 512 → pc b = 0 → b = 0 := by decide +kernel
theorem pc_le (b : Nat) : pc b ≤ 9 := by unfold pc; omega
theorem bits_v (S : SH) (me : ME) {b : Nat} (h : b < 512) : mX10_bits S me (iv b) = some (iv (pc b), me) := by
  unfold mX10_bits
  refine lpn_mu (P := fun s => ∃ c : Nat, c < 512 ∧ pc c ≤ pc b ∧ s = (me, iv ((pc b - pc c : Nat) : Int), iv c)) (μ := fun s => s.2.2.toNatClampNeg) ?_ lpF _ ?_ ⟨b, h, Nat.le_refl _, by rw [Nat.sub_self]; rfl⟩
  · rintro s kk ⟨c, c1, c2, rfl⟩
    unfold mX10_bits_L4 mX10_bits_j20
    simp only []
    by_cases z : c = 0
    · right
      subst z
      rw [if_pos (show iv ((0 : Nat) : Int) = 0 from rfl)]
      rfl
    · left
      obtain ⟨q1, q2, q3⟩ := low_all c c1 z
      refine ⟨(me, iv ((pc b - pc (c &&& (c - 1)) : Nat) : Int), iv ((c &&& (c - 1) : Nat) : Int)), ⟨_, by omega, by omega, rfl⟩, ?_, ?_⟩
      · show (iv ((c &&& (c - 1) : Nat) : Int)).toNatClampNeg < (iv (c : Int)).toNatClampNeg
        rw [iv_clamp (by omega) (by omega), iv_clamp (by omega) (by omega)]
        omega
      · rw [if_neg (show ¬ iv c = 0 by rw [show (0 : Int32) = iv 0 from rfl, iv_eq (by omega) (by omega) (by omega) (by omega)]; omega)]
        rw [iv_nI, iv_nI] at q1
        rw [q1, show (1 : Int32) = iv 1 from rfl, iv_add]
        exact congrArg kk (Prod.ext rfl (Prod.ext (congrArg iv (by omega)) rfl))
  · show (iv (b : Int)).toNatClampNeg < lpF
    rw [iv_clamp (by omega) (by omega)]
    unfold lpF
    omega
theorem and_v (a b : Nat) : iv a &&& iv b = iv ((a &&& b : Nat) : Int) := by
  rw [← iv_nI, ← iv_nI, ← iv_nI]
  apply Int32.toBitVec_inj.mp
  simp [nI]
/-- the bits of g that s has not -/
def dm (g s : Nat) : Nat := g ^^^ (g &&& s)
theorem dm_bit (g s i : Nat) : (dm g s).testBit i = (g.testBit i && !s.testBit i) := by
  unfold dm
  rw [Nat.testBit_xor, Nat.testBit_and]
  cases g.testBit i <;> cases s.testBit i <;> rfl
theorem ofN_bit {n i : Nat} (hi : i < 32) : (BitVec.ofNat 32 n)[i] = n.testBit i := by
  rw [BitVec.getElem_eq_testBit_toNat, BitVec.toNat_ofNat, Nat.testBit_mod_two_pow]
  simp [hi]
theorem dm_v (g s : Nat) : iv g &&& (iv s ^^^ (-1 : Int32)) = iv ((dm g s : Nat) : Int) := by
  rw [← iv_nI, ← iv_nI, ← iv_nI]
  apply Int32.toBitVec_inj.mp
  apply BitVec.eq_of_getLsbD_eq
  intro i hi
  have e1 : ((nI g &&& (nI s ^^^ (-1 : Int32))).toBitVec).getLsbD i = (g.testBit i && !s.testBit i) := by
    simp [nI, hi, ofN_bit]
  have e2 : (nI (dm g s)).toBitVec.getLsbD i = (dm g s).testBit i := by
    simp [nI, hi, ofN_bit]
  rw [e1, e2, dm_bit]
theorem dm_le (g s : Nat) {n : Nat} (h : g < 2 ^ n) : dm g s < 2 ^ n := by
  apply Nat.lt_pow_two_of_testBit
  intro i hi
  rw [dm_bit, Nat.testBit_lt_two_pow (Nat.lt_of_lt_of_le h (Nat.pow_le_pow_right (by decide) hi))]
  rfl
theorem dm_0 (g s : Nat) : dm g s = 0 ↔ g &&& s = g := by
  constructor
  · intro h
    apply Nat.eq_of_testBit_eq
    intro i
    have : (dm g s).testBit i = false := by rw [h]; exact Nat.zero_testBit i
    rw [dm_bit] at this
    rw [Nat.testBit_and]
    cases hg : g.testBit i <;> cases hs : s.testBit i <;> simp_all
  · intro h
    apply Nat.eq_of_testBit_eq
    intro i
    have : (g &&& s).testBit i = g.testBit i := by rw [h]
    rw [Nat.testBit_and] at this
    rw [dm_bit, Nat.zero_testBit]
    cases hg : g.testBit i <;> cases hs : s.testBit i <;> simp_all
theorem sub_le {a g : Nat} (h : a &&& g = a) : a ≤ g := by rw [← h]; exact Nat.and_le_right
theorem sub_bit {a g : Nat} (h : a &&& g = a) {i : Nat} (hi : a.testBit i = true) : g.testBit i = true := by
  rw [← h, Nat.testBit_and] at hi
  cases hg : g.testBit i <;> simp_all
theorem isPart_v (S : SH) (me : ME) {a g n : Nat} (ha : a < 512) (hg : g < 512) (hn : n < 512) : mX0_isPart S me (iv a) (iv g) (iv n) = some (if a &&& g = a ∧ pc a = n then 1 else 0, me) := by
  have hd : dm a g < 512 := dm_le a g (n := 9) ha
  have hp := pc_le a
  unfold mX0_isPart mX0_isPart_j20 mX0_isPart_j21
  rw [dm_v]
  by_cases c : a &&& g = a
  · rw [if_pos (by rw [(dm_0 a g).mpr c]; rfl)]
    simp only [bitCount_v S me ha, bs]
    by_cases c2 : pc a = n
    · rw [if_pos (by rw [c2]), if_pos (Or.inr trivial), if_pos ⟨c, c2⟩]
    · rw [if_neg (iv_ne (by omega) (by omega) (by omega) (by omega) (by omega)), if_pos (Or.inl trivial), if_neg (fun q => c2 q.2)]
  · rw [if_neg (show ¬ iv ((dm a g : Nat) : Int) = 0 from fun q => c ((dm_0 a g).mp (by
      rw [show (0 : Int32) = iv 0 from rfl, iv_eq (by omega) (by omega) (by omega) (by omega)] at q
      omega))), if_pos (Or.inl rfl), if_neg (fun q => c q.1)]
