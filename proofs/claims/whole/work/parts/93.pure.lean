def mem0 : ME := (fun _ _ => 0, fun _ _ => 0)
def sh0 : SH := ([], fun _ _ => none)
theorem law_true (L : Nat) (xs : Nat → Int32) (hL : L ≤ 3072) : mL_law sh0 mem0 L xs = some 1 := sorry
