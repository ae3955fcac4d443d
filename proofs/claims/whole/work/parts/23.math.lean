/-! THE MATHEMATICS: the law's pure function comes to 1 -/
def gx_I0 : gx_F := fun k n => if k = 44 then (if n = 10 then -1 else 0) else if k = 51 then (if n = 1 ∨ n = 2 then -1 else 0) else if k < 44 then (if n = 4 then 2 else if n = 5 then -1 else 0) else 0
def gx_V0s : gx_F := fun k n => if k < 44 then (if k % 4 = 2 then gx_str n else if k % 4 = 3 then -1 else 0) else 0
def gx_J0 : gx_F := fun k n => if k = 58 ∧ n = 15 then -1 else 0
def gx_U0 : gx_F := fun k n => if k = 59 then gx_g0 n else 0
theorem gx_math (xs : Nat → Int32) (L : Nat) (hL : L ≤ 2560) : f_law_L xs L 1000 0 gx_I0 gx_V0s gx_J0 gx_U0 0 0 = some 1 := sorry
