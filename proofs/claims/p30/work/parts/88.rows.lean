/-! how many states are kept after one more, and from where -/
def kp1 (s : Nat) : Nat := if s = 4 then 4 else s + 1
def sh1 (s k : Nat) : Nat := if s = 4 then k + 1 else k
