def ltF (x : Int32) : Int32 := if ¬ (x < 97 ∨ 122 < x) ∨ ¬ (x < 65 ∨ 90 < x) then 1 else 0
def smF (x : Int32) : Int32 := if x < 65 ∨ 90 < x then x else x + 32
def hereF (L : Nat) (T : Nat → Int32) (a : Nat) : Int32 := if a < L then T a else -1
