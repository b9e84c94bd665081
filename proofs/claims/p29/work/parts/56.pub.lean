theorem nn10 : ((1 : Nat) = 0) = False := eq_false (by decide)
theorem nn20 : ((2 : Nat) = 0) = False := eq_false (by decide)
theorem nn30 : ((3 : Nat) = 0) = False := eq_false (by decide)
theorem nn21 : ((2 : Nat) = 1) = False := eq_false (by decide)
theorem nn31 : ((3 : Nat) = 1) = False := eq_false (by decide)
theorem nn32 : ((3 : Nat) = 2) = False := eq_false (by decide)
section
variable {P C n al : Nat} {eg em : Nat → Nat} {tl mg mt : Nat → Int32}
end
