def zkl : List (Nat × Nat) := []
def zsfl : List Int64 := []
def zstr : List (List Int32) := []
