theorem oText (a b : Int32) : zOk 139 269 [.int a, .int b] := sorry
