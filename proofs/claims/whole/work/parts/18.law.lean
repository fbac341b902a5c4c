/-! THE CLAIM OUT OF THE SMALL MACHINE: what stands at the law's entry -/
def zFL : List Cond := flatC (Jvm.Cond.and given_1 narrow_1)
def zstm (i : Nat) : Term := match znth zstq i with
  | some q => .string q.1 q.2.1
  | none => .string "" 0
def zstv (i : Nat) : Term := .field (zstm i) "java/lang/String" "value" "[B"
def zix (l : List (List Nat)) (i j : Nat) : Nat := zax ((znth l i).getD []) j
def zi1 : List (List Nat) := [[44, 45, 46, 47], [52, 53, 54, 55], [62, 63, 64, 65], [73, 74, 75, 76], [82, 83, 84, 85], [95, 96, 97, 98], [107, 108, 109, 110], [121, 122, 123, 124], [136, 137, 138, 139], [153, 154, 155, 156], [168, 169, 170, 171], [186, 187, 188, 189], [204, 205, 206, 207], [223, 224, 225, 226], [242, 243, 244, 245]]
def zi2 : List (List Nat) := [[48, 49, 50, 51], [56, 57, 58, 59, 60], [66, 67, 68, 69, 70], [77, 78], [86, 87, 88, 89, 90], [99, 100, 101], [111, 112, 113, 114], [125, 126, 127, 128], [140, 141, 142, 143, 144], [157, 158], [172, 173, 174, 175], [190, 191, 192], [208, 209, 210], [227, 228], [246, 247, 248, 249, 250, 251, 252, 253, 254, 255, 256, 257, 258, 259, 260, 261, 262, 263, 264, 265, 266, 267, 268, 269, 270, 271, 272, 273, 274, 275, 276, 277, 278, 279, 280, 281, 282, 283, 284, 285, 286, 287, 288, 289, 290, 291, 292, 293, 294, 295, 296, 297, 298, 299, 300, 301, 302, 303, 304, 305, 306, 307, 308, 309, 310, 311]]
def zi3 : List (List Nat) := [[0, 61, 71, 79, 91, 102, 115, 129, 145, 159, 176, 193, 211, 229, 312], [61, 0, 72, 80, 92, 103, 116, 130, 146, 160, 177, 194, 212, 230, 313], [71, 72, 0, 81, 93, 104, 117, 131, 147, 161, 178, 195, 213, 231, 314], [79, 80, 81, 0, 94, 105, 118, 132, 148, 162, 179, 196, 214, 232, 315], [91, 92, 93, 94, 0, 106, 119, 133, 149, 163, 180, 197, 215, 233, 316], [102, 103, 104, 105, 106, 0, 120, 134, 150, 164, 181, 198, 216, 234, 317], [115, 116, 117, 118, 119, 120, 0, 135, 151, 165, 182, 199, 217, 235, 318], [129, 130, 131, 132, 133, 134, 135, 0, 152, 166, 183, 200, 218, 236, 319], [145, 146, 147, 148, 149, 150, 151, 152, 0, 167, 184, 201, 219, 237, 320], [159, 160, 161, 162, 163, 164, 165, 166, 167, 0, 185, 202, 220, 238, 321], [176, 177, 178, 179, 180, 181, 182, 183, 184, 185, 0, 203, 221, 239, 322], [193, 194, 195, 196, 197, 198, 199, 200, 201, 202, 203, 0, 222, 240, 323], [211, 212, 213, 214, 215, 216, 217, 218, 219, 220, 221, 222, 0, 241, 324], [229, 230, 231, 232, 233, 234, 235, 236, 237, 238, 239, 240, 241, 0, 325], [312, 313, 314, 315, 316, 317, 318, 319, 320, 321, 322, 323, 324, 325, 0]]
theorem zFL_in {k : Nat} {c : Cond} (h : zFL[k]? = some c) : c ∈ zFL := List.mem_of_getElem? h
theorem zsc1_0 : (decide (zFL[zix zi1 0 0]? = some (Cond.exactly (zstm 0) "java/lang/String")) && (decide (zFL[zix zi1 0 1]? = some (Cond.eq (.field (zstm 0) "java/lang/String" "coder" "B") (.int 0))) && (decide (zFL[zix zi1 0 2]? = some (Cond.arrayOf (zstv 0) .byte)) && decide (zFL[zix zi1 0 3]? = some (Cond.eq (.length (zstv 0)) (.int (Int32.ofNat ((zstr.map List.length).getD 0 0)))))))) = true := by decide +kernel
theorem zsc2_0 : (List.range ((zstr.map List.length).getD 0 0)).all (fun j => decide (zFL[zix zi2 0 j]? = some (Cond.eq (.elem (zstv 0) (.int (Int32.ofNat j))) (.int ((zstr.getD 0 []).getD j 0))))) = true := by decide +kernel
theorem zsc3_0 : (List.range zstr.length).all (fun j => decide (0 = j) || (decide (zFL[zix zi3 0 j]? = some (Cond.not (Cond.eq (zstm 0) (zstm j)))) || decide (zFL[zix zi3 0 j]? = some (Cond.not (Cond.eq (zstm j) (zstm 0)))))) = true := by decide +kernel
theorem zsc1_1 : (decide (zFL[zix zi1 1 0]? = some (Cond.exactly (zstm 1) "java/lang/String")) && (decide (zFL[zix zi1 1 1]? = some (Cond.eq (.field (zstm 1) "java/lang/String" "coder" "B") (.int 0))) && (decide (zFL[zix zi1 1 2]? = some (Cond.arrayOf (zstv 1) .byte)) && decide (zFL[zix zi1 1 3]? = some (Cond.eq (.length (zstv 1)) (.int (Int32.ofNat ((zstr.map List.length).getD 1 0)))))))) = true := by decide +kernel
theorem zsc2_1 : (List.range ((zstr.map List.length).getD 1 0)).all (fun j => decide (zFL[zix zi2 1 j]? = some (Cond.eq (.elem (zstv 1) (.int (Int32.ofNat j))) (.int ((zstr.getD 1 []).getD j 0))))) = true := by decide +kernel
theorem zsc3_1 : (List.range zstr.length).all (fun j => decide (1 = j) || (decide (zFL[zix zi3 1 j]? = some (Cond.not (Cond.eq (zstm 1) (zstm j)))) || decide (zFL[zix zi3 1 j]? = some (Cond.not (Cond.eq (zstm j) (zstm 1)))))) = true := by decide +kernel
theorem zsc1_2 : (decide (zFL[zix zi1 2 0]? = some (Cond.exactly (zstm 2) "java/lang/String")) && (decide (zFL[zix zi1 2 1]? = some (Cond.eq (.field (zstm 2) "java/lang/String" "coder" "B") (.int 0))) && (decide (zFL[zix zi1 2 2]? = some (Cond.arrayOf (zstv 2) .byte)) && decide (zFL[zix zi1 2 3]? = some (Cond.eq (.length (zstv 2)) (.int (Int32.ofNat ((zstr.map List.length).getD 2 0)))))))) = true := by decide +kernel
theorem zsc2_2 : (List.range ((zstr.map List.length).getD 2 0)).all (fun j => decide (zFL[zix zi2 2 j]? = some (Cond.eq (.elem (zstv 2) (.int (Int32.ofNat j))) (.int ((zstr.getD 2 []).getD j 0))))) = true := by decide +kernel
theorem zsc3_2 : (List.range zstr.length).all (fun j => decide (2 = j) || (decide (zFL[zix zi3 2 j]? = some (Cond.not (Cond.eq (zstm 2) (zstm j)))) || decide (zFL[zix zi3 2 j]? = some (Cond.not (Cond.eq (zstm j) (zstm 2)))))) = true := by decide +kernel
theorem zsc1_3 : (decide (zFL[zix zi1 3 0]? = some (Cond.exactly (zstm 3) "java/lang/String")) && (decide (zFL[zix zi1 3 1]? = some (Cond.eq (.field (zstm 3) "java/lang/String" "coder" "B") (.int 0))) && (decide (zFL[zix zi1 3 2]? = some (Cond.arrayOf (zstv 3) .byte)) && decide (zFL[zix zi1 3 3]? = some (Cond.eq (.length (zstv 3)) (.int (Int32.ofNat ((zstr.map List.length).getD 3 0)))))))) = true := by decide +kernel
theorem zsc2_3 : (List.range ((zstr.map List.length).getD 3 0)).all (fun j => decide (zFL[zix zi2 3 j]? = some (Cond.eq (.elem (zstv 3) (.int (Int32.ofNat j))) (.int ((zstr.getD 3 []).getD j 0))))) = true := by decide +kernel
theorem zsc3_3 : (List.range zstr.length).all (fun j => decide (3 = j) || (decide (zFL[zix zi3 3 j]? = some (Cond.not (Cond.eq (zstm 3) (zstm j)))) || decide (zFL[zix zi3 3 j]? = some (Cond.not (Cond.eq (zstm j) (zstm 3)))))) = true := by decide +kernel
theorem zsc1_4 : (decide (zFL[zix zi1 4 0]? = some (Cond.exactly (zstm 4) "java/lang/String")) && (decide (zFL[zix zi1 4 1]? = some (Cond.eq (.field (zstm 4) "java/lang/String" "coder" "B") (.int 0))) && (decide (zFL[zix zi1 4 2]? = some (Cond.arrayOf (zstv 4) .byte)) && decide (zFL[zix zi1 4 3]? = some (Cond.eq (.length (zstv 4)) (.int (Int32.ofNat ((zstr.map List.length).getD 4 0)))))))) = true := by decide +kernel
theorem zsc2_4 : (List.range ((zstr.map List.length).getD 4 0)).all (fun j => decide (zFL[zix zi2 4 j]? = some (Cond.eq (.elem (zstv 4) (.int (Int32.ofNat j))) (.int ((zstr.getD 4 []).getD j 0))))) = true := by decide +kernel
theorem zsc3_4 : (List.range zstr.length).all (fun j => decide (4 = j) || (decide (zFL[zix zi3 4 j]? = some (Cond.not (Cond.eq (zstm 4) (zstm j)))) || decide (zFL[zix zi3 4 j]? = some (Cond.not (Cond.eq (zstm j) (zstm 4)))))) = true := by decide +kernel
theorem zsc1_5 : (decide (zFL[zix zi1 5 0]? = some (Cond.exactly (zstm 5) "java/lang/String")) && (decide (zFL[zix zi1 5 1]? = some (Cond.eq (.field (zstm 5) "java/lang/String" "coder" "B") (.int 0))) && (decide (zFL[zix zi1 5 2]? = some (Cond.arrayOf (zstv 5) .byte)) && decide (zFL[zix zi1 5 3]? = some (Cond.eq (.length (zstv 5)) (.int (Int32.ofNat ((zstr.map List.length).getD 5 0)))))))) = true := by decide +kernel
theorem zsc2_5 : (List.range ((zstr.map List.length).getD 5 0)).all (fun j => decide (zFL[zix zi2 5 j]? = some (Cond.eq (.elem (zstv 5) (.int (Int32.ofNat j))) (.int ((zstr.getD 5 []).getD j 0))))) = true := by decide +kernel
theorem zsc3_5 : (List.range zstr.length).all (fun j => decide (5 = j) || (decide (zFL[zix zi3 5 j]? = some (Cond.not (Cond.eq (zstm 5) (zstm j)))) || decide (zFL[zix zi3 5 j]? = some (Cond.not (Cond.eq (zstm j) (zstm 5)))))) = true := by decide +kernel
theorem zsc1_6 : (decide (zFL[zix zi1 6 0]? = some (Cond.exactly (zstm 6) "java/lang/String")) && (decide (zFL[zix zi1 6 1]? = some (Cond.eq (.field (zstm 6) "java/lang/String" "coder" "B") (.int 0))) && (decide (zFL[zix zi1 6 2]? = some (Cond.arrayOf (zstv 6) .byte)) && decide (zFL[zix zi1 6 3]? = some (Cond.eq (.length (zstv 6)) (.int (Int32.ofNat ((zstr.map List.length).getD 6 0)))))))) = true := by decide +kernel
theorem zsc2_6 : (List.range ((zstr.map List.length).getD 6 0)).all (fun j => decide (zFL[zix zi2 6 j]? = some (Cond.eq (.elem (zstv 6) (.int (Int32.ofNat j))) (.int ((zstr.getD 6 []).getD j 0))))) = true := by decide +kernel
theorem zsc3_6 : (List.range zstr.length).all (fun j => decide (6 = j) || (decide (zFL[zix zi3 6 j]? = some (Cond.not (Cond.eq (zstm 6) (zstm j)))) || decide (zFL[zix zi3 6 j]? = some (Cond.not (Cond.eq (zstm j) (zstm 6)))))) = true := by decide +kernel
theorem zsc1_7 : (decide (zFL[zix zi1 7 0]? = some (Cond.exactly (zstm 7) "java/lang/String")) && (decide (zFL[zix zi1 7 1]? = some (Cond.eq (.field (zstm 7) "java/lang/String" "coder" "B") (.int 0))) && (decide (zFL[zix zi1 7 2]? = some (Cond.arrayOf (zstv 7) .byte)) && decide (zFL[zix zi1 7 3]? = some (Cond.eq (.length (zstv 7)) (.int (Int32.ofNat ((zstr.map List.length).getD 7 0)))))))) = true := by decide +kernel
theorem zsc2_7 : (List.range ((zstr.map List.length).getD 7 0)).all (fun j => decide (zFL[zix zi2 7 j]? = some (Cond.eq (.elem (zstv 7) (.int (Int32.ofNat j))) (.int ((zstr.getD 7 []).getD j 0))))) = true := by decide +kernel
theorem zsc3_7 : (List.range zstr.length).all (fun j => decide (7 = j) || (decide (zFL[zix zi3 7 j]? = some (Cond.not (Cond.eq (zstm 7) (zstm j)))) || decide (zFL[zix zi3 7 j]? = some (Cond.not (Cond.eq (zstm j) (zstm 7)))))) = true := by decide +kernel
theorem zsc1_8 : (decide (zFL[zix zi1 8 0]? = some (Cond.exactly (zstm 8) "java/lang/String")) && (decide (zFL[zix zi1 8 1]? = some (Cond.eq (.field (zstm 8) "java/lang/String" "coder" "B") (.int 0))) && (decide (zFL[zix zi1 8 2]? = some (Cond.arrayOf (zstv 8) .byte)) && decide (zFL[zix zi1 8 3]? = some (Cond.eq (.length (zstv 8)) (.int (Int32.ofNat ((zstr.map List.length).getD 8 0)))))))) = true := by decide +kernel
theorem zsc2_8 : (List.range ((zstr.map List.length).getD 8 0)).all (fun j => decide (zFL[zix zi2 8 j]? = some (Cond.eq (.elem (zstv 8) (.int (Int32.ofNat j))) (.int ((zstr.getD 8 []).getD j 0))))) = true := by decide +kernel
theorem zsc3_8 : (List.range zstr.length).all (fun j => decide (8 = j) || (decide (zFL[zix zi3 8 j]? = some (Cond.not (Cond.eq (zstm 8) (zstm j)))) || decide (zFL[zix zi3 8 j]? = some (Cond.not (Cond.eq (zstm j) (zstm 8)))))) = true := by decide +kernel
theorem zsc1_9 : (decide (zFL[zix zi1 9 0]? = some (Cond.exactly (zstm 9) "java/lang/String")) && (decide (zFL[zix zi1 9 1]? = some (Cond.eq (.field (zstm 9) "java/lang/String" "coder" "B") (.int 0))) && (decide (zFL[zix zi1 9 2]? = some (Cond.arrayOf (zstv 9) .byte)) && decide (zFL[zix zi1 9 3]? = some (Cond.eq (.length (zstv 9)) (.int (Int32.ofNat ((zstr.map List.length).getD 9 0)))))))) = true := by decide +kernel
theorem zsc2_9 : (List.range ((zstr.map List.length).getD 9 0)).all (fun j => decide (zFL[zix zi2 9 j]? = some (Cond.eq (.elem (zstv 9) (.int (Int32.ofNat j))) (.int ((zstr.getD 9 []).getD j 0))))) = true := by decide +kernel
theorem zsc3_9 : (List.range zstr.length).all (fun j => decide (9 = j) || (decide (zFL[zix zi3 9 j]? = some (Cond.not (Cond.eq (zstm 9) (zstm j)))) || decide (zFL[zix zi3 9 j]? = some (Cond.not (Cond.eq (zstm j) (zstm 9)))))) = true := by decide +kernel
theorem zsc1_10 : (decide (zFL[zix zi1 10 0]? = some (Cond.exactly (zstm 10) "java/lang/String")) && (decide (zFL[zix zi1 10 1]? = some (Cond.eq (.field (zstm 10) "java/lang/String" "coder" "B") (.int 0))) && (decide (zFL[zix zi1 10 2]? = some (Cond.arrayOf (zstv 10) .byte)) && decide (zFL[zix zi1 10 3]? = some (Cond.eq (.length (zstv 10)) (.int (Int32.ofNat ((zstr.map List.length).getD 10 0)))))))) = true := by decide +kernel
theorem zsc2_10 : (List.range ((zstr.map List.length).getD 10 0)).all (fun j => decide (zFL[zix zi2 10 j]? = some (Cond.eq (.elem (zstv 10) (.int (Int32.ofNat j))) (.int ((zstr.getD 10 []).getD j 0))))) = true := by decide +kernel
theorem zsc3_10 : (List.range zstr.length).all (fun j => decide (10 = j) || (decide (zFL[zix zi3 10 j]? = some (Cond.not (Cond.eq (zstm 10) (zstm j)))) || decide (zFL[zix zi3 10 j]? = some (Cond.not (Cond.eq (zstm j) (zstm 10)))))) = true := by decide +kernel
theorem zsc1_11 : (decide (zFL[zix zi1 11 0]? = some (Cond.exactly (zstm 11) "java/lang/String")) && (decide (zFL[zix zi1 11 1]? = some (Cond.eq (.field (zstm 11) "java/lang/String" "coder" "B") (.int 0))) && (decide (zFL[zix zi1 11 2]? = some (Cond.arrayOf (zstv 11) .byte)) && decide (zFL[zix zi1 11 3]? = some (Cond.eq (.length (zstv 11)) (.int (Int32.ofNat ((zstr.map List.length).getD 11 0)))))))) = true := by decide +kernel
theorem zsc2_11 : (List.range ((zstr.map List.length).getD 11 0)).all (fun j => decide (zFL[zix zi2 11 j]? = some (Cond.eq (.elem (zstv 11) (.int (Int32.ofNat j))) (.int ((zstr.getD 11 []).getD j 0))))) = true := by decide +kernel
theorem zsc3_11 : (List.range zstr.length).all (fun j => decide (11 = j) || (decide (zFL[zix zi3 11 j]? = some (Cond.not (Cond.eq (zstm 11) (zstm j)))) || decide (zFL[zix zi3 11 j]? = some (Cond.not (Cond.eq (zstm j) (zstm 11)))))) = true := by decide +kernel
theorem zsc1_12 : (decide (zFL[zix zi1 12 0]? = some (Cond.exactly (zstm 12) "java/lang/String")) && (decide (zFL[zix zi1 12 1]? = some (Cond.eq (.field (zstm 12) "java/lang/String" "coder" "B") (.int 0))) && (decide (zFL[zix zi1 12 2]? = some (Cond.arrayOf (zstv 12) .byte)) && decide (zFL[zix zi1 12 3]? = some (Cond.eq (.length (zstv 12)) (.int (Int32.ofNat ((zstr.map List.length).getD 12 0)))))))) = true := by decide +kernel
theorem zsc2_12 : (List.range ((zstr.map List.length).getD 12 0)).all (fun j => decide (zFL[zix zi2 12 j]? = some (Cond.eq (.elem (zstv 12) (.int (Int32.ofNat j))) (.int ((zstr.getD 12 []).getD j 0))))) = true := by decide +kernel
theorem zsc3_12 : (List.range zstr.length).all (fun j => decide (12 = j) || (decide (zFL[zix zi3 12 j]? = some (Cond.not (Cond.eq (zstm 12) (zstm j)))) || decide (zFL[zix zi3 12 j]? = some (Cond.not (Cond.eq (zstm j) (zstm 12)))))) = true := by decide +kernel
theorem zsc1_13 : (decide (zFL[zix zi1 13 0]? = some (Cond.exactly (zstm 13) "java/lang/String")) && (decide (zFL[zix zi1 13 1]? = some (Cond.eq (.field (zstm 13) "java/lang/String" "coder" "B") (.int 0))) && (decide (zFL[zix zi1 13 2]? = some (Cond.arrayOf (zstv 13) .byte)) && decide (zFL[zix zi1 13 3]? = some (Cond.eq (.length (zstv 13)) (.int (Int32.ofNat ((zstr.map List.length).getD 13 0)))))))) = true := by decide +kernel
theorem zsc2_13 : (List.range ((zstr.map List.length).getD 13 0)).all (fun j => decide (zFL[zix zi2 13 j]? = some (Cond.eq (.elem (zstv 13) (.int (Int32.ofNat j))) (.int ((zstr.getD 13 []).getD j 0))))) = true := by decide +kernel
theorem zsc3_13 : (List.range zstr.length).all (fun j => decide (13 = j) || (decide (zFL[zix zi3 13 j]? = some (Cond.not (Cond.eq (zstm 13) (zstm j)))) || decide (zFL[zix zi3 13 j]? = some (Cond.not (Cond.eq (zstm j) (zstm 13)))))) = true := by decide +kernel
theorem zsc1_14 : (decide (zFL[zix zi1 14 0]? = some (Cond.exactly (zstm 14) "java/lang/String")) && (decide (zFL[zix zi1 14 1]? = some (Cond.eq (.field (zstm 14) "java/lang/String" "coder" "B") (.int 0))) && (decide (zFL[zix zi1 14 2]? = some (Cond.arrayOf (zstv 14) .byte)) && decide (zFL[zix zi1 14 3]? = some (Cond.eq (.length (zstv 14)) (.int (Int32.ofNat ((zstr.map List.length).getD 14 0)))))))) = true := by decide +kernel
theorem zsc2_14 : (List.range ((zstr.map List.length).getD 14 0)).all (fun j => decide (zFL[zix zi2 14 j]? = some (Cond.eq (.elem (zstv 14) (.int (Int32.ofNat j))) (.int ((zstr.getD 14 []).getD j 0))))) = true := by decide +kernel
theorem zsc3_14 : (List.range zstr.length).all (fun j => decide (14 = j) || (decide (zFL[zix zi3 14 j]? = some (Cond.not (Cond.eq (zstm 14) (zstm j)))) || decide (zFL[zix zi3 14 j]? = some (Cond.not (Cond.eq (zstm j) (zstm 14)))))) = true := by decide +kernel
theorem zsc1 : ∀ i, i < zstr.length → (decide (zFL[zix zi1 i 0]? = some (Cond.exactly (zstm i) "java/lang/String")) && (decide (zFL[zix zi1 i 1]? = some (Cond.eq (.field (zstm i) "java/lang/String" "coder" "B") (.int 0))) && (decide (zFL[zix zi1 i 2]? = some (Cond.arrayOf (zstv i) .byte)) && decide (zFL[zix zi1 i 3]? = some (Cond.eq (.length (zstv i)) (.int (Int32.ofNat ((zstr.map List.length).getD i 0)))))))) = true := by
  intro i hi
  match i, hi with
  | 0, _ => exact zsc1_0
  | 1, _ => exact zsc1_1
  | 2, _ => exact zsc1_2
  | 3, _ => exact zsc1_3
  | 4, _ => exact zsc1_4
  | 5, _ => exact zsc1_5
  | 6, _ => exact zsc1_6
  | 7, _ => exact zsc1_7
  | 8, _ => exact zsc1_8
  | 9, _ => exact zsc1_9
  | 10, _ => exact zsc1_10
  | 11, _ => exact zsc1_11
  | 12, _ => exact zsc1_12
  | 13, _ => exact zsc1_13
  | 14, _ => exact zsc1_14
  | i + 15, hi => exact absurd hi (by show ¬ i + 15 < 15; omega)
theorem zsc2 : ∀ i, i < zstr.length → (List.range ((zstr.map List.length).getD i 0)).all (fun j => decide (zFL[zix zi2 i j]? = some (Cond.eq (.elem (zstv i) (.int (Int32.ofNat j))) (.int ((zstr.getD i []).getD j 0))))) = true := by
  intro i hi
  match i, hi with
  | 0, _ => exact zsc2_0
  | 1, _ => exact zsc2_1
  | 2, _ => exact zsc2_2
  | 3, _ => exact zsc2_3
  | 4, _ => exact zsc2_4
  | 5, _ => exact zsc2_5
  | 6, _ => exact zsc2_6
  | 7, _ => exact zsc2_7
  | 8, _ => exact zsc2_8
  | 9, _ => exact zsc2_9
  | 10, _ => exact zsc2_10
  | 11, _ => exact zsc2_11
  | 12, _ => exact zsc2_12
  | 13, _ => exact zsc2_13
  | 14, _ => exact zsc2_14
  | i + 15, hi => exact absurd hi (by show ¬ i + 15 < 15; omega)
theorem zsc3 : ∀ i, i < zstr.length → (List.range zstr.length).all (fun j => decide (i = j) || (decide (zFL[zix zi3 i j]? = some (Cond.not (Cond.eq (zstm i) (zstm j)))) || decide (zFL[zix zi3 i j]? = some (Cond.not (Cond.eq (zstm j) (zstm i)))))) = true := by
  intro i hi
  match i, hi with
  | 0, _ => exact zsc3_0
  | 1, _ => exact zsc3_1
  | 2, _ => exact zsc3_2
  | 3, _ => exact zsc3_3
  | 4, _ => exact zsc3_4
  | 5, _ => exact zsc3_5
  | 6, _ => exact zsc3_6
  | 7, _ => exact zsc3_7
  | 8, _ => exact zsc3_8
  | 9, _ => exact zsc3_9
  | 10, _ => exact zsc3_10
  | 11, _ => exact zsc3_11
  | 12, _ => exact zsc3_12
  | 13, _ => exact zsc3_13
  | 14, _ => exact zsc3_14
  | i + 15, hi => exact absurd hi (by show ¬ i + 15 < 15; omega)
theorem zsc4 : (List.range zstr.length).all (fun i => decide ((zstr.map List.length).getD i 0 < 2 ^ 31)) = true := by decide +kernel
theorem zsc5 : (List.range 6).all (fun j => decide (zFL[zax [12, 13, 14, 15, 16, 17] j]? = some (Cond.eq (.elem (.static "CoasterDay$Rules" "SHOWING_FREE" "[J") (.int (Int32.ofNat j))) (.long (zsf j))))) = true := by decide +kernel
theorem zsc6 : zstq.all (fun q => decide (q.2.2.2 < zstr.length) && (decide (zstm q.2.2.2 = .string q.1 q.2.1) && decide (zw (zax [3015, 3092, 3114, 3123, 3129, 3137, 3150, 3159, 3192, 3201, 3214, 3221, 3225, 3226, 7173] q.2.2.2) = some (Cond.stringRef q.1 q.2.1 q.2.2.1)))) = true := by decide +kernel
theorem zca : ∀ (c : Nat) (q : vw_C), vwCl[c]? = some q → (Cond.instantiable q.1 q.2.2) ∈ lw_tbl := zcl_all (zw_tb (a := 1158) (by decide +kernel)) (zw_tb (a := 1239) (by decide +kernel)) (zw_tb (a := 2104) (by decide +kernel)) (zw_tb (a := 2015) (by decide +kernel)) (zw_tb (a := 1091) (by decide +kernel)) (zw_tb (a := 1142) (by decide +kernel)) (zw_tb (a := 2070) (by decide +kernel)) (zw_tb (a := 1168) (by decide +kernel)) (zw_tb (a := 1031) (by decide +kernel)) (zw_tb (a := 1101) (by decide +kernel)) (zw_tb (a := 1078) (by decide +kernel)) (zw_tb (a := 1023) (by decide +kernel)) (zw_tb (a := 7009) (by decide +kernel))
def zM0 (L : Nat) (xs : Nat → Int32) : zM := (16, 0, L, (fun o k => if o = 1 then xs k else 0), (fun _ _ => 0), fun _ _ => 0)
theorem z_arr {s : State} {cA : ClassId} {kA : Class} {comp : ClassId} {ty : FieldType} (h1 : s.vm.classes[cA]? = some kA) (h2 : kA.kind = .array comp ty) : ArrOfT s cA ty := fun n z => ⟨(fun k h => by cases h), kA, h1, comp, h2⟩
theorem z_start {s : State} {b L : Nat} {xs : Nat → Int32} (hts : ∀ w ∈ lw_tbl, w.before #[Value.ref b] s = true) (hX : va_X b L xs s s.heap) (hbl : b < s.heap.size) (hL : L < 2 ^ 31) (hgv : (Jvm.Cond.and given_1 narrow_1).before #[Value.ref b] s = true) : ∃ G : zG, gB G = s.heap.size ∧ gL G = L ∧ gX G = xs ∧ gA G 1 = b ∧ zK G s ∧ zEn G s s.heap := by
  have hs : ∀ c ∈ zFL, c.before #[Value.ref b] s = true := flat_of_before _ hgv
  have hA : ∀ a : Nat, a < s.heap.size → ¬ (fun q : Nat => s.heap.size ≤ q) a := fun a h => Nat.not_le.mpr h
  obtain ⟨f, hf⟩ : ∃ f : Nat → ClassId × (Nat → Nat), ∀ c q, vwCl[c]? = some q → u_Kn s q.1 q.2.1 q.2.2 (f c).1 (f c).2 := by
    have h0 : ∀ c : Nat, ∃ y : ClassId × (Nat → Nat), ∀ q, vwCl[c]? = some q → u_Kn s q.1 q.2.1 q.2.2 y.1 y.2 := by
      intro c
      cases hc : vwCl[c]? with
      | none => exact ⟨(0, fun _ => 0), fun q h => by cases h⟩
      | some q =>
        obtain ⟨cC, iS, h⟩ := u_known (C := q.1) (T := q.2.1) (N := q.2.2) hts (zUws_tb c q hc) (hts _ (zca c q hc))
        exact ⟨(cC, iS), fun q' h' => by cases h'; exact h⟩
    exact Classical.axiomOfChoice h0
  have hpr : ∀ ty : FieldType, (∀ C, ty ≠ .object C) → Cond.arrayClass ty ∈ lw_tbl → ∃ cA, ArrOfT s cA ty ∧ va_RA s cA ty := by
    intro ty hno hm
    obtain ⟨cA, kA, comp, h1, h2, h3⟩ := Cond.arrayClass_spec (hts _ hm)
    refine ⟨cA, z_arr h2 h3, ?_⟩
    cases ty <;> first | exact h1 | exact absurd rfl (hno _)
  have hob : ∀ C : String, Cond.arrayOver (.object C) ∈ lw_tbl → ∃ cA, ArrOfT s cA (.object C) ∧ va_RA s cA (.object C) := by
    intro C hm
    obtain ⟨comp, cA, kA, h1, h2, h3, h4, h5⟩ := Cond.arrayOver_spec (hts _ hm)
    exact ⟨cA, z_arr h3 h4, kA, comp, h3, h4, h1, h5⟩
  obtain ⟨a1, hr1⟩ := hpr .int (fun _ h => by cases h) (zw_tb (a := 1076) (by decide +kernel))
  obtain ⟨a2, hr2⟩ := hpr .long (fun _ h => by cases h) (zw_tb (a := 1140) (by decide +kernel))
  obtain ⟨a3, hr3⟩ := hpr .boolean (fun _ h => by cases h) (zw_tb (a := 7142) (by decide +kernel))
  obtain ⟨a4, hr4⟩ := hob "CoasterDay$Day" (zw_tb (a := 1236) (by decide +kernel))
  obtain ⟨a5, hr5⟩ := hob "CoasterDay$NumberRow" (zw_tb (a := 1238) (by decide +kernel))
  have hsf := fun j hj => va_eqtl (hs _ (zFL_in (of_decide_eq_true (List.all_eq_true.mp zsc5 j (List.mem_range.mpr hj)))))
  obtain ⟨t2, ht2, hT2⟩ := va_Tof (tm := .static "CoasterDay$Rules" "SHOWING_FREE" "[J") (ty := .long) (N := 6) (f := fun j => .long (zsf j)) (A := fun q : Nat => s.heap.size ≤ q) (by decide) (hs _ (zFL_in (k := 10) (by decide +kernel))) (va_eqt (hs _ (zFL_in (k := 11) (by decide +kernel)))) (fun j hj => hsf j hj) hA
  have hZ2 := va_Zref (C := "CoasterDay$Rules") (n := "SHOWING_FREE") (d := "[J") (A := fun q : Nat => s.heap.size ≤ q) (hts _ (zw_tb (a := 3220) (by decide +kernel))) (hts _ (zw_tb (a := 1006) (by decide +kernel))) ht2 hA
  have hZc := va_Zof (C := "java/lang/String") (n := "COMPACT_STRINGS") (d := "Z") (v := .int 1) (A := fun q : Nat => s.heap.size ≤ q) (hts _ (zw_tb (a := 3029) (by decide +kernel))) (hts _ (zw_tb (a := 1016) (by decide +kernel))) (va_eqt (hs _ (zFL_in (k := 4) (by decide +kernel)))) hA
  obtain ⟨n3, hZ3⟩ : ∃ n3 : Option Nat, va_Z "jdk/internal/util/Preconditions" "SIOOBE_FORMATTER" "Ljava/util/function/BiFunction;" (va_rf n3) (fun q : Nat => s.heap.size ≤ q) s s.heap := by
    rcases va_Zqof (C := "jdk/internal/util/Preconditions") (n := "SIOOBE_FORMATTER") (d := "Ljava/util/function/BiFunction;") (A := fun q : Nat => s.heap.size ≤ q) (hts _ (zw_tb (a := 3045) (by decide +kernel))) (hts _ (zw_tb (a := 1018) (by decide +kernel))) (hs _ (zFL_in (k := 5) (by decide +kernel))) hA with h | ⟨t, h⟩
    · exact ⟨none, h⟩
    · exact ⟨some t, h⟩
  have c1 := zsc1
  simp only [Bool.and_eq_true, decide_eq_true_eq] at c1
  obtain ⟨adK, adV, hSt, htm⟩ := vk_Sof (s := s) (args := #[Value.ref b]) (N := zstr.length) (tm := zstm) (len := zstr.map List.length) (byt := zstr) (A := fun q : Nat => s.heap.size ≤ q) (fun i hi => of_decide_eq_true (List.all_eq_true.mp zsc4 i (List.mem_range.mpr hi))) (fun i hi => hs _ (zFL_in (c1 i hi).1)) (fun i hi => hs _ (zFL_in (c1 i hi).2.1)) (fun i hi => hs _ (zFL_in (c1 i hi).2.2.1)) (fun i hi => hs _ (zFL_in (c1 i hi).2.2.2))
    (fun i hi j hj => hs _ (zFL_in (of_decide_eq_true (List.all_eq_true.mp (zsc2 i hi) j (List.mem_range.mpr hj)))))
    (fun i j hi hj hij => by
      have h := List.all_eq_true.mp (zsc3 i hi) j (List.mem_range.mpr hj)
      simp only [Bool.or_eq_true, decide_eq_true_eq] at h
      rcases h with h | h | h
      · exact absurd h hij
      · exact Or.inl (hs _ (zFL_in h))
      · exact Or.inr (hs _ (zFL_in h))) hA
  let ga : Nat → Nat := fun o => if o = 1 then b else if o = 2 then t2 else if o % 2 = 0 then adK ((o - 1000) / 2) else adV ((o - 1000) / 2)
  have gK : (fun i => ga (1000 + 2 * i)) = adK := by
    funext i
    show (if 1000 + 2 * i = 1 then b else if 1000 + 2 * i = 2 then t2 else if (1000 + 2 * i) % 2 = 0 then adK ((1000 + 2 * i - 1000) / 2) else _) = _
    rw [if_neg (by omega), if_neg (by omega), if_pos (by omega), show (1000 + 2 * i - 1000) / 2 = i by omega]
  have gV : (fun i => ga (1000 + 2 * i + 1)) = adV := by
    funext i
    show (if 1000 + 2 * i + 1 = 1 then b else if 1000 + 2 * i + 1 = 2 then t2 else if (1000 + 2 * i + 1) % 2 = 0 then _ else adV ((1000 + 2 * i + 1 - 1000) / 2)) = _
    rw [if_neg (by omega), if_neg (by omega), if_neg (by omega), show (1000 + 2 * i + 1 - 1000) / 2 = i by omega]
  refine ⟨(s.heap.size, ga, fun c => (f c).1, fun c => (f c).2, fun k => if k = 1 then a1 else if k = 2 then a2 else if k = 3 then a3 else if k = 4 then a4 else a5, L, xs, n3), rfl, rfl, rfl, rfl, ⟨hf, ?_⟩, ⟨hbl, hL, hX⟩, ⟨hZ2, hT2⟩, hZc, hZ3, ?_, ?_, ?_⟩
  · intro k q hq
    match k, hq with
    | 0, hq => cases hq; exact hr1
    | 1, hq => cases hq; exact hr2
    | 2, hq => cases hq; exact hr3
    | 3, hq => cases hq; exact hr4
    | 4, hq => cases hq; exact hr5
    | k + 5, hq => simp at hq
  · show vk_S zstr.length (zstr.map List.length) zstr (fun i => ga (1000 + 2 * i)) (fun i => ga (1000 + 2 * i + 1)) _ s s.heap
    rw [gK, gV]
    exact hSt
  · intro q hq
    have h := List.all_eq_true.mp zsc6 q hq
    simp only [Bool.and_eq_true, decide_eq_true_eq] at h
    show vk_R q.1 q.2.1 q.2.2.1 (ga (1000 + 2 * q.2.2.2)) s
    have e1 : ga (1000 + 2 * q.2.2.2) = adK q.2.2.2 := congrFun gK q.2.2.2
    rw [e1]
    refine vk_R.of (hts _ (zw_tb h.2.2)) ?_
    have h1 := htm q.2.2.2 h.1
    rw [h.2.1] at h1
    exact h1
  · intro w hw hb
    have h := hts w hw
    unfold zbw at hb
    split at hb
    · exact va_Nw.of rfl h
    · exact va_AO.of h
    · cases hb
/-- what is left: the law, run by the small machine, answers 1 -/
def zLawRuns (L : Nat) (xs : Nat → Int32) : Prop := ∃ M : zM, zX 3 (zCd zT 60) zc_L_law 0 [some (.ref 1), none, none, none] [] (zM0 L xs) = some (some (.int 1), M) ∧ znx M ≤ 148 ∧ zsz M ≤ 214328
