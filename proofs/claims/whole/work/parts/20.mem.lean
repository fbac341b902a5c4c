/-! THE MEMORY BEHIND THE CONSTRUCTORS: every reference is fixed but Search.rules -/
def zrT : List (List Nat) := [[17, 22, 23, 24, 29, 31, 56, 107, 116, 121, 125, 128, 129], [18, 19, 20, 21], [], [], [], [], [], [], [25, 26, 27, 28], [], [], [], [], [30], [], [32, 37, 39, 41, 43, 45, 47, 49, 51, 53, 55], [33, 34, 35, 36], [], [], [], [], [38], [], [0, 0, 40], [], [0, 0, 42], [], [0, 0, 44], [], [0, 0, 46], [], [0, 0, 48], [], [0, 0, 50], [], [0, 0, 52], [], [0, 0, 54], [], [], [57, 82], [58, 63, 65, 67, 69, 71, 73, 75, 77, 79, 81], [59, 60, 61, 62], [], [], [], [], [64], [], [0, 0, 66], [], [0, 0, 68], [], [0, 0, 70], [], [0, 0, 72], [], [0, 0, 74], [], [0, 0, 76], [], [0, 0, 78], [], [0, 0, 80], [], [], [83, 88, 90, 92, 94, 96, 98, 100, 102, 104, 106], [84, 85, 86, 87], [], [], [], [], [89], [], [0, 0, 91], [], [0, 0, 93], [], [0, 0, 95], [], [0, 0, 97], [], [0, 0, 99], [], [0, 0, 101], [], [0, 0, 103], [], [0, 0, 105], [], [], [108, 110, 112, 114], [109], [], [111], [], [113], [], [115], [], [117, 118, 119, 120], [], [], [], [], [122, 123, 124], [], [], [], [126, 127], [], [], [], [], [0, 131, 132, 133, 134, 0, 0, 0, 0, 0, 0, 0, 0, 0, 0, 0, 0, 0, 0, 0, 0, 0, 0, 0, 0, 0, 135, 136, 137, 138, 139, 140, 141, 0, 0, 0, 142, 143, 144, 145, 146, 147], [], [], [], [], [], [], [], [], [], [], [], [], [], [], [], [], []]
def zrG (r o k : Nat) : Nat := if o = 121 ∧ k = 4 then r else zax ((znth zrT (o - 16)).getD []) k
/-- ints, longs, what Search.rules is -/
def zm (L : Nat) (I : Nat → Nat → Int32) (J : Nat → Nat → Int64) (r : Nat) : zM := (148, 214328, L, I, J, zrG r)
def zu (I : Nat → Nat → Int32) (o k : Nat) (v : Int32) : Nat → Nat → Int32 := fun a j => if a = o ∧ j = k then v else I a j
def zuL (J : Nat → Nat → Int64) (o k : Nat) (v : Int64) : Nat → Nat → Int64 := fun a j => if a = o ∧ j = k then v else J a j
def zcI (I : Nat → Nat → Int32) (a sp b dp n : Nat) : Nat → Nat → Int32 := fun o j => if o = b then va_cpy (I a) (I b) sp dp n j else I o j
def zcJ (J : Nat → Nat → Int64) (a sp b dp n : Nat) : Nat → Nat → Int64 := fun o j => if o = b then va_cpy (J a) (J b) sp dp n j else J o j
def zin (i : Int32) (n : Nat) : Bool := decide (0 ≤ i) && decide (i.toNatClampNeg < n)
def zTabs : List Nat := [39, 41, 43, 45, 47, 49, 51, 53]
def zRows : List Nat := [108, 110, 112, 114]
def zTrks : List Nat := [24, 32]
def zRuls : List Nat := [29, 37]
def zTxts : List Nat := [1000, 1002, 1004, 1006, 1008, 1010, 1012, 1014, 1016, 1018, 1020, 1022, 1024, 1026, 1028]
def zTxt1 : List Nat := [1001, 1003, 1005, 1007, 1009, 1011, 1013, 1015, 1017, 1019, 1021, 1023, 1025, 1027, 1029]
theorem zCd_eq {T : Nat → Option zMt} {d j : Nat} {t : zMt} {as : List Value} {M : zM} (h : T j = some t) : zCd T (d + 1) j as M = zgd (zrc t as M) (zX (zmRt t) (zCd T d) (zmC t) 0 (zpad (zmL t) (zfl as)) [] M) := by
  rw [zCd]
  dsimp only
  rw [h]
theorem zpr_zm {L : Nat} {I : Nat → Nat → Int32} {J : Nat → Nat → Int64} {r v : Nat} : zpr (zm L I J r) 121 4 v = zm L I J v := by
  have h : (fun a j => if a = 121 ∧ j = 4 then v else zrG r a j) = zrG v := by
    funext a j
    unfold zrG
    by_cases h : a = 121 ∧ j = 4
    · rw [if_pos h, if_pos h]
    · rw [if_neg h, if_neg h, if_neg h]
  show (148, 214328, L, I, J, (fun a j => if a = 121 ∧ j = 4 then v else zrG r a j)) = _
  rw [h]
  rfl
theorem zu_ap {I : Nat → Nat → Int32} {o k : Nat} {v : Int32} {a j : Nat} : zu I o k v a j = if a = o ∧ j = k then v else I a j := rfl
theorem zuL_ap {I : Nat → Nat → Int64} {o k : Nat} {v : Int64} {a j : Nat} : zuL I o k v a j = if a = o ∧ j = k then v else I a j := rfl
theorem zbI_s {v : Int32} {M : zM} {k : Int32 → zM → Option zR} : zbI (some ((some (.int v)), M)) k = k v M := rfl
theorem zbI_i {c : Prop} {_ : Decidable c} {A B : Option zR} {k : Int32 → zM → Option zR} : zbI (if c then A else B) k = if c then zbI A k else zbI B k := by
  by_cases h : c
  · rw [if_pos h, if_pos h]
  · rw [if_neg h, if_neg h]
theorem zbI_g {b : Bool} {A : Option zR} {k : Int32 → zM → Option zR} : zbI (zgd b A) k = zgd b (zbI A k) := by cases b <;> rfl
theorem zbI_n {k : Int32 → zM → Option zR} : zbI none k = none := rfl
theorem zbL_s {v : Int64} {M : zM} {k : Int64 → zM → Option zR} : zbL (some ((some (.long v)), M)) k = k v M := rfl
theorem zbL_i {c : Prop} {_ : Decidable c} {A B : Option zR} {k : Int64 → zM → Option zR} : zbL (if c then A else B) k = if c then zbL A k else zbL B k := by
  by_cases h : c
  · rw [if_pos h, if_pos h]
  · rw [if_neg h, if_neg h]
theorem zbL_g {b : Bool} {A : Option zR} {k : Int64 → zM → Option zR} : zbL (zgd b A) k = zgd b (zbL A k) := by cases b <;> rfl
theorem zbL_n {k : Int64 → zM → Option zR} : zbL none k = none := rfl
theorem zbV_s {M : zM} {k : zM → Option zR} : zbV (some (none, M)) k = k M := rfl
theorem zbV_i {c : Prop} {_ : Decidable c} {A B : Option zR} {k : zM → Option zR} : zbV (if c then A else B) k = if c then zbV A k else zbV B k := by
  by_cases h : c
  · rw [if_pos h, if_pos h]
  · rw [if_neg h, if_neg h]
theorem zbV_g {b : Bool} {A : Option zR} {k : zM → Option zR} : zbV (zgd b A) k = zgd b (zbV A k) := by cases b <;> rfl
theorem zbV_n {k : zM → Option zR} : zbV none k = none := rfl
theorem zcolI {c : Prop} {_ : Decidable c} {a b : Int32} {M : zM} : (if c then some (some (Value.int a), M) else some (some (Value.int b), M)) = some (some (Value.int (if c then a else b)), M) := by
  by_cases h : c
  · rw [if_pos h, if_pos h]
  · rw [if_neg h, if_neg h]
theorem zcolL {c : Prop} {_ : Decidable c} {a b : Int64} {M : zM} : (if c then some (some (Value.long a), M) else some (some (Value.long b), M)) = some (some (Value.long (if c then a else b)), M) := by
  by_cases h : c
  · rw [if_pos h, if_pos h]
  · rw [if_neg h, if_neg h]
theorem zgd_t {A : Option zR} : zgd true A = A := rfl
