/-! A METHOD'S BLOCKS ARE LOOKED THROUGH BY PROGRAM; then the small machine is the machine -/
def zvi (v : Value) (k : Int32) : Bool := match v with
  | .int x => decide (x = k)
  | _ => false
def zvl (v : Value) (k : Int64) : Bool := match v with
  | .long x => decide (x = k)
  | _ => false
def zlnk (own : String) (ix : Nat) (y : MethodName) (w : Nat) : Bool := decide (zw w = some (.methodLink own ix y)) || (match zw w with
  | some (.methodLinkNest o i y' _) => decide (o = own) && (decide (i = ix) && decide (y' = y))
  | _ => false)
def zfl0 (own : String) (ix : Nat) (q : vw_C) (k w : Nat) : Bool := decide (zw w = some (.fieldLink own ix (q.2.1 k).1 (q.2.1 k).2.1 (q.2.1 k).2.2.1))
def zjp (cd : List (List zE)) (pc : Nat) (off : Int) (k : Nat) : Bool := decide ((pc : Int) + off = (zpc cd k : Int))
def zmy (k : Nat) : MethodName := match k with
  | 0 => Lib.Math.max.name
  | 1 => Lib.Math.min.name
  | 2 => Lib.Math.abs.name
  | 3 => Lib.MathLoose.max_long.x
  | _ => Lib.MathLoose.min_long.x
def zckI (T : Nat → Option zMt) (own nm : String) (cd : List (List zE)) (pc ln : Nat) (ax : List Nat) (v : Value) : Instr → Bool
  | .iload_n k => decide (ln = 1) && decide ((k : Nat) = zax ax 0)
  | .iload i => decide (ln = 2) && decide (i = zax ax 0)
  | .lload_n k => decide (ln = 1) && decide ((k : Nat) = zax ax 0)
  | .lload i => decide (ln = 2) && decide (i = zax ax 0)
  | .aload_n k => decide (ln = 1) && decide ((k : Nat) = zax ax 0)
  | .aload i => decide (ln = 2) && decide (i = zax ax 0)
  | .istore_n k => decide (ln = 1) && decide ((k : Nat) = zax ax 0)
  | .istore i => decide (ln = 2) && decide (i = zax ax 0)
  | .lstore_n k => decide (ln = 1) && decide ((k : Nat) = zax ax 0)
  | .lstore i => decide (ln = 2) && decide (i = zax ax 0)
  | .astore_n k => decide (ln = 1) && decide ((k : Nat) = zax ax 0)
  | .astore i => decide (ln = 2) && decide (i = zax ax 0)
  | .iinc i n => decide (ln = 3) && (decide (i = zax ax 0) && zvi v (Int32.ofInt n))
  | .iconst n => decide (ln = 1) && zvi v (Int32.ofInt n)
  | .bipush n => decide (ln = 2) && zvi v (Int8.ofInt n).toInt32
  | .sipush n => decide (ln = 3) && zvi v (Int16.ofInt n).toInt32
  | .lconst n => decide (ln = 1) && zvl v (Int64.ofNat (n : Nat))
  | .ldc ix => decide (ln = 2) && (match v with
    | .int k => decide (zw (zax ax 0) = some (.constant own ix k))
    | .ref o => zstq.any (fun q => decide (q.1 = own) && (decide (q.2.1 = ix) && decide (o = 1000 + 2 * q.2.2.2)))
    | _ => false)
  | .ldc_w ix => decide (ln = 3) && (match v with
    | .int k => decide (zw (zax ax 0) = some (.constant own ix k))
    | _ => false)
  | .ldc2_w ix => decide (ln = 3) && (match v with
    | .long k => decide (zw (zax ax 0) = some (.constantLong own ix k))
    | _ => false)
  | .getstatic ix => decide (ln = 3) && (match v with
    | .int k => decide (k = 1) && decide (zw (zax ax 0) = some (.fieldLink own ix "java/lang/String" "COMPACT_STRINGS" "Z"))
    | .ref o => decide (o = 2) && decide (zw (zax ax 0) = some (.fieldLink own ix "CoasterDay$Rules" "SHOWING_FREE" "[J"))
    | .float _ => decide (zw (zax ax 0) = some (.fieldLink own ix "jdk/internal/util/Preconditions" "SIOOBE_FORMATTER" "Ljava/util/function/BiFunction;"))
    | _ => false)
  | .iadd => decide (ln = 1)
  | .isub => decide (ln = 1)
  | .imul => decide (ln = 1)
  | .idiv => decide (ln = 1)
  | .irem => decide (ln = 1)
  | .ineg => decide (ln = 1)
  | .ishl => decide (ln = 1)
  | .ishr => decide (ln = 1)
  | .iushr => decide (ln = 1)
  | .iand => decide (ln = 1)
  | .ior => decide (ln = 1)
  | .ixor => decide (ln = 1)
  | .land => decide (ln = 1)
  | .lor => decide (ln = 1)
  | .lxor => decide (ln = 1)
  | .lshl => decide (ln = 1)
  | .lushr => decide (ln = 1)
  | .lcmp => decide (ln = 1)
  | .i2l => decide (ln = 1)
  | .l2i => decide (ln = 1)
  | .i2b => decide (ln = 1)
  | .i2s => decide (ln = 1)
  | .i2c => decide (ln = 1)
  | .dup => decide (ln = 1)
  | .dup2 => decide (ln = 1)
  | .pop => decide (ln = 1)
  | .pop2 => decide (ln = 1)
  | .iaload => decide (ln = 1)
  | .laload => decide (ln = 1)
  | .iastore => decide (ln = 1)
  | .bastore => decide (ln = 1)
  | .lastore => decide (ln = 1)
  | .ireturn => decide (ln = 1)
  | .lreturn => decide (ln = 1)
  | .return_ => decide (ln = 1)
  | .baload => decide (ln = 1) && (decide (zax ax 0 = 3) || decide (zax ax 0 = 6))
  | .aaload => decide (ln = 1) && (decide (zax ax 0 = 4) || decide (zax ax 0 = 5))
  | .aastore => decide (ln = 1) && ((decide (zax ax 0 = 4) && decide (zax ax 1 = 0)) || (decide (zax ax 0 = 5) && decide (zax ax 1 = 1)))
  | .arraylength => decide (ln = 1) && (decide (1 ≤ zax ax 0) && decide (zax ax 0 ≤ 6))
  | .getfield ix => decide (ln = 3) && (if zax ax 0 = 99 then (decide (zax ax 1 = 0) && decide (zw (zax ax 3) = some (.fieldLink own ix "java/lang/String" "value" "[B"))) || (decide (zax ax 1 = 1) && decide (zw (zax ax 3) = some (.fieldLink own ix "java/lang/String" "coder" "B"))) else match vwCl[zax ax 0]? with
    | some q => decide (zax ax 1 < q.2.2) && (decide (zax ax 2 = zft (zax ax 0) (zax ax 1)) && zfl0 own ix q (zax ax 1) (zax ax 3))
    | none => false)
  | .putfield ix => decide (ln = 3) && (match vwCl[zax ax 0]? with
    | some q => decide (zax ax 1 < q.2.2) && (decide (zax ax 2 = zft (zax ax 0) (zax ax 1)) && (decide (zax ax 2 ≤ 3) && (zfl0 own ix q (zax ax 1) (zax ax 3) && (decide ((q.2.1 (zax ax 1)).2.2.2 = false) || (decide ((q.2.1 (zax ax 1)).2.2.2 = true) && (decide (nm = "<init>") && decide ((q.2.1 (zax ax 1)).1 = own)))))))
    | none => false)
  | .new ix => decide (ln = 3) && (match vwCl[zax ax 0]? with
    | some q => decide (zax ax 1 = q.2.2) && (decide (zw (zax ax 2) = some (.classLink own ix q.1)) && (decide (zw (zax ax 3) = some (.instantiable q.1 q.2.2)) && decide (zw (zax ax 4) = some (.initialized q.1))))
    | none => false)
  | .newarray at1 => decide (ln = 2) && (decide (newarray.typeOf at1 = zty (zax ax 0)) && ((decide (zax ax 0 = 1) || (decide (zax ax 0 = 2) || decide (zax ax 0 = 3))) && decide (zw (zax ax 1) = some (.arrayClass (zty (zax ax 0))))))
  | .anewarray ix => decide (ln = 3) && ((decide (zax ax 0 = 4) && (decide (zw (zax ax 1) = some (.classLink own ix "CoasterDay$Day")) && decide (zw (zax ax 2) = some (.arrayOver (.object "CoasterDay$Day"))))) || (decide (zax ax 0 = 5) && (decide (zw (zax ax 1) = some (.classLink own ix "CoasterDay$NumberRow")) && decide (zw (zax ax 2) = some (.arrayOver (.object "CoasterDay$NumberRow"))))))
  | .goto off => decide (ln = 3) && zjp cd pc off (zax ax 0)
  | .if_icmp _ off => decide (ln = 3) && zjp cd pc off (zax ax 0)
  | .ifCond _ off => decide (ln = 3) && zjp cd pc off (zax ax 0)
  | .ifnull _ => decide (ln = 3)
  | .tableswitch dflt lo hi offs => zjp cd pc dflt (zax ax 0) && (decide ((ztl ax).length = offs.size) && (decide (((ztl ax).length : Int) = hi - lo + 1) && (offs.toList.zip (ztl ax)).all (fun q => zjp cd pc q.1 q.2)))
  | .lookupswitch dflt ps => zjp cd pc dflt (zax ax 0) && ((ps.toList.zip (ps.toList.drop 1)).all (fun (a, next) => a.1 < next.1) && (decide (ps.toList.length = (ztl ax).length) && (ps.toList.zip (ztl ax)).all (fun q => zjp cd pc q.1.2 q.2)))
  | .invokestatic ix => decide (ln = 3) && (if zax ax 3 = 1 then decide (zw (zax ax 4) = some (.methodLink own ix arraycopyName)) else if zax ax 3 = 2 then decide (zax ax 0 < 5) && decide (zw (zax ax 4) = some (.methodLink own ix (zmy (zax ax 0)))) else match T (zax ax 0) with
    | some t => zlnk own ix (zmY t) (zax ax 4) && (decide (zmV t = 0) && decide (zax ax 1 = zmW t 0))
    | none => true)
  | .invokevirtual ix => decide (ln = 3) && (match T (zax ax 0) with
    | some t => zlnk own ix (zmY t) (zax ax 4) && (!decide (zmV t = 0) && (decide (zmV t - 1 = 99) || decide (zmV t - 1 < 13)) && (!decide ((zmY t).name = "<init>") && decide (zax ax 1 = zmW t 0 + 1)))
    | none => true)
  | .invokespecial ix => decide (ln = 3) && (if zax ax 3 = 1 then decide (zax ax 1 = 1) && decide (zw (zax ax 4) = some (.methodLink own ix Lib.objectInit)) else match T (zax ax 0) with
    | some t => zlnk own ix (zmY t) (zax ax 4) && (!decide (zmV t = 0) && (decide (zmV t - 1 = 99) || decide (zmV t - 1 < 13)) && (decide ((zmY t).name = "<init>") && (decide (zmT t = none) && decide (zax ax 1 = zmW t 0 + 1))))
    | none => true)
  | _ => true
def zck (T : Nat → Option zMt) (own nm : String) (cc : ByteArray) (cd : List (List zE)) (e : zE) : Bool := match e.2.2.1 with
  | .nop => decide (e.1 = zpc cd (zax e.2.2.2.1 0))
  | I => decide (decode cc e.1 = .ok (I, e.2.1)) && zckI T own nm cd e.1 e.2.1 e.2.2.2.1 e.2.2.2.2 I
theorem zvi_s {v : Value} {k : Int32} (h : zvi v k = true) : v = .int k := by
  unfold zvi at h
  split at h
  · rw [of_decide_eq_true h]
  · cases h
theorem zvl_s {v : Value} {k : Int64} (h : zvl v k = true) : v = .long k := by
  unfold zvl at h
  split at h
  · rw [of_decide_eq_true h]
  · cases h
theorem zlnk_s {own : String} {ix : Nat} {y : MethodName} {w : Nat} (h : zlnk own ix y w = true) : zw w = some (.methodLink own ix y) ∨ ∃ host, zw w = some (.methodLinkNest own ix y host) := by
  unfold zlnk at h
  rw [Bool.or_eq_true, decide_eq_true_eq] at h
  rcases h with h | h
  · exact Or.inl h
  · split at h
    · rename_i o i y' host hw
      simp only [Bool.and_eq_true, decide_eq_true_eq] at h
      obtain ⟨rfl, rfl, rfl⟩ := h
      exact Or.inr ⟨host, hw⟩
    · cases h
theorem zcl_lt {k : Nat} (h : k < 13) : ∃ q, vwCl[k]? = some q := ⟨_, List.getElem?_eq_getElem (by exact h)⟩
section
variable {T : Nat → Option zMt} {p : Program} {l : Launch} {e : Env} {R : Room} {s : State} {m : MethodId} {args : Array Value} {below : List Frame} {meth : Method} {c : Code} {Q : State → Prop} {cc : ByteArray} {G : zG} {M0 : zM} {r : zR} {nL : Nat} {own nm : String} {d pc rt : Nat} {kk : zC}
theorem zCo_none {f : zC} (h : ∀ ls st M, f ls st M = none) : zCo G M0 r p l e R s m args below meth c Q nL f pc := fun ls st M H locs L h0 => by rw [h ls st M] at h0; cases h0
theorem zCd_none {j : Nat} {as : List Value} {M : zM} (h : T j = none) : zCd T d j as M = none := by
  cases d with
  | zero => rfl
  | succ d => unfold zCd; rw [h]
theorem zpop_n {n : Nat} {acc st : List Value} {k : List Value → List Value → Option zR} (h : ∀ as st, k as st = none) : zpop n acc st k = none := by
  induction n generalizing acc st with
  | zero => exact h _ _
  | succ n ih =>
    cases st with
    | nil => rfl
    | cons v st => exact ih
theorem zgd_n {b : Bool} {x : Option zR} (h : x = none) : zgd b x = none := by subst h; cases b <;> rfl
theorem zrk_n {q : Nat} {x : Option zR} {ls : zLs} {st : List Value} {kk : zC} (h : x = none) : zrk q x ls st kk = none := by
  subst h
  unfold zrk
  split <;> rfl
set_option maxHeartbeats 40000000 in
theorem zstep (X : zCx G p R s m args meth c cc nL own nm d) (hmt : ∀ j t, T j = some t → zmk0 t) (hcall : zCall T l G d) (hF : zFn G M0 r p l e R s m args below meth c Q cc rt) (hroom : znx r.2 - znx M0 ≤ R.cells ∧ zsz r.2 - zsz M0 ≤ R.slots) {cd : List (List zE)} {jmp : zJ} (hj : ∀ k, zCo G M0 r p l e R s m args below meth c Q nL (jmp k) (zpc cd k)) {ex : zE} (hck : zck T own nm cc cd ex = true) (hkk : zCo G M0 r p l e R s m args below meth c Q nL kk (ex.1 + ex.2.1)) (hkm : ∀ ls st M, kk ls st M = some r → zle M r.2) : zCo G M0 r p l e R s m args below meth c Q nL (fun ls st M => zst rt (zCd T d) jmp kk ex.2.2.1 ex.2.2.2.1 ex.2.2.2.2 ls st M) ex.1 := by
  obtain ⟨pc, ln, I, ax, v⟩ := ex
  dsimp only at hkk ⊢
  by_cases hI : I = .nop
  · subst hI
    have h1 : pc = zpc cd (zax ax 0) := of_decide_eq_true hck
    show zCo G M0 r p l e R s m args below meth c Q nL (fun ls st M => jmp (zax ax 0) (zkil (ztl ax) ls) st M) pc
    rw [h1]
    exact zs_nop (hj _)
  · have hck2 : decode cc pc = .ok (I, ln) ∧ zckI T own nm cd pc ln ax v I = true := by
      unfold zck at hck
      dsimp only at hck
      split at hck
      · exact absurd rfl hI
      · rw [Bool.and_eq_true, decide_eq_true_eq] at hck
        exact hck
    obtain ⟨hdg, hc⟩ := hck2
    clear hck
    cases I
    case iload_n k =>
      simp only [zckI, Bool.and_eq_true, decide_eq_true_eq] at hc
      simp only [zst]
      obtain ⟨rfl, h1⟩ := hc
      exact zs_iload_n X hkk hdg h1
    case iload i =>
      simp only [zckI, Bool.and_eq_true, decide_eq_true_eq] at hc
      simp only [zst]
      obtain ⟨rfl, rfl⟩ := hc
      exact zs_iload X hkk hdg
    case lload_n k =>
      simp only [zckI, Bool.and_eq_true, decide_eq_true_eq] at hc
      simp only [zst]
      obtain ⟨rfl, h1⟩ := hc
      exact zs_lload_n X hkk hdg h1
    case lload i =>
      simp only [zckI, Bool.and_eq_true, decide_eq_true_eq] at hc
      simp only [zst]
      obtain ⟨rfl, rfl⟩ := hc
      exact zs_lload X hkk hdg
    case aload_n k =>
      simp only [zckI, Bool.and_eq_true, decide_eq_true_eq] at hc
      simp only [zst]
      obtain ⟨rfl, h1⟩ := hc
      exact zs_aload_n X hkk hdg h1
    case aload i =>
      simp only [zckI, Bool.and_eq_true, decide_eq_true_eq] at hc
      simp only [zst]
      obtain ⟨rfl, rfl⟩ := hc
      exact zs_aload X hkk hdg
    case istore_n k =>
      simp only [zckI, Bool.and_eq_true, decide_eq_true_eq] at hc
      simp only [zst]
      obtain ⟨rfl, h1⟩ := hc
      exact zs_istore_n X hkk hdg h1
    case istore i =>
      simp only [zckI, Bool.and_eq_true, decide_eq_true_eq] at hc
      simp only [zst]
      obtain ⟨rfl, rfl⟩ := hc
      exact zs_istore X hkk hdg
    case lstore_n k =>
      simp only [zckI, Bool.and_eq_true, decide_eq_true_eq] at hc
      simp only [zst]
      obtain ⟨rfl, h1⟩ := hc
      exact zs_lstore_n X hkk hdg h1
    case lstore i =>
      simp only [zckI, Bool.and_eq_true, decide_eq_true_eq] at hc
      simp only [zst]
      obtain ⟨rfl, rfl⟩ := hc
      exact zs_lstore X hkk hdg
    case astore_n k =>
      simp only [zckI, Bool.and_eq_true, decide_eq_true_eq] at hc
      simp only [zst]
      obtain ⟨rfl, h1⟩ := hc
      exact zs_astore_n X hkk hdg h1
    case astore i =>
      simp only [zckI, Bool.and_eq_true, decide_eq_true_eq] at hc
      simp only [zst]
      obtain ⟨rfl, rfl⟩ := hc
      exact zs_astore X hkk hdg
    case iadd  =>
      simp only [zckI, Bool.and_eq_true, decide_eq_true_eq] at hc
      simp only [zst]
      subst hc
      exact zs_iadd X hkk hdg
    case isub  =>
      simp only [zckI, Bool.and_eq_true, decide_eq_true_eq] at hc
      simp only [zst]
      subst hc
      exact zs_isub X hkk hdg
    case imul  =>
      simp only [zckI, Bool.and_eq_true, decide_eq_true_eq] at hc
      simp only [zst]
      subst hc
      exact zs_imul X hkk hdg
    case idiv  =>
      simp only [zckI, Bool.and_eq_true, decide_eq_true_eq] at hc
      simp only [zst]
      subst hc
      exact zs_idiv X hkk hdg
    case irem  =>
      simp only [zckI, Bool.and_eq_true, decide_eq_true_eq] at hc
      simp only [zst]
      subst hc
      exact zs_irem X hkk hdg
    case ineg  =>
      simp only [zckI, Bool.and_eq_true, decide_eq_true_eq] at hc
      simp only [zst]
      subst hc
      exact zs_ineg X hkk hdg
    case ishl  =>
      simp only [zckI, Bool.and_eq_true, decide_eq_true_eq] at hc
      simp only [zst]
      subst hc
      exact zs_ishl X hkk hdg
    case ishr  =>
      simp only [zckI, Bool.and_eq_true, decide_eq_true_eq] at hc
      simp only [zst]
      subst hc
      exact zs_ishr X hkk hdg
    case iushr  =>
      simp only [zckI, Bool.and_eq_true, decide_eq_true_eq] at hc
      simp only [zst]
      subst hc
      exact zs_iushr X hkk hdg
    case iand  =>
      simp only [zckI, Bool.and_eq_true, decide_eq_true_eq] at hc
      simp only [zst]
      subst hc
      exact zs_iand X hkk hdg
    case ior  =>
      simp only [zckI, Bool.and_eq_true, decide_eq_true_eq] at hc
      simp only [zst]
      subst hc
      exact zs_ior X hkk hdg
    case ixor  =>
      simp only [zckI, Bool.and_eq_true, decide_eq_true_eq] at hc
      simp only [zst]
      subst hc
      exact zs_ixor X hkk hdg
    case land  =>
      simp only [zckI, Bool.and_eq_true, decide_eq_true_eq] at hc
      simp only [zst]
      subst hc
      exact zs_land X hkk hdg
    case lor  =>
      simp only [zckI, Bool.and_eq_true, decide_eq_true_eq] at hc
      simp only [zst]
      subst hc
      exact zs_lor X hkk hdg
    case lxor  =>
      simp only [zckI, Bool.and_eq_true, decide_eq_true_eq] at hc
      simp only [zst]
      subst hc
      exact zs_lxor X hkk hdg
    case lshl  =>
      simp only [zckI, Bool.and_eq_true, decide_eq_true_eq] at hc
      simp only [zst]
      subst hc
      exact zs_lshl X hkk hdg
    case lushr  =>
      simp only [zckI, Bool.and_eq_true, decide_eq_true_eq] at hc
      simp only [zst]
      subst hc
      exact zs_lushr X hkk hdg
    case lcmp  =>
      simp only [zckI, Bool.and_eq_true, decide_eq_true_eq] at hc
      simp only [zst]
      subst hc
      exact zs_lcmp X hkk hdg
    case i2l  =>
      simp only [zckI, Bool.and_eq_true, decide_eq_true_eq] at hc
      simp only [zst]
      subst hc
      exact zs_i2l X hkk hdg
    case l2i  =>
      simp only [zckI, Bool.and_eq_true, decide_eq_true_eq] at hc
      simp only [zst]
      subst hc
      exact zs_l2i X hkk hdg
    case i2b  =>
      simp only [zckI, Bool.and_eq_true, decide_eq_true_eq] at hc
      simp only [zst]
      subst hc
      exact zs_i2b X hkk hdg
    case i2s  =>
      simp only [zckI, Bool.and_eq_true, decide_eq_true_eq] at hc
      simp only [zst]
      subst hc
      exact zs_i2s X hkk hdg
    case i2c  =>
      simp only [zckI, Bool.and_eq_true, decide_eq_true_eq] at hc
      simp only [zst]
      subst hc
      exact zs_i2c X hkk hdg
    case dup  =>
      simp only [zckI, Bool.and_eq_true, decide_eq_true_eq] at hc
      simp only [zst]
      subst hc
      exact zs_dup X hkk hdg
    case dup2  =>
      simp only [zckI, Bool.and_eq_true, decide_eq_true_eq] at hc
      simp only [zst]
      subst hc
      exact zs_dup2 X hkk hdg
    case pop  =>
      simp only [zckI, Bool.and_eq_true, decide_eq_true_eq] at hc
      simp only [zst]
      subst hc
      exact zs_pop X hkk hdg
    case pop2  =>
      simp only [zckI, Bool.and_eq_true, decide_eq_true_eq] at hc
      simp only [zst]
      subst hc
      exact zs_pop2 X hkk hdg
    case iaload  =>
      simp only [zckI, Bool.and_eq_true, decide_eq_true_eq] at hc
      simp only [zst]
      subst hc
      exact zs_iaload X hkk hdg
    case laload  =>
      simp only [zckI, Bool.and_eq_true, decide_eq_true_eq] at hc
      simp only [zst]
      subst hc
      exact zs_laload X hkk hdg
    case iastore  =>
      simp only [zckI, Bool.and_eq_true, decide_eq_true_eq] at hc
      simp only [zst]
      subst hc
      exact zs_iastore X hkk hdg
    case bastore  =>
      simp only [zckI, Bool.and_eq_true, decide_eq_true_eq] at hc
      simp only [zst]
      subst hc
      exact zs_bastore X hkk hdg
    case lastore  =>
      simp only [zckI, Bool.and_eq_true, decide_eq_true_eq] at hc
      simp only [zst]
      subst hc
      exact zs_lastore X hkk hdg
    case ireturn  =>
      simp only [zckI, Bool.and_eq_true, decide_eq_true_eq] at hc
      simp only [zst]
      subst hc
      exact zs_ireturn X hF hdg
    case lreturn  =>
      simp only [zckI, Bool.and_eq_true, decide_eq_true_eq] at hc
      simp only [zst]
      subst hc
      exact zs_lreturn X hF hdg
    case return_  =>
      simp only [zckI, Bool.and_eq_true, decide_eq_true_eq] at hc
      simp only [zst]
      subst hc
      exact zs_return X hF hdg
    case ifnull off =>
      simp only [zckI, Bool.and_eq_true, decide_eq_true_eq] at hc
      simp only [zst]
      subst hc
      exact zs_ifnull X hkk hdg
    case goto off =>
      simp only [zckI, Bool.and_eq_true, decide_eq_true_eq] at hc
      simp only [zst]
      obtain ⟨rfl, h1⟩ := hc
      exact zs_goto X (hj _) hdg (of_decide_eq_true h1)
    case if_icmp k off =>
      simp only [zckI, Bool.and_eq_true, decide_eq_true_eq] at hc
      simp only [zst]
      obtain ⟨rfl, h1⟩ := hc
      exact zs_if_icmp X hkk (hj _) hdg (of_decide_eq_true h1)
    case ifCond k off =>
      simp only [zckI, Bool.and_eq_true, decide_eq_true_eq] at hc
      simp only [zst]
      obtain ⟨rfl, h1⟩ := hc
      exact zs_ifCond X hkk (hj _) hdg (of_decide_eq_true h1)
    case baload  =>
      simp only [zckI, Bool.and_eq_true, decide_eq_true_eq] at hc
      simp only [zst]
      obtain ⟨rfl, h1⟩ := hc
      exact zs_baload X hkk hdg (by simpa using h1)
    case aaload  =>
      simp only [zckI, Bool.and_eq_true, decide_eq_true_eq] at hc
      simp only [zst]
      obtain ⟨rfl, h1⟩ := hc
      exact zs_aaload X hkk hdg (by simpa using h1)
    case aastore  =>
      simp only [zckI, Bool.and_eq_true, decide_eq_true_eq] at hc
      simp only [zst]
      obtain ⟨rfl, h1⟩ := hc
      exact zs_aastore X hkk hdg (by simpa using h1)
    case arraylength  =>
      simp only [zckI, Bool.and_eq_true, decide_eq_true_eq] at hc
      simp only [zst]
      obtain ⟨rfl, h1, h2⟩ := hc
      exact zs_alen X hkk hdg h1 h2
    case tableswitch dflt lo hi offs =>
      simp only [zckI, Bool.and_eq_true, decide_eq_true_eq] at hc
      simp only [zst]
      obtain ⟨h1, h2, h3, h4⟩ := hc
      exact zs_tableswitch X hj hdg (of_decide_eq_true h1) h2 h3 h4
    case lookupswitch dflt ps =>
      simp only [zckI, Bool.and_eq_true, decide_eq_true_eq] at hc
      simp only [zst]
      obtain ⟨h1, h2, h3, h4⟩ := hc
      exact zs_lookupswitch X hj hdg (of_decide_eq_true h1) h2 h3 h4
    case iinc i n =>
      simp only [zckI, Bool.and_eq_true, decide_eq_true_eq] at hc
      obtain ⟨rfl, rfl, h1⟩ := hc
      rw [zvi_s h1]
      simp only [zst]
      exact zs_iinc X hkk hdg rfl
    case iconst n =>
      simp only [zckI, Bool.and_eq_true, decide_eq_true_eq] at hc
      obtain ⟨rfl, h1⟩ := hc
      rw [zvi_s h1]
      simp only [zst]
      exact zs_iconst X hkk hdg rfl
    case bipush n =>
      simp only [zckI, Bool.and_eq_true, decide_eq_true_eq] at hc
      obtain ⟨rfl, h1⟩ := hc
      rw [zvi_s h1]
      simp only [zst]
      exact zs_bipush X hkk hdg rfl
    case sipush n =>
      simp only [zckI, Bool.and_eq_true, decide_eq_true_eq] at hc
      obtain ⟨rfl, h1⟩ := hc
      rw [zvi_s h1]
      simp only [zst]
      exact zs_sipush X hkk hdg rfl
    case lconst n =>
      simp only [zckI, Bool.and_eq_true, decide_eq_true_eq] at hc
      obtain ⟨rfl, h1⟩ := hc
      rw [zvl_s h1]
      simp only [zst]
      exact zs_lconst X hkk hdg rfl
    case ldc ix =>
      simp only [zckI, Bool.and_eq_true, decide_eq_true_eq] at hc
      obtain ⟨rfl, h1⟩ := hc
      simp only [zst]
      split at h1
      · exact zs_ldc X hkk hdg (of_decide_eq_true h1)
      · obtain ⟨q, hq, h2⟩ := List.any_eq_true.mp h1
        simp only [Bool.and_eq_true, decide_eq_true_eq] at h2
        exact zs_ldcS X hkk hdg hq h2.1 h2.2.1 h2.2.2
      · cases h1
    case ldc_w ix =>
      simp only [zckI, Bool.and_eq_true, decide_eq_true_eq] at hc
      obtain ⟨rfl, h1⟩ := hc
      simp only [zst]
      split at h1
      · exact zs_ldcw X hkk hdg (of_decide_eq_true h1)
      · cases h1
    case ldc2_w ix =>
      simp only [zckI, Bool.and_eq_true, decide_eq_true_eq] at hc
      obtain ⟨rfl, h1⟩ := hc
      simp only [zst]
      split at h1
      · exact zs_ldc2 X hkk hdg (of_decide_eq_true h1)
      · cases h1
    case getstatic ix =>
      simp only [zckI, Bool.and_eq_true, decide_eq_true_eq] at hc
      obtain ⟨rfl, h1⟩ := hc
      simp only [zst]
      split at h1
      · simp only [Bool.and_eq_true, decide_eq_true_eq] at h1
        obtain ⟨rfl, h1⟩ := h1
        exact zs_getsI X hkk hdg h1
      · simp only [Bool.and_eq_true, decide_eq_true_eq] at h1
        obtain ⟨rfl, h1⟩ := h1
        exact zs_gets2 X hkk hdg h1
      · exact zs_gets3 X hkk hdg (of_decide_eq_true h1)
      · cases h1
    case getfield ix =>
      simp only [zckI, Bool.and_eq_true, decide_eq_true_eq] at hc
      obtain ⟨rfl, h1⟩ := hc
      simp only [zst]
      by_cases h99 : zax ax 0 = 99
      · simp only [h99, if_true] at h1 ⊢
        simp only [Bool.and_eq_true, Bool.or_eq_true, decide_eq_true_eq] at h1
        rcases h1 with ⟨h2, h1⟩ | ⟨h2, h1⟩
        · exact zs_getfieldS X hkk (q := ("value", "[B")) hdg (Or.inl ⟨h2, rfl⟩) h1
        · exact zs_getfieldS X hkk (q := ("coder", "B")) hdg (Or.inr ⟨h2, rfl⟩) h1
      · simp only [h99, if_false] at h1 ⊢
        split at h1
        · rename_i q hq
          simp only [Bool.and_eq_true, decide_eq_true_eq] at h1
          exact zs_getfield X hkk hdg hq h1.1 h1.2.1 (of_decide_eq_true h1.2.2)
        · cases h1
    case putfield ix =>
      simp only [zckI, Bool.and_eq_true, decide_eq_true_eq] at hc
      obtain ⟨rfl, h1⟩ := hc
      simp only [zst]
      split at h1
      · rename_i q hq
        simp only [Bool.and_eq_true, Bool.or_eq_true, decide_eq_true_eq] at h1
        exact zs_putfield X hkk hdg hq h1.1 h1.2.1 h1.2.2.1 (of_decide_eq_true h1.2.2.2.1) h1.2.2.2.2
      · cases h1
    case new ix =>
      simp only [zckI, Bool.and_eq_true, decide_eq_true_eq] at hc
      obtain ⟨rfl, h1⟩ := hc
      simp only [zst]
      split at h1
      · rename_i q hq
        simp only [Bool.and_eq_true, decide_eq_true_eq] at h1
        rw [h1.1]
        exact zs_new X hkk hkm hroom hdg hq h1.2.1 h1.2.2.1 h1.2.2.2
      · cases h1
    case newarray a =>
      simp only [zckI, Bool.and_eq_true, decide_eq_true_eq] at hc
      obtain ⟨rfl, h1, h2, h3⟩ := hc
      simp only [zst]
      exact zs_newarray X hkk hkm hroom hdg h1 (by simpa using h2) h3
    case anewarray ix =>
      simp only [zckI, Bool.and_eq_true, decide_eq_true_eq] at hc
      obtain ⟨rfl, h1⟩ := hc
      simp only [zst]
      simp only [Bool.and_eq_true, Bool.or_eq_true, decide_eq_true_eq] at h1
      rcases h1 with ⟨h2, h3, h4⟩ | ⟨h2, h3, h4⟩
      · exact zs_anewarray X hkk hkm hroom hdg (C := "CoasterDay$Day") (by rw [h2]; rfl) (Or.inl h2) h3 h4
      · exact zs_anewarray X hkk hkm hroom hdg (C := "CoasterDay$NumberRow") (by rw [h2]; rfl) (Or.inr h2) h3 h4
    case invokestatic ix =>
      simp only [zckI, Bool.and_eq_true, decide_eq_true_eq] at hc
      obtain ⟨rfl, h1⟩ := hc
      simp only [zst]
      by_cases h3 : zax ax 3 = 1
      · simp only [h3, if_true] at h1 ⊢
        exact zs_arraycopy X hkk hdg (of_decide_eq_true h1)
      · simp only [h3, if_false] at h1 ⊢
        by_cases h4 : zax ax 3 = 2
        · simp only [h4, if_true] at h1 ⊢
          simp only [Bool.and_eq_true, decide_eq_true_eq] at h1
          refine zs_math X hkk hkm hroom hdg h1.2 ?_
          have h5 := h1.1
          generalize zax ax 0 = k at h5
          match k, h5 with
          | 0, _ => exact Or.inl ⟨rfl, rfl⟩
          | 1, _ => exact Or.inr (Or.inl ⟨rfl, rfl⟩)
          | 2, _ => exact Or.inr (Or.inr (Or.inl ⟨rfl, rfl⟩))
          | 3, _ => exact Or.inr (Or.inr (Or.inr (Or.inl ⟨rfl, rfl⟩)))
          | 4, _ => exact Or.inr (Or.inr (Or.inr (Or.inr ⟨rfl, rfl⟩)))
          | k + 5, h5 => exact absurd h5 (by omega)
        simp only [h4, if_false] at h1 ⊢
        split at h1
        · rename_i t ht
          simp only [Bool.and_eq_true, decide_eq_true_eq] at h1
          exact zs_invokestatic X hkk hkm hroom hcall ht (hmt _ _ ht) hdg (zlnk_s h1.1) h1.2.1 h1.2.2
        · rename_i ht
          exact zCo_none (fun ls st M => zpop_n fun as st => zgd_n (zrk_n (zCd_none ht)))
    case invokevirtual ix =>
      simp only [zckI, Bool.and_eq_true, decide_eq_true_eq] at hc
      obtain ⟨rfl, h1⟩ := hc
      simp only [zst]
      split at h1
      · rename_i t ht
        simp only [Bool.and_eq_true, Bool.or_eq_true, decide_eq_true_eq, Bool.not_eq_true', decide_eq_false_iff_not] at h1
        have hvk : zmV t - 1 = 99 ∨ ∃ q, vwCl[zmV t - 1]? = some q := by
          rcases h1.2.1.2 with g | g
          · exact Or.inl g
          · exact Or.inr (zcl_lt g)
        exact zs_invokevirtual X hkk hkm hroom hcall ht (hmt _ _ ht) hdg (zlnk_s h1.1) h1.2.1.1 hvk h1.2.2.1 h1.2.2.2
      · rename_i ht
        exact zCo_none (fun ls st M => zpop_n fun as st => zgd_n (zrk_n (zCd_none ht)))
    case invokespecial ix =>
      simp only [zckI, Bool.and_eq_true, decide_eq_true_eq] at hc
      obtain ⟨rfl, h1⟩ := hc
      simp only [zst]
      by_cases h3 : zax ax 3 = 1
      · rw [h3]
        simp only [h3, if_true] at h1
        simp only [Bool.and_eq_true, decide_eq_true_eq] at h1
        exact zs_objInit (y := fun _ => zCd T d (zax ax 0)) X hkk hdg h1.2 h1.1
      · simp only [h3, if_false] at h1 ⊢
        split at h1
        · rename_i t ht
          simp only [Bool.and_eq_true, Bool.or_eq_true, decide_eq_true_eq, Bool.not_eq_true', decide_eq_false_iff_not] at h1
          have hvk : zmV t - 1 = 99 ∨ ∃ q, vwCl[zmV t - 1]? = some q := by
            rcases h1.2.1.2 with g | g
            · exact Or.inl g
            · exact Or.inr (zcl_lt g)
          exact zs_invokespecial X hkk hkm hroom hcall ht (hmt _ _ ht) hdg (zlnk_s h1.1) h1.2.1.1 hvk h1.2.2.1 h1.2.2.2.1 h1.2.2.2.2
        · rename_i ht
          exact zCo_none (fun ls st M => zpop_n fun as st => zgd_n (zrk_n (zCd_none ht)))
    case nop => exact absurd rfl hI
    all_goals exact zCo_none (fun _ _ _ => rfl)
end
