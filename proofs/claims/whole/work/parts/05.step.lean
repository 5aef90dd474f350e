/-! one step of a method's frame: what it pops, what it pushes, what it does to the abstract heap -/
abbrev EN : Type := Nat × Instr × Nat × List Nat
abbrev MI : Type := MethodName × ByteArray × Nat × Option FieldType × List (Nat × Nat × Nat × Nat) × List EN
abbrev SR : Type := Nat × List (Option Value) × List Value × AH
def pI (st : List Value) (f : Int32 → List Value → Option SR) : Option SR := match st with
  | .int x :: r => f x r
  | _ => none
def pJ (st : List Value) (f : Int64 → List Value → Option SR) : Option SR := match st with
  | .long x :: r => f x r
  | _ => none
def pR (st : List Value) (f : Nat → List Value → Option SR) : Option SR := match st with
  | .ref x :: r => f x r
  | _ => none
def pQ (st : List Value) (f : Option Nat → List Value → Option SR) : Option SR := match st with
  | .ref x :: r => f (some x) r
  | .null :: r => f none r
  | _ => none
/-- a value of one slot -/
def p1 (st : List Value) (f : Value → List Value → Option SR) : Option SR := match st with
  | .int x :: r => f (.int x) r
  | .ref x :: r => f (.ref x) r
  | .null :: r => f .null r
  | _ => none
def gI (lv : List (Option Value)) (i : Nat) (f : Int32 → Option SR) : Option SR := match lv[i]? with
  | some (some (.int x)) => f x
  | _ => none
def gJ (lv : List (Option Value)) (i : Nat) (f : Int64 → Option SR) : Option SR := match lv[i]? with
  | some (some (.long x)) => f x
  | _ => none
def gQ (lv : List (Option Value)) (i : Nat) (f : Option Nat → Option SR) : Option SR := match lv[i]? with
  | some (some (.ref x)) => f (some x)
  | some (some .null) => f none
  | _ => none
/-- a value that a field of the type takes -/
def fitv (ty : FieldType) (v : Value) : Bool := match ty, v with
  | .int, .int _ => true
  | .boolean, .int x => x == 0 || x == 1
  | .object _, .ref _ => true
  | .object _, .null => true
  | .array _, .ref _ => true
  | .array _, .null => true
  | _, _ => false
def bI (i : Int32) (n : Nat) (z : Option SR) : Option SR := if i < 0 ∨ n ≤ i.toNatClampNeg then none else z
theorem pI_inv {st : List Value} {f : Int32 → List Value → Option SR} {z : SR} (h : pI st f = some z) : ∃ x r, st = .int x :: r ∧ f x r = some z := by
  unfold pI at h
  split at h
  · exact ⟨_, _, rfl, h⟩
  · cases h
theorem pJ_inv {st : List Value} {f : Int64 → List Value → Option SR} {z : SR} (h : pJ st f = some z) : ∃ x r, st = .long x :: r ∧ f x r = some z := by
  unfold pJ at h
  split at h
  · exact ⟨_, _, rfl, h⟩
  · cases h
theorem pR_inv {st : List Value} {f : Nat → List Value → Option SR} {z : SR} (h : pR st f = some z) : ∃ x r, st = .ref x :: r ∧ f x r = some z := by
  unfold pR at h
  split at h
  · exact ⟨_, _, rfl, h⟩
  · cases h
theorem pQ_inv {st : List Value} {f : Option Nat → List Value → Option SR} {z : SR} (h : pQ st f = some z) : ∃ x r, st = va_rf x :: r ∧ f x r = some z := by
  unfold pQ at h
  split at h
  · exact ⟨_, _, rfl, h⟩
  · exact ⟨_, _, rfl, h⟩
  · cases h
theorem p1_inv {st : List Value} {f : Value → List Value → Option SR} {z : SR} (h : p1 st f = some z) : ∃ v r, st = v :: r ∧ v.category = 1 ∧ f v r = some z := by
  unfold p1 at h
  split at h
  · exact ⟨_, _, rfl, rfl, h⟩
  · exact ⟨_, _, rfl, rfl, h⟩
  · exact ⟨_, _, rfl, rfl, h⟩
  · cases h
theorem gI_inv {lv : List (Option Value)} {i : Nat} {f : Int32 → Option SR} {z : SR} (h : gI lv i f = some z) : ∃ x, lv[i]? = some (some (.int x)) ∧ f x = some z := by
  unfold gI at h
  split at h
  · exact ⟨_, by assumption, h⟩
  · cases h
theorem gJ_inv {lv : List (Option Value)} {i : Nat} {f : Int64 → Option SR} {z : SR} (h : gJ lv i f = some z) : ∃ x, lv[i]? = some (some (.long x)) ∧ f x = some z := by
  unfold gJ at h
  split at h
  · exact ⟨_, by assumption, h⟩
  · cases h
theorem gQ_inv {lv : List (Option Value)} {i : Nat} {f : Option Nat → Option SR} {z : SR} (h : gQ lv i f = some z) : ∃ x, lv[i]? = some (some (va_rf x)) ∧ f x = some z := by
  unfold gQ at h
  split at h
  · exact ⟨_, by assumption, h⟩
  · exact ⟨none, by assumption, h⟩
  · cases h
theorem bI_inv {i : Int32} {n : Nat} {z : Option SR} {y : SR} (h : bI i n z = some y) : vp_in i n ∧ z = some y := by
  unfold bI at h
  split at h
  · cases h
  · exact ⟨by assumption, h⟩
def aI (h : AH) (a : Nat) (f : FieldType → Nat → (Nat → Value) → Option SR) : Option SR := match h.2.2 a with
  | some (.inl (ty, n, g)) => f ty n g
  | _ => none
theorem aI_inv {h : AH} {a : Nat} {f : FieldType → Nat → (Nat → Value) → Option SR} {z : SR} (hh : aI h a f = some z) : ∃ ty n g, h.2.2 a = some (.inl (ty, n, g)) ∧ f ty n g = some z := by
  unfold aI at hh
  split at hh
  · exact ⟨_, _, _, by assumption, hh⟩
  · cases hh
def oI (h : AH) (a : Nat) (f : Nat → List Value → Option SR) : Option SR := match h.2.2 a with
  | some (.inr (ci, fs)) => f ci fs
  | _ => none
theorem oI_inv {h : AH} {a : Nat} {f : Nat → List Value → Option SR} {z : SR} (hh : oI h a f = some z) : ∃ ci fs, h.2.2 a = some (.inr (ci, fs)) ∧ f ci fs = some z := by
  unfold oI at hh
  split at hh
  · exact ⟨_, _, by assumption, hh⟩
  · cases hh
def iff' (c : Prop) [Decidable c] (z : Option SR) : Option SR := if c then z else none
theorem iff'_inv {c : Prop} [Decidable c] {z : Option SR} {y : SR} (h : iff' c z = some y) : c ∧ z = some y := by
  unfold iff' at h
  split at h
  · exact ⟨by assumption, h⟩
  · cases h
def nI1 (l : List Nat) (f : Nat → Option SR) : Option SR := match l with
  | a :: _ => f a
  | _ => none
def nI3 (l : List Nat) (f : Nat → Nat → Option SR) : Option SR := match l with
  | _ :: a :: b :: _ => f a b
  | _ => none
def newT (at_ : ArrayType) : Option FieldType := match at_ with
  | .int => some .int
  | .long => some .long
  | .byte => some .byte
  | .boolean => some .boolean
  | _ => none
/-- the step: sb, sL, sx are the script's place, length and ints -/
def stp (sb sL : Nat) (sx : Nat → Int32) (nL : Nat) (ins : Instr) (nx : Nat) (ri : List Nat) (lv : List (Option Value)) (st : List Value) (h : AH) : Option SR :=
  match ins with
  | .iconst n => some (nx, lv, .int (Int32.ofInt n) :: st, h)
  | .bipush n => some (nx, lv, .int (Int8.ofInt n).toInt32 :: st, h)
  | .sipush n => some (nx, lv, .int (Int16.ofInt n).toInt32 :: st, h)
  | .lconst n => some (nx, lv, .long (Int64.ofNat (n : Nat)) :: st, h)
  | .aconst_null => some (nx, lv, .null :: st, h)
  | .ldc _ => nI1 ri fun r => match KI[r]? with
    | some q => some (nx, lv, .int q.2.2.1 :: st, h)
    | none => none
  | .ldc2_w _ => nI1 ri fun r => match KJ[r]? with
    | some q => some (nx, lv, .long q.2.2.1 :: st, h)
    | none => none
  | .iload_n k => gI lv k fun x => some (nx, lv, .int x :: st, h)
  | .iload k => gI lv k fun x => some (nx, lv, .int x :: st, h)
  | .lload_n k => gJ lv k fun x => some (nx, lv, .long x :: st, h)
  | .lload k => gJ lv k fun x => some (nx, lv, .long x :: st, h)
  | .aload_n k => gQ lv k fun x => some (nx, lv, va_rf x :: st, h)
  | .aload k => gQ lv k fun x => some (nx, lv, va_rf x :: st, h)
  | .istore_n k => pI st fun x st => iff' ((k : Nat) < nL) (some (nx, lv1 lv k (.int x), st, h))
  | .istore k => pI st fun x st => iff' (k < nL) (some (nx, lv1 lv k (.int x), st, h))
  | .lstore_n k => pJ st fun x st => iff' ((k : Nat) + 1 < nL) (some (nx, lv2 lv k (.long x), st, h))
  | .lstore k => pJ st fun x st => iff' (k + 1 < nL) (some (nx, lv2 lv k (.long x), st, h))
  | .astore_n k => pQ st fun x st => iff' ((k : Nat) < nL) (some (nx, lv1 lv k (va_rf x), st, h))
  | .astore k => pQ st fun x st => iff' (k < nL) (some (nx, lv1 lv k (va_rf x), st, h))
  | .iinc k n => gI lv k fun x => iff' (k < nL) (some (nx, lv1 lv k (.int (x + Int32.ofInt n)), st, h))
  | .iadd => pI st fun y st => pI st fun x st => some (nx, lv, .int (x + y) :: st, h)
  | .isub => pI st fun y st => pI st fun x st => some (nx, lv, .int (x - y) :: st, h)
  | .imul => pI st fun y st => pI st fun x st => some (nx, lv, .int (x * y) :: st, h)
  | .iand => pI st fun y st => pI st fun x st => some (nx, lv, .int (x &&& y) :: st, h)
  | .ior => pI st fun y st => pI st fun x st => some (nx, lv, .int (x ||| y) :: st, h)
  | .idiv => pI st fun y st => pI st fun x st => iff' (¬ y = 0) (some (nx, lv, .int (x / y) :: st, h))
  | .irem => pI st fun y st => pI st fun x st => iff' (¬ y = 0) (some (nx, lv, .int (x - x / y * y) :: st, h))
  | .ishl => pI st fun y st => pI st fun x st => some (nx, lv, .int (x <<< (y &&& 31)) :: st, h)
  | .ishr => pI st fun y st => pI st fun x st => some (nx, lv, .int (x >>> (y &&& 31)) :: st, h)
  | .iushr => pI st fun y st => pI st fun x st => some (nx, lv, .int (x.toUInt32 >>> (y.toUInt32 &&& Int32.toUInt32 31)).toInt32 :: st, h)
  | .ladd => pJ st fun y st => pJ st fun x st => some (nx, lv, .long (x + y) :: st, h)
  | .lsub => pJ st fun y st => pJ st fun x st => some (nx, lv, .long (x - y) :: st, h)
  | .lmul => pJ st fun y st => pJ st fun x st => some (nx, lv, .long (x * y) :: st, h)
  | .land => pJ st fun y st => pJ st fun x st => some (nx, lv, .long (x &&& y) :: st, h)
  | .lor => pJ st fun y st => pJ st fun x st => some (nx, lv, .long (x ||| y) :: st, h)
  | .lshl => pI st fun y st => pJ st fun x st => some (nx, lv, .long (x <<< (y.toInt64 &&& 63)) :: st, h)
  | .lshr => pI st fun y st => pJ st fun x st => some (nx, lv, .long (x >>> (y.toInt64 &&& 63)) :: st, h)
  | .lushr => pI st fun y st => pJ st fun x st => some (nx, lv, .long (x.toUInt64 >>> (y.toInt64.toUInt64 &&& Int64.toUInt64 63)).toInt64 :: st, h)
  | .lcmp => pJ st fun y st => pJ st fun x st => some (nx, lv, .int (lg_cmp x y) :: st, h)
  | .i2l => pI st fun x st => some (nx, lv, .long x.toInt64 :: st, h)
  | .l2i => pJ st fun x st => some (nx, lv, .int x.toInt32 :: st, h)
  | .i2b => pI st fun x st => some (nx, lv, .int x.toInt8.toInt32 :: st, h)
  | .dup => p1 st fun v st => some (nx, lv, v :: v :: st, h)
  | .pop => p1 st fun _ st => some (nx, lv, st, h)
  | .dup_x1 => p1 st fun v st => p1 st fun w st => some (nx, lv, v :: w :: v :: st, h)
  | .dup_x2 => p1 st fun v st => p1 st fun w st => p1 st fun u st => some (nx, lv, v :: w :: u :: v :: st, h)
  | .dup2 => p1 st fun v st => p1 st fun w st => some (nx, lv, v :: w :: v :: w :: st, h)
  | .goto _ => nI1 ri fun t => some (t, lv, st, h)
  | .ifCond c _ => nI1 ri fun t => pI st fun x st => some (match c with
    | .eq => if x = 0 then t else nx
    | .ne => if x = 0 then nx else t
    | .lt => if x < 0 then t else nx
    | .ge => if 0 ≤ x then t else nx
    | .gt => if 0 < x then t else nx
    | .le => if x ≤ 0 then t else nx, lv, st, h)
  | .if_icmp c _ => nI1 ri fun t => pI st fun y st => pI st fun x st => some (match c with
    | .eq => if x = y then t else nx
    | .ne => if x = y then nx else t
    | .lt => if x < y then t else nx
    | .ge => if y ≤ x then t else nx
    | .gt => if y < x then t else nx
    | .le => if x ≤ y then t else nx, lv, st, h)
  | .ifnull _ => nI1 ri fun t => pQ st fun x st => some (match x with | none => t | some _ => nx, lv, st, h)
  | .ifnonnull _ => nI1 ri fun t => pQ st fun x st => some (match x with | none => nx | some _ => t, lv, st, h)
  | .if_acmp c _ => nI1 ri fun t => pQ st fun y st => pQ st fun x st => some (match c with
    | .eq => if x = y then t else nx
    | .ne => if x = y then nx else t, lv, st, h)
  | .tableswitch _ lo hi _ => pI st fun x st => if x.toInt < lo ∨ hi < x.toInt then nI1 ri fun t => some (t, lv, st, h) else (ri[(x.toInt - lo).toNat + 1]?).bind fun t => some (t, lv, st, h)
  | .getfield _ => nI3 ri fun ci k => pR st fun a st => oI h a fun cj fs => iff' (cj = ci) ((fs[k]?).bind fun v => some (nx, lv, v :: st, h))
  | .putfield _ => nI3 ri fun ci k => match st with
    | v :: st => pR st fun a st => oI h a fun cj fs => iff' (cj = ci) (match (vty.getD ci [])[k]? with
      | some ty => iff' (fitv ty v = true) (some (nx, lv, st, hput h a (.inr (ci, fs.set k v))))
      | none => none)
    | _ => none
  | .arraylength => pR st fun a st => if a = sb then some (nx, lv, .int (Int32.ofNat sL) :: st, h) else aI h a fun _ n _ => some (nx, lv, .int (Int32.ofNat n) :: st, h)
  | .iaload => pI st fun i st => pR st fun a st => if a = sb then bI i sL (some (nx, lv, .int (sx i.toNatClampNeg) :: st, h)) else aI h a fun ty n f => match ty with
    | .int => bI i n (some (nx, lv, f i.toNatClampNeg :: st, h))
    | _ => none
  | .laload => pI st fun i st => pR st fun a st => aI h a fun ty n f => match ty with
    | .long => bI i n (some (nx, lv, f i.toNatClampNeg :: st, h))
    | _ => none
  | .baload => pI st fun i st => pR st fun a st => aI h a fun ty n f => match ty with
    | .byte => bI i n (some (nx, lv, f i.toNatClampNeg :: st, h))
    | .boolean => bI i n (some (nx, lv, f i.toNatClampNeg :: st, h))
    | _ => none
  | .aaload => pI st fun i st => pR st fun a st => aI h a fun ty n f => match ty with
    | .object _ => bI i n (some (nx, lv, f i.toNatClampNeg :: st, h))
    | .array _ => bI i n (some (nx, lv, f i.toNatClampNeg :: st, h))
    | _ => none
  | .iastore => pI st fun x st => pI st fun i st => pR st fun a st => aI h a fun ty n f => match ty with
    | .int => bI i n (some (nx, lv, st, hput h a (.inl (.int, n, updV f i.toNatClampNeg (.int x)))))
    | _ => none
  | .lastore => pJ st fun x st => pI st fun i st => pR st fun a st => aI h a fun ty n f => match ty with
    | .long => bI i n (some (nx, lv, st, hput h a (.inl (.long, n, updV f i.toNatClampNeg (.long x)))))
    | _ => none
  | .bastore => pI st fun x st => pI st fun i st => pR st fun a st => aI h a fun ty n f => match ty with
    | .byte => bI i n (some (nx, lv, st, hput h a (.inl (.byte, n, updV f i.toNatClampNeg (narrow .byte (.int x))))))
    | .boolean => bI i n (some (nx, lv, st, hput h a (.inl (.boolean, n, updV f i.toNatClampNeg (narrow .boolean (.int x))))))
    | _ => none
  | .aastore => pQ st fun x st => pI st fun i st => pR st fun a st => aI h a fun ty n f => match ty with
    | .object C => bI i n (match x with
      | none => some (nx, lv, st, hput h a (.inl (.object C, n, updV f i.toNatClampNeg .null)))
      | some v => oI h v fun cj _ => iff' ((vcl[cj]?).map (fun q => q.1) = some C) (some (nx, lv, st, hput h a (.inl (.object C, n, updV f i.toNatClampNeg (.ref v))))))
    | _ => none
  | .newarray at_ => pI st fun n st => match newT at_ with
    | some ty => iff' (¬ (n < 0 ∨ 1000000 < n.toNatClampNeg)) (some (nx, lv, .ref h.1 :: st, hnew h (.inl (ty, n.toNatClampNeg, fun _ => defaultValue ty)) n.toNatClampNeg))
    | none => none
  | .anewarray _ => nI1 ri fun t => pI st fun n st => match atys[t]? with
    | some (.object C) => iff' (¬ (n < 0 ∨ 1000000 < n.toNatClampNeg)) (some (nx, lv, .ref h.1 :: st, hnew h (.inl (.object C, n.toNatClampNeg, fun _ => .null)) n.toNatClampNeg))
    | _ => none
  | .new _ => nI1 ri fun ci => match vty[ci]? with
    | some ts => some (nx, lv, .ref h.1 :: st, hnew h (.inr (ci, ts.map defaultValue)) ts.length)
    | none => none
  | _ => none
