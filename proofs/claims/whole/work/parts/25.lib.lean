/-! ints by their values -/
abbrev vI (z : Int) : Value := .int (Int32.ofInt z)
abbrev vJ (z : Int) : Value := .long (Int64.ofInt z)
theorem i_int {x : Int} (h1 : -2147483648 ≤ x) (h2 : x ≤ 2147483647) : (Int32.ofInt x).toInt = x := Int32.toInt_ofInt_of_le (by omega) (by omega)
theorem i_lt {x y : Int} (h1 : -2147483648 ≤ x) (h2 : x ≤ 2147483647) (h3 : -2147483648 ≤ y) (h4 : y ≤ 2147483647) : Int32.ofInt x < Int32.ofInt y ↔ x < y := by
  rw [Int32.lt_iff_toInt_lt, i_int h1 h2, i_int h3 h4]
theorem i_le {x y : Int} (h1 : -2147483648 ≤ x) (h2 : x ≤ 2147483647) (h3 : -2147483648 ≤ y) (h4 : y ≤ 2147483647) : Int32.ofInt x ≤ Int32.ofInt y ↔ x ≤ y := by
  rw [Int32.le_iff_toInt_le, i_int h1 h2, i_int h3 h4]
theorem i_eq {x y : Int} (h1 : -2147483648 ≤ x) (h2 : x ≤ 2147483647) (h3 : -2147483648 ≤ y) (h4 : y ≤ 2147483647) : Int32.ofInt x = Int32.ofInt y ↔ x = y := by
  rw [← Int32.toInt_inj, i_int h1 h2, i_int h3 h4]
theorem i_zero : (0 : Int32) = Int32.ofInt 0 := rfl
theorem i_eq0 {x : Int} (h1 : -2147483648 ≤ x) (h2 : x ≤ 2147483647) : Int32.ofInt x = 0 ↔ x = 0 := by
  rw [i_zero, i_eq h1 h2 (by omega) (by omega)]
theorem i_clamp {x : Int} (h1 : 0 ≤ x) (h2 : x ≤ 2147483647) : (Int32.ofInt x).toNatClampNeg = x.toNat := by
  rw [← Int32.toNat_toInt, i_int (by omega) h2]
theorem i_in {x : Int} {n : Nat} (h1 : 0 ≤ x) (h2 : x < n) (h3 : n ≤ 2147483647) : ¬ (Int32.ofInt x < 0 ∨ n ≤ (Int32.ofInt x).toNatClampNeg) := by
  rw [i_zero, i_lt (by omega) (by omega) (by omega) (by omega), i_clamp h1 (by omega)]
  omega
theorem i_of (x : Int32) : Value.int x = vI x.toInt := by rw [vI, Int32.ofInt_toInt]
theorem i_lo (x : Int32) : -2147483648 ≤ x.toInt := by
  have := x.le_toInt; omega
theorem i_hi (x : Int32) : x.toInt ≤ 2147483647 := by
  have := x.toInt_lt; omega
theorem i_min : Int32.minValue.toInt = -2147483648 := rfl
theorem i_max : Int32.maxValue.toInt = 2147483647 := rfl
theorem i_div {x y : Int} (h1 : 0 ≤ x) (h2 : x ≤ 2147483647) (h3 : 0 < y) (h4 : y ≤ 2147483647) : Int32.ofInt x / Int32.ofInt y = Int32.ofInt (x / y) := by
  have := Int32.ofInt_tdiv (a := x) (b := y) (by rw [i_min]; omega) (by rw [i_max]; omega) (by rw [i_min]; omega) (by rw [i_max]; omega)
  rw [← this, Int.tdiv_eq_ediv_of_nonneg h1]
theorem i_rem {x y : Int} (h1 : 0 ≤ x) (h2 : x ≤ 2147483647) (h3 : 0 < y) (h4 : y ≤ 2147483647) : Int32.ofInt x - Int32.ofInt x / Int32.ofInt y * Int32.ofInt y = Int32.ofInt (x % y) := by
  rw [i_div h1 h2 h3 h4, ← Int32.ofInt_mul, ← Int32.ofInt_sub]
  congr 1
  have := Int.emod_def x y
  rw [this, Int.mul_comm]
/-! the rules -/
section Wps
variable {b L : Nat} {xs : Nat → Int32} {d : Nat} {M : MI} {pc nx : Nat} {ri : List Nat} {lv : List (Option Value)} {st : List Value} {h : AH} {Q : AH → RO → Prop}
theorem Wp.mono {Q' : AH → RO → Prop} (w : Wp b L xs d M pc lv st h Q) (k : ∀ h' o, Q h' o → Q' h' o) : Wp b L xs d M pc lv st h Q' := by
  obtain ⟨n, h', o, e, q⟩ := w
  exact ⟨n, h', o, e, k _ _ q⟩
theorem W_st {ins : Instr} {z : SR} (q : fet (mE M) pc = some (ins, nx, ri)) (hd : ∀ rc : RF, dpF b L xs rc d M pc ins nx ri lv st h = stF b L xs rc d M ins nx ri lv st h) (hs : stp b L xs (mL M) ins nx ri lv st h = some z) (k : Wp b L xs d M z.1 z.2.1 z.2.2.1 z.2.2.2 Q) : Wp b L xs d M pc lv st h Q := by
  obtain ⟨n, h', o, e, hq⟩ := k
  refine ⟨n + 1, h', o, ?_, hq⟩
  show (match fet (mE M) pc with | none => none | some q => dpF b L xs (rnF b L xs n) d M pc q.1 q.2.1 q.2.2 lv st h) = some (h', o)
  rw [q]
  show dpF b L xs (rnF b L xs n) d M pc ins nx ri lv st h = some (h', o)
  rw [hd]
  unfold stF
  rw [hs]
  exact e
theorem W_fi {ins : Instr} {v : Option Value} (q : fet (mE M) pc = some (ins, nx, ri)) (hd : ∀ rc : RF, dpF b L xs rc d M pc ins nx ri lv st h = fiF M ins st h) (hs : retV (mR M) ins st = some v) (k : Q h (.inl v)) : Wp b L xs d M pc lv st h Q := by
  refine ⟨1, h, .inl v, ?_, k⟩
  show (match fet (mE M) pc with | none => none | some q => dpF b L xs (rnF b L xs 0) d M pc q.1 q.2.1 q.2.2 lv st h) = _
  rw [q]
  show dpF b L xs (rnF b L xs 0) d M pc ins nx ri lv st h = _
  rw [hd]
  unfold fiF
  rw [hs]
theorem w_ireturn {x : Int} (q : fet (mE M) pc = some (.ireturn, nx, ri)) (hr : mR M = some .int) (k : Q h (.inl (some (vI x)))) : Wp b L xs d M pc lv [vI x] h Q := W_fi q (fun _ => rfl) (by rw [hr]; rfl) k
theorem w_zreturn {x : Int} (q : fet (mE M) pc = some (.ireturn, nx, ri)) (hr : mR M = some .boolean) (hx : x = 0 ∨ x = 1) (k : Q h (.inl (some (vI x)))) : Wp b L xs d M pc lv [vI x] h Q := W_fi q (fun _ => rfl) (by
  rw [hr]
  show (if Int32.ofInt x = 0 ∨ Int32.ofInt x = 1 then some (some (vI x)) else none) = _
  rw [if_pos]
  rcases hx with rfl | rfl
  · exact Or.inl rfl
  · exact Or.inr rfl) k
theorem w_lreturn {x : Int64} (q : fet (mE M) pc = some (.lreturn, nx, ri)) (hr : mR M = some .long) (k : Q h (.inl (some (.long x)))) : Wp b L xs d M pc lv [.long x] h Q := W_fi q (fun _ => rfl) (by rw [hr]; rfl) k
theorem w_areturn {a : Nat} {C : String} (q : fet (mE M) pc = some (.areturn, nx, ri)) (hr : mR M = some (.object C)) (k : Q h (.inl (some (.ref a)))) : Wp b L xs d M pc lv [.ref a] h Q := W_fi q (fun _ => rfl) (by rw [hr]; rfl) k
theorem w_areturnA {a : Nat} {C : FieldType} (q : fet (mE M) pc = some (.areturn, nx, ri)) (hr : mR M = some (.array C)) (k : Q h (.inl (some (.ref a)))) : Wp b L xs d M pc lv [.ref a] h Q := W_fi q (fun _ => rfl) (by rw [hr]; rfl) k
theorem w_areturnN {C : String} (q : fet (mE M) pc = some (.areturn, nx, ri)) (hr : mR M = some (.object C)) (k : Q h (.inl (some .null))) : Wp b L xs d M pc lv [.null] h Q := W_fi q (fun _ => rfl) (by rw [hr]; rfl) k
theorem w_areturnQ {x : Option Nat} {C : String} (q : fet (mE M) pc = some (.areturn, nx, ri)) (hr : mR M = some (.object C)) (k : Q h (.inl (some (va_rf x)))) : Wp b L xs d M pc lv [va_rf x] h Q := by
  cases x with
  | none => exact w_areturnN q hr k
  | some a => exact w_areturn q hr k
theorem w_return (q : fet (mE M) pc = some (.return_, nx, ri)) (hr : mR M = none) (k : Q h (.inl none)) : Wp b L xs d M pc lv [] h Q := W_fi q (fun _ => rfl) (by rw [hr]; rfl) k
theorem w_iconst {n : Int} (q : fet (mE M) pc = some (.iconst n, nx, ri)) (k : Wp b L xs d M nx lv (vI n :: st) h Q) : Wp b L xs d M pc lv st h Q := W_st q (fun _ => rfl) rfl k
theorem w_bipush {n : Int} (q : fet (mE M) pc = some (.bipush n, nx, ri)) (hn : (Int8.ofInt n).toInt32 = Int32.ofInt n) (k : Wp b L xs d M nx lv (vI n :: st) h Q) : Wp b L xs d M pc lv st h Q := W_st q (fun _ => rfl) (z := (nx, lv, vI n :: st, h)) (by show some (nx, lv, Value.int (Int8.ofInt n).toInt32 :: st, h) = _; rw [hn]) k
theorem w_sipush {n : Int} (q : fet (mE M) pc = some (.sipush n, nx, ri)) (hn : (Int16.ofInt n).toInt32 = Int32.ofInt n) (k : Wp b L xs d M nx lv (vI n :: st) h Q) : Wp b L xs d M pc lv st h Q := W_st q (fun _ => rfl) (z := (nx, lv, vI n :: st, h)) (by show some (nx, lv, Value.int (Int16.ofInt n).toInt32 :: st, h) = _; rw [hn]) k
theorem w_lconst {n : Fin 2} (q : fet (mE M) pc = some (.lconst n, nx, ri)) (k : Wp b L xs d M nx lv (.long (Int64.ofNat (n : Nat)) :: st) h Q) : Wp b L xs d M pc lv st h Q := W_st q (fun _ => rfl) rfl k
theorem w_aconst_null (q : fet (mE M) pc = some (.aconst_null, nx, ri)) (k : Wp b L xs d M nx lv (.null :: st) h Q) : Wp b L xs d M pc lv st h Q := W_st q (fun _ => rfl) rfl k
theorem w_ldc {i r : Nat} {z : Int} {w : String × Nat × Int32 × Nat} (q : fet (mE M) pc = some (.ldc i, nx, r :: ri)) (hw : KI[r]? = some w) (hz : w.2.2.1 = Int32.ofInt z) (k : Wp b L xs d M nx lv (vI z :: st) h Q) : Wp b L xs d M pc lv st h Q := W_st q (fun _ => rfl) (z := (nx, lv, vI z :: st, h)) (by
  show (match KI[r]? with | some q => some (nx, lv, Value.int q.2.2.1 :: st, h) | none => none) = _
  rw [hw]
  show some (nx, lv, Value.int w.2.2.1 :: st, h) = _
  rw [hz]) k
theorem w_ldc2 {i r : Nat} {w : String × Nat × Int64 × Nat} (q : fet (mE M) pc = some (.ldc2_w i, nx, r :: ri)) (hw : KJ[r]? = some w) (k : Wp b L xs d M nx lv (.long w.2.2.1 :: st) h Q) : Wp b L xs d M pc lv st h Q := W_st q (fun _ => rfl) (z := (nx, lv, .long w.2.2.1 :: st, h)) (by
  show (match KJ[r]? with | some q => some (nx, lv, Value.long q.2.2.1 :: st, h) | none => none) = _
  rw [hw]) k
theorem w_iload_n {i : Fin 4} {x : Int} (q : fet (mE M) pc = some (.iload_n i, nx, ri)) (hl : lv[(i : Nat)]? = some (some (vI x))) (k : Wp b L xs d M nx lv (vI x :: st) h Q) : Wp b L xs d M pc lv st h Q := W_st q (fun _ => rfl) (z := (nx, lv, vI x :: st, h)) (by show gI lv i _ = _; unfold gI; rw [hl]) k
theorem w_iload {i : Nat} {x : Int} (q : fet (mE M) pc = some (.iload i, nx, ri)) (hl : lv[i]? = some (some (vI x))) (k : Wp b L xs d M nx lv (vI x :: st) h Q) : Wp b L xs d M pc lv st h Q := W_st q (fun _ => rfl) (z := (nx, lv, vI x :: st, h)) (by show gI lv i _ = _; unfold gI; rw [hl]) k
theorem w_lload_n {i : Fin 4} {x : Int64} (q : fet (mE M) pc = some (.lload_n i, nx, ri)) (hl : lv[(i : Nat)]? = some (some (.long x))) (k : Wp b L xs d M nx lv (.long x :: st) h Q) : Wp b L xs d M pc lv st h Q := W_st q (fun _ => rfl) (z := (nx, lv, .long x :: st, h)) (by show gJ lv i _ = _; unfold gJ; rw [hl]) k
theorem w_lload {i : Nat} {x : Int64} (q : fet (mE M) pc = some (.lload i, nx, ri)) (hl : lv[i]? = some (some (.long x))) (k : Wp b L xs d M nx lv (.long x :: st) h Q) : Wp b L xs d M pc lv st h Q := W_st q (fun _ => rfl) (z := (nx, lv, .long x :: st, h)) (by show gJ lv i _ = _; unfold gJ; rw [hl]) k
theorem w_aload_n {i : Fin 4} {a : Nat} (q : fet (mE M) pc = some (.aload_n i, nx, ri)) (hl : lv[(i : Nat)]? = some (some (.ref a))) (k : Wp b L xs d M nx lv (.ref a :: st) h Q) : Wp b L xs d M pc lv st h Q := W_st q (fun _ => rfl) (z := (nx, lv, .ref a :: st, h)) (by show gQ lv i (fun x => some (nx, lv, va_rf x :: st, h)) = _; unfold gQ; rw [hl]; rfl) k
theorem w_aload {i : Nat} {a : Nat} (q : fet (mE M) pc = some (.aload i, nx, ri)) (hl : lv[i]? = some (some (.ref a))) (k : Wp b L xs d M nx lv (.ref a :: st) h Q) : Wp b L xs d M pc lv st h Q := W_st q (fun _ => rfl) (z := (nx, lv, .ref a :: st, h)) (by show gQ lv i (fun x => some (nx, lv, va_rf x :: st, h)) = _; unfold gQ; rw [hl]; rfl) k
theorem w_aload_nQ {i : Fin 4} {x : Option Nat} (q : fet (mE M) pc = some (.aload_n i, nx, ri)) (hl : lv[(i : Nat)]? = some (some (va_rf x))) (k : Wp b L xs d M nx lv (va_rf x :: st) h Q) : Wp b L xs d M pc lv st h Q := W_st q (fun _ => rfl) (z := (nx, lv, va_rf x :: st, h)) (by show gQ lv i (fun x => some (nx, lv, va_rf x :: st, h)) = _; unfold gQ; rw [hl]; cases x <;> rfl) k
theorem w_aloadQ {i : Nat} {x : Option Nat} (q : fet (mE M) pc = some (.aload i, nx, ri)) (hl : lv[i]? = some (some (va_rf x))) (k : Wp b L xs d M nx lv (va_rf x :: st) h Q) : Wp b L xs d M pc lv st h Q := W_st q (fun _ => rfl) (z := (nx, lv, va_rf x :: st, h)) (by show gQ lv i (fun x => some (nx, lv, va_rf x :: st, h)) = _; unfold gQ; rw [hl]; cases x <;> rfl) k
theorem w_istore_n {i : Fin 4} {x : Int} (q : fet (mE M) pc = some (.istore_n i, nx, ri)) (hl : (i : Nat) < mL M) (k : Wp b L xs d M nx (lv1 lv i (vI x)) st h Q) : Wp b L xs d M pc lv (vI x :: st) h Q := W_st q (fun _ => rfl) (z := (nx, lv1 lv i (vI x), st, h)) (by show iff' _ _ = _; unfold iff'; rw [if_pos hl]) k
theorem w_istore {i : Nat} {x : Int} (q : fet (mE M) pc = some (.istore i, nx, ri)) (hl : i < mL M) (k : Wp b L xs d M nx (lv1 lv i (vI x)) st h Q) : Wp b L xs d M pc lv (vI x :: st) h Q := W_st q (fun _ => rfl) (z := (nx, lv1 lv i (vI x), st, h)) (by show iff' _ _ = _; unfold iff'; rw [if_pos hl]) k
theorem w_lstore_n {i : Fin 4} {x : Int64} (q : fet (mE M) pc = some (.lstore_n i, nx, ri)) (hl : (i : Nat) + 1 < mL M) (k : Wp b L xs d M nx (lv2 lv i (.long x)) st h Q) : Wp b L xs d M pc lv (.long x :: st) h Q := W_st q (fun _ => rfl) (z := (nx, lv2 lv i (.long x), st, h)) (by show iff' _ _ = _; unfold iff'; rw [if_pos hl]) k
theorem w_lstore {i : Nat} {x : Int64} (q : fet (mE M) pc = some (.lstore i, nx, ri)) (hl : i + 1 < mL M) (k : Wp b L xs d M nx (lv2 lv i (.long x)) st h Q) : Wp b L xs d M pc lv (.long x :: st) h Q := W_st q (fun _ => rfl) (z := (nx, lv2 lv i (.long x), st, h)) (by show iff' _ _ = _; unfold iff'; rw [if_pos hl]) k
theorem w_astore_n {i : Fin 4} {a : Nat} (q : fet (mE M) pc = some (.astore_n i, nx, ri)) (hl : (i : Nat) < mL M) (k : Wp b L xs d M nx (lv1 lv i (.ref a)) st h Q) : Wp b L xs d M pc lv (.ref a :: st) h Q := W_st q (fun _ => rfl) (z := (nx, lv1 lv i (.ref a), st, h)) (by show iff' _ _ = _; unfold iff'; rw [if_pos hl]; rfl) k
theorem w_astore {i : Nat} {a : Nat} (q : fet (mE M) pc = some (.astore i, nx, ri)) (hl : i < mL M) (k : Wp b L xs d M nx (lv1 lv i (.ref a)) st h Q) : Wp b L xs d M pc lv (.ref a :: st) h Q := W_st q (fun _ => rfl) (z := (nx, lv1 lv i (.ref a), st, h)) (by show iff' _ _ = _; unfold iff'; rw [if_pos hl]; rfl) k
theorem w_astore_nQ {i : Fin 4} {x : Option Nat} (q : fet (mE M) pc = some (.astore_n i, nx, ri)) (hl : (i : Nat) < mL M) (k : Wp b L xs d M nx (lv1 lv i (va_rf x)) st h Q) : Wp b L xs d M pc lv (va_rf x :: st) h Q := W_st q (fun _ => rfl) (z := (nx, lv1 lv i (va_rf x), st, h)) (by cases x <;> (show iff' _ _ = _; unfold iff'; rw [if_pos hl])) k
theorem w_astoreQ {i : Nat} {x : Option Nat} (q : fet (mE M) pc = some (.astore i, nx, ri)) (hl : i < mL M) (k : Wp b L xs d M nx (lv1 lv i (va_rf x)) st h Q) : Wp b L xs d M pc lv (va_rf x :: st) h Q := W_st q (fun _ => rfl) (z := (nx, lv1 lv i (va_rf x), st, h)) (by cases x <;> (show iff' _ _ = _; unfold iff'; rw [if_pos hl])) k
theorem w_iinc {i : Nat} {n x : Int} (q : fet (mE M) pc = some (.iinc i n, nx, ri)) (hx : lv[i]? = some (some (vI x))) (hl : i < mL M) (k : Wp b L xs d M nx (lv1 lv i (vI (x + n))) st h Q) : Wp b L xs d M pc lv st h Q := W_st q (fun _ => rfl) (z := (nx, lv1 lv i (vI (x + n)), st, h)) (by show gI lv i _ = _; unfold gI; rw [hx]; show iff' _ _ = _; unfold iff'; rw [if_pos hl, vI, Int32.ofInt_add]) k
theorem w_iadd {x y : Int} (q : fet (mE M) pc = some (.iadd, nx, ri)) (k : Wp b L xs d M nx lv (vI (x + y) :: st) h Q) : Wp b L xs d M pc lv (vI y :: vI x :: st) h Q := W_st q (fun _ => rfl) (z := (nx, lv, vI (x + y) :: st, h)) (by show some (nx, lv, Value.int (Int32.ofInt x + Int32.ofInt y) :: st, h) = _; rw [← Int32.ofInt_add]) k
theorem w_isub {x y : Int} (q : fet (mE M) pc = some (.isub, nx, ri)) (k : Wp b L xs d M nx lv (vI (x - y) :: st) h Q) : Wp b L xs d M pc lv (vI y :: vI x :: st) h Q := W_st q (fun _ => rfl) (z := (nx, lv, vI (x - y) :: st, h)) (by show some (nx, lv, Value.int (Int32.ofInt x - Int32.ofInt y) :: st, h) = _; rw [← Int32.ofInt_sub]) k
theorem w_imul {x y : Int} (q : fet (mE M) pc = some (.imul, nx, ri)) (k : Wp b L xs d M nx lv (vI (x * y) :: st) h Q) : Wp b L xs d M pc lv (vI y :: vI x :: st) h Q := W_st q (fun _ => rfl) (z := (nx, lv, vI (x * y) :: st, h)) (by show some (nx, lv, Value.int (Int32.ofInt x * Int32.ofInt y) :: st, h) = _; rw [← Int32.ofInt_mul]) k
theorem w_idiv {x y : Int} (q : fet (mE M) pc = some (.idiv, nx, ri)) (h1 : 0 ≤ x) (h2 : x ≤ 2147483647) (h3 : 0 < y) (h4 : y ≤ 2147483647) (k : Wp b L xs d M nx lv (vI (x / y) :: st) h Q) : Wp b L xs d M pc lv (vI y :: vI x :: st) h Q := W_st q (fun _ => rfl) (z := (nx, lv, vI (x / y) :: st, h)) (by
  show iff' _ _ = _
  unfold iff'
  rw [if_pos (by rw [i_eq0 (by omega) h4]; omega), i_div h1 h2 h3 h4]) k
theorem w_irem {x y : Int} (q : fet (mE M) pc = some (.irem, nx, ri)) (h1 : 0 ≤ x) (h2 : x ≤ 2147483647) (h3 : 0 < y) (h4 : y ≤ 2147483647) (k : Wp b L xs d M nx lv (vI (x % y) :: st) h Q) : Wp b L xs d M pc lv (vI y :: vI x :: st) h Q := W_st q (fun _ => rfl) (z := (nx, lv, vI (x % y) :: st, h)) (by
  show iff' _ _ = _
  unfold iff'
  rw [if_pos (by rw [i_eq0 (by omega) h4]; omega), i_rem h1 h2 h3 h4]) k
/-- any other operation on ints, by its value -/
theorem w_op2 {ins : Instr} {x y z : Int} (q : fet (mE M) pc = some (ins, nx, ri)) (hd : ∀ rc : RF, dpF b L xs rc d M pc ins nx ri lv (vI y :: vI x :: st) h = stF b L xs rc d M ins nx ri lv (vI y :: vI x :: st) h) (hs : stp b L xs (mL M) ins nx ri lv (vI y :: vI x :: st) h = some (nx, lv, vI z :: st, h)) (k : Wp b L xs d M nx lv (vI z :: st) h Q) : Wp b L xs d M pc lv (vI y :: vI x :: st) h Q := W_st q hd hs k
theorem w_i2l {x : Int} (q : fet (mE M) pc = some (.i2l, nx, ri)) (k : Wp b L xs d M nx lv (.long (Int32.ofInt x).toInt64 :: st) h Q) : Wp b L xs d M pc lv (vI x :: st) h Q := W_st q (fun _ => rfl) rfl k
theorem w_l2i {x : Int64} (q : fet (mE M) pc = some (.l2i, nx, ri)) (k : Wp b L xs d M nx lv (.int x.toInt32 :: st) h Q) : Wp b L xs d M pc lv (.long x :: st) h Q := W_st q (fun _ => rfl) rfl k
theorem w_dup {v : Value} (q : fet (mE M) pc = some (.dup, nx, ri)) (hv : v.category = 1 ∧ p1 (v :: st) (fun v st => some (nx, lv, v :: v :: st, h)) = some (nx, lv, v :: v :: st, h)) (k : Wp b L xs d M nx lv (v :: v :: st) h Q) : Wp b L xs d M pc lv (v :: st) h Q := W_st q (fun _ => rfl) (z := (nx, lv, v :: v :: st, h)) hv.2 k
theorem w_dupI {x : Int} (q : fet (mE M) pc = some (.dup, nx, ri)) (k : Wp b L xs d M nx lv (vI x :: vI x :: st) h Q) : Wp b L xs d M pc lv (vI x :: st) h Q := W_st q (fun _ => rfl) rfl k
theorem w_dupR {a : Nat} (q : fet (mE M) pc = some (.dup, nx, ri)) (k : Wp b L xs d M nx lv (.ref a :: .ref a :: st) h Q) : Wp b L xs d M pc lv (.ref a :: st) h Q := W_st q (fun _ => rfl) rfl k
theorem w_popI {x : Int} (q : fet (mE M) pc = some (.pop, nx, ri)) (k : Wp b L xs d M nx lv st h Q) : Wp b L xs d M pc lv (vI x :: st) h Q := W_st q (fun _ => rfl) rfl k
theorem w_dup_x1 {x : Int} {a : Nat} (q : fet (mE M) pc = some (.dup_x1, nx, ri)) (k : Wp b L xs d M nx lv (vI x :: .ref a :: vI x :: st) h Q) : Wp b L xs d M pc lv (vI x :: .ref a :: st) h Q := W_st q (fun _ => rfl) rfl k
theorem w_dup_x2 {x y : Int} {a : Nat} (q : fet (mE M) pc = some (.dup_x2, nx, ri)) (k : Wp b L xs d M nx lv (vI x :: vI y :: .ref a :: vI x :: st) h Q) : Wp b L xs d M pc lv (vI x :: vI y :: .ref a :: st) h Q := W_st q (fun _ => rfl) rfl k
theorem w_dup2 {x : Int} {a : Nat} (q : fet (mE M) pc = some (.dup2, nx, ri)) (k : Wp b L xs d M nx lv (vI x :: .ref a :: vI x :: .ref a :: st) h Q) : Wp b L xs d M pc lv (vI x :: .ref a :: st) h Q := W_st q (fun _ => rfl) rfl k
theorem w_goto {o : Int} {t : Nat} (q : fet (mE M) pc = some (.goto o, nx, t :: ri)) (k : Wp b L xs d M t lv st h Q) : Wp b L xs d M pc lv st h Q := W_st q (fun _ => rfl) (z := (t, lv, st, h)) rfl k
theorem w_ifeq {o x : Int} {t : Nat} (q : fet (mE M) pc = some (.ifCond .eq o, nx, t :: ri)) (h1 : -2147483648 ≤ x) (h2 : x ≤ 2147483647) (kt : x = 0 → Wp b L xs d M t lv st h Q) (kf : ¬ (x = 0) → Wp b L xs d M nx lv st h Q) : Wp b L xs d M pc lv (vI x :: st) h Q := by
  by_cases hc : x = 0
  · exact W_st q (fun _ => rfl) (z := (t, lv, st, h)) (by show some ((if Int32.ofInt x = 0 then t else nx), lv, st, h) = _; rw [if_pos (by rw [i_eq0 h1 h2]; exact hc)]) (kt hc)
  · exact W_st q (fun _ => rfl) (z := (nx, lv, st, h)) (by show some ((if Int32.ofInt x = 0 then t else nx), lv, st, h) = _; rw [if_neg (by rw [i_eq0 h1 h2]; exact hc)]) (kf hc)
theorem w_ifeq_t {o x : Int} {t : Nat} (q : fet (mE M) pc = some (.ifCond .eq o, nx, t :: ri)) (h1 : -2147483648 ≤ x) (h2 : x ≤ 2147483647) (hc : x = 0) (kt : Wp b L xs d M t lv st h Q) : Wp b L xs d M pc lv (vI x :: st) h Q := w_ifeq q h1 h2 (fun _ => kt) (fun hn => absurd hc hn)
theorem w_ifeq_f {o x : Int} {t : Nat} (q : fet (mE M) pc = some (.ifCond .eq o, nx, t :: ri)) (h1 : -2147483648 ≤ x) (h2 : x ≤ 2147483647) (hc : ¬ (x = 0)) (kt : Wp b L xs d M nx lv st h Q) : Wp b L xs d M pc lv (vI x :: st) h Q := w_ifeq q h1 h2 (fun hn => absurd hn hc) (fun _ => kt)
theorem w_ifne {o x : Int} {t : Nat} (q : fet (mE M) pc = some (.ifCond .ne o, nx, t :: ri)) (h1 : -2147483648 ≤ x) (h2 : x ≤ 2147483647) (kt : x ≠ 0 → Wp b L xs d M t lv st h Q) (kf : ¬ (x ≠ 0) → Wp b L xs d M nx lv st h Q) : Wp b L xs d M pc lv (vI x :: st) h Q := by
  by_cases hc : x = 0
  · exact W_st q (fun _ => rfl) (z := (nx, lv, st, h)) (by show some ((if Int32.ofInt x = 0 then nx else t), lv, st, h) = _; rw [if_pos (by rw [i_eq0 h1 h2]; exact hc)]) (kf (fun h => h hc))
  · exact W_st q (fun _ => rfl) (z := (t, lv, st, h)) (by show some ((if Int32.ofInt x = 0 then nx else t), lv, st, h) = _; rw [if_neg (by rw [i_eq0 h1 h2]; exact hc)]) (kt hc)
theorem w_ifne_t {o x : Int} {t : Nat} (q : fet (mE M) pc = some (.ifCond .ne o, nx, t :: ri)) (h1 : -2147483648 ≤ x) (h2 : x ≤ 2147483647) (hc : x ≠ 0) (kt : Wp b L xs d M t lv st h Q) : Wp b L xs d M pc lv (vI x :: st) h Q := w_ifne q h1 h2 (fun _ => kt) (fun hn => absurd hc hn)
theorem w_ifne_f {o x : Int} {t : Nat} (q : fet (mE M) pc = some (.ifCond .ne o, nx, t :: ri)) (h1 : -2147483648 ≤ x) (h2 : x ≤ 2147483647) (hc : ¬ (x ≠ 0)) (kt : Wp b L xs d M nx lv st h Q) : Wp b L xs d M pc lv (vI x :: st) h Q := w_ifne q h1 h2 (fun hn => absurd hn hc) (fun _ => kt)
theorem w_iflt {o x : Int} {t : Nat} (q : fet (mE M) pc = some (.ifCond .lt o, nx, t :: ri)) (h1 : -2147483648 ≤ x) (h2 : x ≤ 2147483647) (kt : x < 0 → Wp b L xs d M t lv st h Q) (kf : ¬ (x < 0) → Wp b L xs d M nx lv st h Q) : Wp b L xs d M pc lv (vI x :: st) h Q := by
  by_cases hc : x < 0
  · exact W_st q (fun _ => rfl) (z := (t, lv, st, h)) (by show some ((if Int32.ofInt x < 0 then t else nx), lv, st, h) = _; rw [if_pos (by rw [i_zero, i_lt h1 h2 (by omega) (by omega)]; exact hc)]) (kt hc)
  · exact W_st q (fun _ => rfl) (z := (nx, lv, st, h)) (by show some ((if Int32.ofInt x < 0 then t else nx), lv, st, h) = _; rw [if_neg (by rw [i_zero, i_lt h1 h2 (by omega) (by omega)]; exact hc)]) (kf hc)
theorem w_iflt_t {o x : Int} {t : Nat} (q : fet (mE M) pc = some (.ifCond .lt o, nx, t :: ri)) (h1 : -2147483648 ≤ x) (h2 : x ≤ 2147483647) (hc : x < 0) (kt : Wp b L xs d M t lv st h Q) : Wp b L xs d M pc lv (vI x :: st) h Q := w_iflt q h1 h2 (fun _ => kt) (fun hn => absurd hc hn)
theorem w_iflt_f {o x : Int} {t : Nat} (q : fet (mE M) pc = some (.ifCond .lt o, nx, t :: ri)) (h1 : -2147483648 ≤ x) (h2 : x ≤ 2147483647) (hc : ¬ (x < 0)) (kt : Wp b L xs d M nx lv st h Q) : Wp b L xs d M pc lv (vI x :: st) h Q := w_iflt q h1 h2 (fun hn => absurd hn hc) (fun _ => kt)
theorem w_ifge {o x : Int} {t : Nat} (q : fet (mE M) pc = some (.ifCond .ge o, nx, t :: ri)) (h1 : -2147483648 ≤ x) (h2 : x ≤ 2147483647) (kt : 0 ≤ x → Wp b L xs d M t lv st h Q) (kf : ¬ (0 ≤ x) → Wp b L xs d M nx lv st h Q) : Wp b L xs d M pc lv (vI x :: st) h Q := by
  by_cases hc : 0 ≤ x
  · exact W_st q (fun _ => rfl) (z := (t, lv, st, h)) (by show some ((if 0 ≤ Int32.ofInt x then t else nx), lv, st, h) = _; rw [if_pos (by rw [i_zero, i_le (by omega) (by omega) h1 h2]; exact hc)]) (kt hc)
  · exact W_st q (fun _ => rfl) (z := (nx, lv, st, h)) (by show some ((if 0 ≤ Int32.ofInt x then t else nx), lv, st, h) = _; rw [if_neg (by rw [i_zero, i_le (by omega) (by omega) h1 h2]; exact hc)]) (kf hc)
theorem w_ifge_t {o x : Int} {t : Nat} (q : fet (mE M) pc = some (.ifCond .ge o, nx, t :: ri)) (h1 : -2147483648 ≤ x) (h2 : x ≤ 2147483647) (hc : 0 ≤ x) (kt : Wp b L xs d M t lv st h Q) : Wp b L xs d M pc lv (vI x :: st) h Q := w_ifge q h1 h2 (fun _ => kt) (fun hn => absurd hc hn)
theorem w_ifge_f {o x : Int} {t : Nat} (q : fet (mE M) pc = some (.ifCond .ge o, nx, t :: ri)) (h1 : -2147483648 ≤ x) (h2 : x ≤ 2147483647) (hc : ¬ (0 ≤ x)) (kt : Wp b L xs d M nx lv st h Q) : Wp b L xs d M pc lv (vI x :: st) h Q := w_ifge q h1 h2 (fun hn => absurd hn hc) (fun _ => kt)
theorem w_ifgt {o x : Int} {t : Nat} (q : fet (mE M) pc = some (.ifCond .gt o, nx, t :: ri)) (h1 : -2147483648 ≤ x) (h2 : x ≤ 2147483647) (kt : 0 < x → Wp b L xs d M t lv st h Q) (kf : ¬ (0 < x) → Wp b L xs d M nx lv st h Q) : Wp b L xs d M pc lv (vI x :: st) h Q := by
  by_cases hc : 0 < x
  · exact W_st q (fun _ => rfl) (z := (t, lv, st, h)) (by show some ((if 0 < Int32.ofInt x then t else nx), lv, st, h) = _; rw [if_pos (by rw [i_zero, i_lt (by omega) (by omega) h1 h2]; exact hc)]) (kt hc)
  · exact W_st q (fun _ => rfl) (z := (nx, lv, st, h)) (by show some ((if 0 < Int32.ofInt x then t else nx), lv, st, h) = _; rw [if_neg (by rw [i_zero, i_lt (by omega) (by omega) h1 h2]; exact hc)]) (kf hc)
theorem w_ifgt_t {o x : Int} {t : Nat} (q : fet (mE M) pc = some (.ifCond .gt o, nx, t :: ri)) (h1 : -2147483648 ≤ x) (h2 : x ≤ 2147483647) (hc : 0 < x) (kt : Wp b L xs d M t lv st h Q) : Wp b L xs d M pc lv (vI x :: st) h Q := w_ifgt q h1 h2 (fun _ => kt) (fun hn => absurd hc hn)
theorem w_ifgt_f {o x : Int} {t : Nat} (q : fet (mE M) pc = some (.ifCond .gt o, nx, t :: ri)) (h1 : -2147483648 ≤ x) (h2 : x ≤ 2147483647) (hc : ¬ (0 < x)) (kt : Wp b L xs d M nx lv st h Q) : Wp b L xs d M pc lv (vI x :: st) h Q := w_ifgt q h1 h2 (fun hn => absurd hn hc) (fun _ => kt)
theorem w_ifle {o x : Int} {t : Nat} (q : fet (mE M) pc = some (.ifCond .le o, nx, t :: ri)) (h1 : -2147483648 ≤ x) (h2 : x ≤ 2147483647) (kt : x ≤ 0 → Wp b L xs d M t lv st h Q) (kf : ¬ (x ≤ 0) → Wp b L xs d M nx lv st h Q) : Wp b L xs d M pc lv (vI x :: st) h Q := by
  by_cases hc : x ≤ 0
  · exact W_st q (fun _ => rfl) (z := (t, lv, st, h)) (by show some ((if Int32.ofInt x ≤ 0 then t else nx), lv, st, h) = _; rw [if_pos (by rw [i_zero, i_le h1 h2 (by omega) (by omega)]; exact hc)]) (kt hc)
  · exact W_st q (fun _ => rfl) (z := (nx, lv, st, h)) (by show some ((if Int32.ofInt x ≤ 0 then t else nx), lv, st, h) = _; rw [if_neg (by rw [i_zero, i_le h1 h2 (by omega) (by omega)]; exact hc)]) (kf hc)
theorem w_ifle_t {o x : Int} {t : Nat} (q : fet (mE M) pc = some (.ifCond .le o, nx, t :: ri)) (h1 : -2147483648 ≤ x) (h2 : x ≤ 2147483647) (hc : x ≤ 0) (kt : Wp b L xs d M t lv st h Q) : Wp b L xs d M pc lv (vI x :: st) h Q := w_ifle q h1 h2 (fun _ => kt) (fun hn => absurd hc hn)
theorem w_ifle_f {o x : Int} {t : Nat} (q : fet (mE M) pc = some (.ifCond .le o, nx, t :: ri)) (h1 : -2147483648 ≤ x) (h2 : x ≤ 2147483647) (hc : ¬ (x ≤ 0)) (kt : Wp b L xs d M nx lv st h Q) : Wp b L xs d M pc lv (vI x :: st) h Q := w_ifle q h1 h2 (fun hn => absurd hn hc) (fun _ => kt)
theorem w_iceq {o x y : Int} {t : Nat} (q : fet (mE M) pc = some (.if_icmp .eq o, nx, t :: ri)) (h1 : -2147483648 ≤ x) (h2 : x ≤ 2147483647) (h3 : -2147483648 ≤ y) (h4 : y ≤ 2147483647) (kt : x = y → Wp b L xs d M t lv st h Q) (kf : ¬ (x = y) → Wp b L xs d M nx lv st h Q) : Wp b L xs d M pc lv (vI y :: vI x :: st) h Q := by
  by_cases hc : x = y
  · exact W_st q (fun _ => rfl) (z := (t, lv, st, h)) (by show some ((if Int32.ofInt x = Int32.ofInt y then t else nx), lv, st, h) = _; rw [if_pos (by rw [i_eq h1 h2 h3 h4]; exact hc)]) (kt hc)
  · exact W_st q (fun _ => rfl) (z := (nx, lv, st, h)) (by show some ((if Int32.ofInt x = Int32.ofInt y then t else nx), lv, st, h) = _; rw [if_neg (by rw [i_eq h1 h2 h3 h4]; exact hc)]) (kf hc)
theorem w_iceq_t {o x y : Int} {t : Nat} (q : fet (mE M) pc = some (.if_icmp .eq o, nx, t :: ri)) (h1 : -2147483648 ≤ x) (h2 : x ≤ 2147483647) (h3 : -2147483648 ≤ y) (h4 : y ≤ 2147483647) (hc : x = y) (kt : Wp b L xs d M t lv st h Q) : Wp b L xs d M pc lv (vI y :: vI x :: st) h Q := w_iceq q h1 h2 h3 h4 (fun _ => kt) (fun hn => absurd hc hn)
theorem w_iceq_f {o x y : Int} {t : Nat} (q : fet (mE M) pc = some (.if_icmp .eq o, nx, t :: ri)) (h1 : -2147483648 ≤ x) (h2 : x ≤ 2147483647) (h3 : -2147483648 ≤ y) (h4 : y ≤ 2147483647) (hc : ¬ (x = y)) (kt : Wp b L xs d M nx lv st h Q) : Wp b L xs d M pc lv (vI y :: vI x :: st) h Q := w_iceq q h1 h2 h3 h4 (fun hn => absurd hn hc) (fun _ => kt)
theorem w_icne {o x y : Int} {t : Nat} (q : fet (mE M) pc = some (.if_icmp .ne o, nx, t :: ri)) (h1 : -2147483648 ≤ x) (h2 : x ≤ 2147483647) (h3 : -2147483648 ≤ y) (h4 : y ≤ 2147483647) (kt : x ≠ y → Wp b L xs d M t lv st h Q) (kf : ¬ (x ≠ y) → Wp b L xs d M nx lv st h Q) : Wp b L xs d M pc lv (vI y :: vI x :: st) h Q := by
  by_cases hc : x = y
  · exact W_st q (fun _ => rfl) (z := (nx, lv, st, h)) (by show some ((if Int32.ofInt x = Int32.ofInt y then nx else t), lv, st, h) = _; rw [if_pos (by rw [i_eq h1 h2 h3 h4]; exact hc)]) (kf (fun h => h hc))
  · exact W_st q (fun _ => rfl) (z := (t, lv, st, h)) (by show some ((if Int32.ofInt x = Int32.ofInt y then nx else t), lv, st, h) = _; rw [if_neg (by rw [i_eq h1 h2 h3 h4]; exact hc)]) (kt hc)
theorem w_icne_t {o x y : Int} {t : Nat} (q : fet (mE M) pc = some (.if_icmp .ne o, nx, t :: ri)) (h1 : -2147483648 ≤ x) (h2 : x ≤ 2147483647) (h3 : -2147483648 ≤ y) (h4 : y ≤ 2147483647) (hc : x ≠ y) (kt : Wp b L xs d M t lv st h Q) : Wp b L xs d M pc lv (vI y :: vI x :: st) h Q := w_icne q h1 h2 h3 h4 (fun _ => kt) (fun hn => absurd hc hn)
theorem w_icne_f {o x y : Int} {t : Nat} (q : fet (mE M) pc = some (.if_icmp .ne o, nx, t :: ri)) (h1 : -2147483648 ≤ x) (h2 : x ≤ 2147483647) (h3 : -2147483648 ≤ y) (h4 : y ≤ 2147483647) (hc : ¬ (x ≠ y)) (kt : Wp b L xs d M nx lv st h Q) : Wp b L xs d M pc lv (vI y :: vI x :: st) h Q := w_icne q h1 h2 h3 h4 (fun hn => absurd hn hc) (fun _ => kt)
theorem w_iclt {o x y : Int} {t : Nat} (q : fet (mE M) pc = some (.if_icmp .lt o, nx, t :: ri)) (h1 : -2147483648 ≤ x) (h2 : x ≤ 2147483647) (h3 : -2147483648 ≤ y) (h4 : y ≤ 2147483647) (kt : x < y → Wp b L xs d M t lv st h Q) (kf : ¬ (x < y) → Wp b L xs d M nx lv st h Q) : Wp b L xs d M pc lv (vI y :: vI x :: st) h Q := by
  by_cases hc : x < y
  · exact W_st q (fun _ => rfl) (z := (t, lv, st, h)) (by show some ((if Int32.ofInt x < Int32.ofInt y then t else nx), lv, st, h) = _; rw [if_pos (by rw [i_lt h1 h2 h3 h4]; exact hc)]) (kt hc)
  · exact W_st q (fun _ => rfl) (z := (nx, lv, st, h)) (by show some ((if Int32.ofInt x < Int32.ofInt y then t else nx), lv, st, h) = _; rw [if_neg (by rw [i_lt h1 h2 h3 h4]; exact hc)]) (kf hc)
theorem w_iclt_t {o x y : Int} {t : Nat} (q : fet (mE M) pc = some (.if_icmp .lt o, nx, t :: ri)) (h1 : -2147483648 ≤ x) (h2 : x ≤ 2147483647) (h3 : -2147483648 ≤ y) (h4 : y ≤ 2147483647) (hc : x < y) (kt : Wp b L xs d M t lv st h Q) : Wp b L xs d M pc lv (vI y :: vI x :: st) h Q := w_iclt q h1 h2 h3 h4 (fun _ => kt) (fun hn => absurd hc hn)
theorem w_iclt_f {o x y : Int} {t : Nat} (q : fet (mE M) pc = some (.if_icmp .lt o, nx, t :: ri)) (h1 : -2147483648 ≤ x) (h2 : x ≤ 2147483647) (h3 : -2147483648 ≤ y) (h4 : y ≤ 2147483647) (hc : ¬ (x < y)) (kt : Wp b L xs d M nx lv st h Q) : Wp b L xs d M pc lv (vI y :: vI x :: st) h Q := w_iclt q h1 h2 h3 h4 (fun hn => absurd hn hc) (fun _ => kt)
theorem w_icge {o x y : Int} {t : Nat} (q : fet (mE M) pc = some (.if_icmp .ge o, nx, t :: ri)) (h1 : -2147483648 ≤ x) (h2 : x ≤ 2147483647) (h3 : -2147483648 ≤ y) (h4 : y ≤ 2147483647) (kt : y ≤ x → Wp b L xs d M t lv st h Q) (kf : ¬ (y ≤ x) → Wp b L xs d M nx lv st h Q) : Wp b L xs d M pc lv (vI y :: vI x :: st) h Q := by
  by_cases hc : y ≤ x
  · exact W_st q (fun _ => rfl) (z := (t, lv, st, h)) (by show some ((if Int32.ofInt y ≤ Int32.ofInt x then t else nx), lv, st, h) = _; rw [if_pos (by rw [i_le h3 h4 h1 h2]; exact hc)]) (kt hc)
  · exact W_st q (fun _ => rfl) (z := (nx, lv, st, h)) (by show some ((if Int32.ofInt y ≤ Int32.ofInt x then t else nx), lv, st, h) = _; rw [if_neg (by rw [i_le h3 h4 h1 h2]; exact hc)]) (kf hc)
theorem w_icge_t {o x y : Int} {t : Nat} (q : fet (mE M) pc = some (.if_icmp .ge o, nx, t :: ri)) (h1 : -2147483648 ≤ x) (h2 : x ≤ 2147483647) (h3 : -2147483648 ≤ y) (h4 : y ≤ 2147483647) (hc : y ≤ x) (kt : Wp b L xs d M t lv st h Q) : Wp b L xs d M pc lv (vI y :: vI x :: st) h Q := w_icge q h1 h2 h3 h4 (fun _ => kt) (fun hn => absurd hc hn)
theorem w_icge_f {o x y : Int} {t : Nat} (q : fet (mE M) pc = some (.if_icmp .ge o, nx, t :: ri)) (h1 : -2147483648 ≤ x) (h2 : x ≤ 2147483647) (h3 : -2147483648 ≤ y) (h4 : y ≤ 2147483647) (hc : ¬ (y ≤ x)) (kt : Wp b L xs d M nx lv st h Q) : Wp b L xs d M pc lv (vI y :: vI x :: st) h Q := w_icge q h1 h2 h3 h4 (fun hn => absurd hn hc) (fun _ => kt)
theorem w_icgt {o x y : Int} {t : Nat} (q : fet (mE M) pc = some (.if_icmp .gt o, nx, t :: ri)) (h1 : -2147483648 ≤ x) (h2 : x ≤ 2147483647) (h3 : -2147483648 ≤ y) (h4 : y ≤ 2147483647) (kt : y < x → Wp b L xs d M t lv st h Q) (kf : ¬ (y < x) → Wp b L xs d M nx lv st h Q) : Wp b L xs d M pc lv (vI y :: vI x :: st) h Q := by
  by_cases hc : y < x
  · exact W_st q (fun _ => rfl) (z := (t, lv, st, h)) (by show some ((if Int32.ofInt y < Int32.ofInt x then t else nx), lv, st, h) = _; rw [if_pos (by rw [i_lt h3 h4 h1 h2]; exact hc)]) (kt hc)
  · exact W_st q (fun _ => rfl) (z := (nx, lv, st, h)) (by show some ((if Int32.ofInt y < Int32.ofInt x then t else nx), lv, st, h) = _; rw [if_neg (by rw [i_lt h3 h4 h1 h2]; exact hc)]) (kf hc)
theorem w_icgt_t {o x y : Int} {t : Nat} (q : fet (mE M) pc = some (.if_icmp .gt o, nx, t :: ri)) (h1 : -2147483648 ≤ x) (h2 : x ≤ 2147483647) (h3 : -2147483648 ≤ y) (h4 : y ≤ 2147483647) (hc : y < x) (kt : Wp b L xs d M t lv st h Q) : Wp b L xs d M pc lv (vI y :: vI x :: st) h Q := w_icgt q h1 h2 h3 h4 (fun _ => kt) (fun hn => absurd hc hn)
theorem w_icgt_f {o x y : Int} {t : Nat} (q : fet (mE M) pc = some (.if_icmp .gt o, nx, t :: ri)) (h1 : -2147483648 ≤ x) (h2 : x ≤ 2147483647) (h3 : -2147483648 ≤ y) (h4 : y ≤ 2147483647) (hc : ¬ (y < x)) (kt : Wp b L xs d M nx lv st h Q) : Wp b L xs d M pc lv (vI y :: vI x :: st) h Q := w_icgt q h1 h2 h3 h4 (fun hn => absurd hn hc) (fun _ => kt)
theorem w_icle {o x y : Int} {t : Nat} (q : fet (mE M) pc = some (.if_icmp .le o, nx, t :: ri)) (h1 : -2147483648 ≤ x) (h2 : x ≤ 2147483647) (h3 : -2147483648 ≤ y) (h4 : y ≤ 2147483647) (kt : x ≤ y → Wp b L xs d M t lv st h Q) (kf : ¬ (x ≤ y) → Wp b L xs d M nx lv st h Q) : Wp b L xs d M pc lv (vI y :: vI x :: st) h Q := by
  by_cases hc : x ≤ y
  · exact W_st q (fun _ => rfl) (z := (t, lv, st, h)) (by show some ((if Int32.ofInt x ≤ Int32.ofInt y then t else nx), lv, st, h) = _; rw [if_pos (by rw [i_le h1 h2 h3 h4]; exact hc)]) (kt hc)
  · exact W_st q (fun _ => rfl) (z := (nx, lv, st, h)) (by show some ((if Int32.ofInt x ≤ Int32.ofInt y then t else nx), lv, st, h) = _; rw [if_neg (by rw [i_le h1 h2 h3 h4]; exact hc)]) (kf hc)
theorem w_icle_t {o x y : Int} {t : Nat} (q : fet (mE M) pc = some (.if_icmp .le o, nx, t :: ri)) (h1 : -2147483648 ≤ x) (h2 : x ≤ 2147483647) (h3 : -2147483648 ≤ y) (h4 : y ≤ 2147483647) (hc : x ≤ y) (kt : Wp b L xs d M t lv st h Q) : Wp b L xs d M pc lv (vI y :: vI x :: st) h Q := w_icle q h1 h2 h3 h4 (fun _ => kt) (fun hn => absurd hc hn)
theorem w_icle_f {o x y : Int} {t : Nat} (q : fet (mE M) pc = some (.if_icmp .le o, nx, t :: ri)) (h1 : -2147483648 ≤ x) (h2 : x ≤ 2147483647) (h3 : -2147483648 ≤ y) (h4 : y ≤ 2147483647) (hc : ¬ (x ≤ y)) (kt : Wp b L xs d M nx lv st h Q) : Wp b L xs d M pc lv (vI y :: vI x :: st) h Q := w_icle q h1 h2 h3 h4 (fun hn => absurd hn hc) (fun _ => kt)
theorem w_ifnull_n {o : Int} {t : Nat} (q : fet (mE M) pc = some (.ifnull o, nx, t :: ri)) (k : Wp b L xs d M t lv st h Q) : Wp b L xs d M pc lv (.null :: st) h Q := W_st q (fun _ => rfl) (z := (t, lv, st, h)) rfl k
theorem w_ifnull_r {o : Int} {t a : Nat} (q : fet (mE M) pc = some (.ifnull o, nx, t :: ri)) (k : Wp b L xs d M nx lv st h Q) : Wp b L xs d M pc lv (.ref a :: st) h Q := W_st q (fun _ => rfl) (z := (nx, lv, st, h)) rfl k
theorem w_ifnull {o : Int} {t : Nat} {x : Option Nat} (q : fet (mE M) pc = some (.ifnull o, nx, t :: ri)) (kt : x = none → Wp b L xs d M t lv st h Q) (kf : ∀ a, x = some a → Wp b L xs d M nx lv st h Q) : Wp b L xs d M pc lv (va_rf x :: st) h Q := by
  cases x with
  | none => exact w_ifnull_n q (kt rfl)
  | some a => exact w_ifnull_r q (kf a rfl)
theorem w_ifnonnull_n {o : Int} {t : Nat} (q : fet (mE M) pc = some (.ifnonnull o, nx, t :: ri)) (k : Wp b L xs d M nx lv st h Q) : Wp b L xs d M pc lv (.null :: st) h Q := W_st q (fun _ => rfl) (z := (nx, lv, st, h)) rfl k
theorem w_ifnonnull_r {o : Int} {t a : Nat} (q : fet (mE M) pc = some (.ifnonnull o, nx, t :: ri)) (k : Wp b L xs d M t lv st h Q) : Wp b L xs d M pc lv (.ref a :: st) h Q := W_st q (fun _ => rfl) (z := (t, lv, st, h)) rfl k
theorem w_ifnonnull {o : Int} {t : Nat} {x : Option Nat} (q : fet (mE M) pc = some (.ifnonnull o, nx, t :: ri)) (kt : ∀ a, x = some a → Wp b L xs d M t lv st h Q) (kf : x = none → Wp b L xs d M nx lv st h Q) : Wp b L xs d M pc lv (va_rf x :: st) h Q := by
  cases x with
  | none => exact w_ifnonnull_n q (kf rfl)
  | some a => exact w_ifnonnull_r q (kt a rfl)
theorem w_aceq {o : Int} {t : Nat} {x y : Option Nat} (q : fet (mE M) pc = some (.if_acmp .eq o, nx, t :: ri)) (kt : x = y → Wp b L xs d M t lv st h Q) (kf : ¬ x = y → Wp b L xs d M nx lv st h Q) : Wp b L xs d M pc lv (va_rf y :: va_rf x :: st) h Q := by
  by_cases hc : x = y
  · exact W_st q (fun _ => rfl) (z := (t, lv, st, h)) (by rw [show stp b L xs (mL M) (.if_acmp .eq o) nx (t :: ri) lv (va_rf y :: va_rf x :: st) h = some ((if x = y then t else nx), lv, st, h) by cases x <;> cases y <;> rfl, if_pos hc]) (kt hc)
  · exact W_st q (fun _ => rfl) (z := (nx, lv, st, h)) (by rw [show stp b L xs (mL M) (.if_acmp .eq o) nx (t :: ri) lv (va_rf y :: va_rf x :: st) h = some ((if x = y then t else nx), lv, st, h) by cases x <;> cases y <;> rfl, if_neg hc]) (kf hc)
theorem w_acne {o : Int} {t : Nat} {x y : Option Nat} (q : fet (mE M) pc = some (.if_acmp .ne o, nx, t :: ri)) (kt : ¬ x = y → Wp b L xs d M t lv st h Q) (kf : x = y → Wp b L xs d M nx lv st h Q) : Wp b L xs d M pc lv (va_rf y :: va_rf x :: st) h Q := by
  by_cases hc : x = y
  · exact W_st q (fun _ => rfl) (z := (nx, lv, st, h)) (by rw [show stp b L xs (mL M) (.if_acmp .ne o) nx (t :: ri) lv (va_rf y :: va_rf x :: st) h = some ((if x = y then nx else t), lv, st, h) by cases x <;> cases y <;> rfl, if_pos hc]) (kf hc)
  · exact W_st q (fun _ => rfl) (z := (t, lv, st, h)) (by rw [show stp b L xs (mL M) (.if_acmp .ne o) nx (t :: ri) lv (va_rf y :: va_rf x :: st) h = some ((if x = y then nx else t), lv, st, h) by cases x <;> cases y <;> rfl, if_neg hc]) (kt hc)
theorem w_tsw {dflt lo hi x : Int} {o : Array Int} {t : Nat} (q : fet (mE M) pc = some (.tableswitch dflt lo hi o, nx, ri)) (h1 : -2147483648 ≤ x) (h2 : x ≤ 2147483647) (h3 : lo ≤ x) (h4 : x ≤ hi) (ht : ri[(x - lo).toNat + 1]? = some t) (k : Wp b L xs d M t lv st h Q) : Wp b L xs d M pc lv (vI x :: st) h Q := W_st q (fun _ => rfl) (z := (t, lv, st, h)) (by
  show (if (Int32.ofInt x).toInt < lo ∨ hi < (Int32.ofInt x).toInt then nI1 ri fun t => some (t, lv, st, h) else (ri[((Int32.ofInt x).toInt - lo).toNat + 1]?).bind fun t => some (t, lv, st, h)) = _
  rw [i_int h1 h2, if_neg (by omega), ht]
  rfl) k
theorem w_tswd {dflt lo hi x : Int} {o : Array Int} {t : Nat} (q : fet (mE M) pc = some (.tableswitch dflt lo hi o, nx, t :: ri)) (h1 : -2147483648 ≤ x) (h2 : x ≤ 2147483647) (h3 : x < lo ∨ hi < x) (k : Wp b L xs d M t lv st h Q) : Wp b L xs d M pc lv (vI x :: st) h Q := W_st q (fun _ => rfl) (z := (t, lv, st, h)) (by
  show (if (Int32.ofInt x).toInt < lo ∨ hi < (Int32.ofInt x).toInt then nI1 (t :: ri) fun t => some (t, lv, st, h) else ((t :: ri)[((Int32.ofInt x).toInt - lo).toNat + 1]?).bind fun t => some (t, lv, st, h)) = _
  rw [i_int h1 h2, if_pos h3]
  rfl) k
theorem w_getfield {i f ci fi a : Nat} {fs : List Value} {v : Value} (q : fet (mE M) pc = some (.getfield i, nx, f :: ci :: fi :: ri)) (ho : h.2.2 a = some (.inr (ci, fs))) (hv : fs[fi]? = some v) (k : Wp b L xs d M nx lv (v :: st) h Q) : Wp b L xs d M pc lv (.ref a :: st) h Q := W_st q (fun _ => rfl) (z := (nx, lv, v :: st, h)) (by
  show oI h a _ = _
  unfold oI
  rw [ho]
  show iff' _ _ = _
  unfold iff'
  rw [if_pos rfl, hv]
  rfl) k
theorem w_putfield {i f ci fi a : Nat} {fs : List Value} {v : Value} {ty : FieldType} (q : fet (mE M) pc = some (.putfield i, nx, f :: ci :: fi :: ri)) (ho : h.2.2 a = some (.inr (ci, fs))) (ht : (vty.getD ci [])[fi]? = some ty) (hv : fitv ty v = true) (k : Wp b L xs d M nx lv st (hput h a (.inr (ci, fs.set fi v))) Q) : Wp b L xs d M pc lv (v :: .ref a :: st) h Q := W_st q (fun _ => rfl) (z := (nx, lv, st, hput h a (.inr (ci, fs.set fi v)))) (by
  show oI h a _ = _
  unfold oI
  rw [ho]
  show iff' _ _ = _
  unfold iff'
  rw [if_pos rfl, ht]
  show iff' _ _ = _
  unfold iff'
  rw [if_pos hv]) k
theorem w_alen {a n : Nat} {ty : FieldType} {f : Nat → Value} (q : fet (mE M) pc = some (.arraylength, nx, ri)) (hb : a ≠ b) (ho : h.2.2 a = some (.inl (ty, n, f))) (k : Wp b L xs d M nx lv (vI n :: st) h Q) : Wp b L xs d M pc lv (.ref a :: st) h Q := W_st q (fun _ => rfl) (z := (nx, lv, vI n :: st, h)) (by
  show (if a = b then _ else aI h a _) = _
  rw [if_neg hb]
  unfold aI
  rw [ho, vI, Int32.ofInt_eq_ofNat]) k
theorem w_alenS (q : fet (mE M) pc = some (.arraylength, nx, ri)) (k : Wp b L xs d M nx lv (vI L :: st) h Q) : Wp b L xs d M pc lv (.ref b :: st) h Q := W_st q (fun _ => rfl) (z := (nx, lv, vI L :: st, h)) (by
  show (if b = b then _ else aI h b _) = _
  rw [if_pos rfl, vI, Int32.ofInt_eq_ofNat]) k
theorem w_ialoadS {i : Int} (q : fet (mE M) pc = some (.iaload, nx, ri)) (h1 : 0 ≤ i) (h2 : i < L) (h3 : L ≤ 2147483647) (k : Wp b L xs d M nx lv (vI (xs i.toNat).toInt :: st) h Q) : Wp b L xs d M pc lv (vI i :: .ref b :: st) h Q := W_st q (fun _ => rfl) (z := (nx, lv, vI (xs i.toNat).toInt :: st, h)) (by
  show (if b = b then bI _ L _ else aI h b _) = _
  rw [if_pos rfl]
  unfold bI
  rw [if_neg (i_in h1 h2 h3), i_clamp h1 (by omega), vI, Int32.ofInt_toInt]) k
theorem w_iaload {i : Int} {a n : Nat} {f : Nat → Value} (q : fet (mE M) pc = some (.iaload, nx, ri)) (hb : a ≠ b) (ho : h.2.2 a = some (.inl (.int, n, f))) (h1 : 0 ≤ i) (h2 : i < n) (h3 : n ≤ 2147483647) (k : Wp b L xs d M nx lv (f i.toNat :: st) h Q) : Wp b L xs d M pc lv (vI i :: .ref a :: st) h Q := W_st q (fun _ => rfl) (z := (nx, lv, f i.toNat :: st, h)) (by
  show (if a = b then bI _ L _ else aI h a _) = _
  rw [if_neg hb]
  unfold aI
  rw [ho]
  show bI _ _ _ = _
  unfold bI
  rw [if_neg (i_in h1 h2 h3), i_clamp h1 (by omega)]) k
theorem w_laload {i : Int} {a n : Nat} {f : Nat → Value} (q : fet (mE M) pc = some (.laload, nx, ri)) (ho : h.2.2 a = some (.inl (.long, n, f))) (h1 : 0 ≤ i) (h2 : i < n) (h3 : n ≤ 2147483647) (k : Wp b L xs d M nx lv (f i.toNat :: st) h Q) : Wp b L xs d M pc lv (vI i :: .ref a :: st) h Q := W_st q (fun _ => rfl) (z := (nx, lv, f i.toNat :: st, h)) (by
  show aI h a _ = _
  unfold aI
  rw [ho]
  show bI _ _ _ = _
  unfold bI
  rw [if_neg (i_in h1 h2 h3), i_clamp h1 (by omega)]) k
theorem w_baload {i : Int} {a n : Nat} {f : Nat → Value} {ty : FieldType} (q : fet (mE M) pc = some (.baload, nx, ri)) (ho : h.2.2 a = some (.inl (ty, n, f))) (hty : ty = .byte ∨ ty = .boolean) (h1 : 0 ≤ i) (h2 : i < n) (h3 : n ≤ 2147483647) (k : Wp b L xs d M nx lv (f i.toNat :: st) h Q) : Wp b L xs d M pc lv (vI i :: .ref a :: st) h Q := W_st q (fun _ => rfl) (z := (nx, lv, f i.toNat :: st, h)) (by
  show aI h a _ = _
  unfold aI
  rw [ho]
  rcases hty with rfl | rfl
  all_goals
    show bI _ _ _ = _
    unfold bI
    rw [if_neg (i_in h1 h2 h3), i_clamp h1 (by omega)]) k
theorem w_aaload {i : Int} {a n : Nat} {f : Nat → Value} {ty : FieldType} (q : fet (mE M) pc = some (.aaload, nx, ri)) (ho : h.2.2 a = some (.inl (ty, n, f))) (hty : (∃ C, ty = .object C) ∨ (∃ C, ty = .array C)) (h1 : 0 ≤ i) (h2 : i < n) (h3 : n ≤ 2147483647) (k : Wp b L xs d M nx lv (f i.toNat :: st) h Q) : Wp b L xs d M pc lv (vI i :: .ref a :: st) h Q := W_st q (fun _ => rfl) (z := (nx, lv, f i.toNat :: st, h)) (by
  show aI h a _ = _
  unfold aI
  rw [ho]
  rcases hty with ⟨C, rfl⟩ | ⟨C, rfl⟩
  all_goals
    show bI _ _ _ = _
    unfold bI
    rw [if_neg (i_in h1 h2 h3), i_clamp h1 (by omega)]) k
theorem w_iastore {i x : Int} {a n : Nat} {f : Nat → Value} (q : fet (mE M) pc = some (.iastore, nx, ri)) (ho : h.2.2 a = some (.inl (.int, n, f))) (h1 : 0 ≤ i) (h2 : i < n) (h3 : n ≤ 2147483647) (k : Wp b L xs d M nx lv st (hput h a (.inl (.int, n, updV f i.toNat (vI x)))) Q) : Wp b L xs d M pc lv (vI x :: vI i :: .ref a :: st) h Q := W_st q (fun _ => rfl) (z := (nx, lv, st, hput h a (.inl (.int, n, updV f i.toNat (vI x))))) (by
  show aI h a _ = _
  unfold aI
  rw [ho]
  show bI _ _ _ = _
  unfold bI
  rw [if_neg (i_in h1 h2 h3), i_clamp h1 (by omega)]) k
theorem w_lastore {i : Int} {x : Int64} {a n : Nat} {f : Nat → Value} (q : fet (mE M) pc = some (.lastore, nx, ri)) (ho : h.2.2 a = some (.inl (.long, n, f))) (h1 : 0 ≤ i) (h2 : i < n) (h3 : n ≤ 2147483647) (k : Wp b L xs d M nx lv st (hput h a (.inl (.long, n, updV f i.toNat (.long x)))) Q) : Wp b L xs d M pc lv (.long x :: vI i :: .ref a :: st) h Q := W_st q (fun _ => rfl) (z := (nx, lv, st, hput h a (.inl (.long, n, updV f i.toNat (.long x))))) (by
  show aI h a _ = _
  unfold aI
  rw [ho]
  show bI _ _ _ = _
  unfold bI
  rw [if_neg (i_in h1 h2 h3), i_clamp h1 (by omega)]) k
theorem w_bastore {i : Int} {x : Int32} {a n : Nat} {f : Nat → Value} {ty : FieldType} (q : fet (mE M) pc = some (.bastore, nx, ri)) (ho : h.2.2 a = some (.inl (ty, n, f))) (hty : ty = .byte ∨ ty = .boolean) (h1 : 0 ≤ i) (h2 : i < n) (h3 : n ≤ 2147483647) (k : Wp b L xs d M nx lv st (hput h a (.inl (ty, n, updV f i.toNat (narrow ty (.int x))))) Q) : Wp b L xs d M pc lv (.int x :: vI i :: .ref a :: st) h Q := W_st q (fun _ => rfl) (z := (nx, lv, st, hput h a (.inl (ty, n, updV f i.toNat (narrow ty (.int x)))))) (by
  show aI h a _ = _
  unfold aI
  rw [ho]
  rcases hty with rfl | rfl
  all_goals
    show bI _ _ _ = _
    unfold bI
    rw [if_neg (i_in h1 h2 h3), i_clamp h1 (by omega)]) k
theorem w_aastoreN {i : Int} {a n : Nat} {f : Nat → Value} {C : String} (q : fet (mE M) pc = some (.aastore, nx, ri)) (ho : h.2.2 a = some (.inl (.object C, n, f))) (h1 : 0 ≤ i) (h2 : i < n) (h3 : n ≤ 2147483647) (k : Wp b L xs d M nx lv st (hput h a (.inl (.object C, n, updV f i.toNat .null))) Q) : Wp b L xs d M pc lv (.null :: vI i :: .ref a :: st) h Q := W_st q (fun _ => rfl) (z := (nx, lv, st, hput h a (.inl (.object C, n, updV f i.toNat .null)))) (by
  show aI h a _ = _
  unfold aI
  rw [ho]
  show bI _ _ _ = _
  unfold bI
  rw [if_neg (i_in h1 h2 h3), i_clamp h1 (by omega)]) k
theorem w_aastore {i : Int} {a v cj n : Nat} {fs : List Value} {f : Nat → Value} {C : String} (q : fet (mE M) pc = some (.aastore, nx, ri)) (ho : h.2.2 a = some (.inl (.object C, n, f))) (hv : h.2.2 v = some (.inr (cj, fs))) (hC : (vcl[cj]?).map (fun q => q.1) = some C) (h1 : 0 ≤ i) (h2 : i < n) (h3 : n ≤ 2147483647) (k : Wp b L xs d M nx lv st (hput h a (.inl (.object C, n, updV f i.toNat (.ref v)))) Q) : Wp b L xs d M pc lv (.ref v :: vI i :: .ref a :: st) h Q := W_st q (fun _ => rfl) (z := (nx, lv, st, hput h a (.inl (.object C, n, updV f i.toNat (.ref v))))) (by
  show aI h a _ = _
  unfold aI
  rw [ho]
  show bI _ _ _ = _
  unfold bI
  rw [if_neg (i_in h1 h2 h3), i_clamp h1 (by omega)]
  show oI h v _ = _
  unfold oI
  rw [hv]
  show iff' _ _ = _
  unfold iff'
  rw [if_pos hC]) k
theorem w_newarray {n : Int} {at_ : ArrayType} {ty : FieldType} (q : fet (mE M) pc = some (.newarray at_, nx, ri)) (ht : newT at_ = some ty) (h1 : 0 ≤ n) (h2 : n ≤ 1000000) (k : Wp b L xs d M nx lv (.ref h.1 :: st) (hnew h (.inl (ty, n.toNat, fun _ => defaultValue ty)) n.toNat) Q) : Wp b L xs d M pc lv (vI n :: st) h Q := W_st q (fun _ => rfl) (z := (nx, lv, .ref h.1 :: st, hnew h (.inl (ty, n.toNat, fun _ => defaultValue ty)) n.toNat)) (by
  show (match newT at_ with | some ty => iff' _ _ | none => none) = _
  rw [ht]
  show iff' _ _ = _
  unfold iff'
  rw [if_pos (by rw [i_zero, i_lt (by omega) (by omega) (by omega) (by omega), i_clamp h1 (by omega)]; omega), i_clamp h1 (by omega)]) k
theorem w_anewarray {n : Int} {i t : Nat} {C : String} (q : fet (mE M) pc = some (.anewarray i, nx, t :: ri)) (ht : atys[t]? = some (.object C)) (h1 : 0 ≤ n) (h2 : n ≤ 1000000) (k : Wp b L xs d M nx lv (.ref h.1 :: st) (hnew h (.inl (.object C, n.toNat, fun _ => .null)) n.toNat) Q) : Wp b L xs d M pc lv (vI n :: st) h Q := W_st q (fun _ => rfl) (z := (nx, lv, .ref h.1 :: st, hnew h (.inl (.object C, n.toNat, fun _ => .null)) n.toNat)) (by
  show (match atys[t]? with | some (.object C) => iff' _ _ | _ => none) = _
  rw [ht]
  show iff' _ _ = _
  unfold iff'
  rw [if_pos (by rw [i_zero, i_lt (by omega) (by omega) (by omega) (by omega), i_clamp h1 (by omega)]; omega), i_clamp h1 (by omega)]) k
theorem w_new {i ci w : Nat} {ts : List FieldType} (q : fet (mE M) pc = some (.new i, nx, [ci, w])) (ht : vty[ci]? = some ts) (k : Wp b L xs d M nx lv (.ref h.1 :: st) (hnew h (.inr (ci, ts.map defaultValue)) ts.length) Q) : Wp b L xs d M pc lv st h Q := W_st q (fun _ => by unfold dpF; dsimp only; split <;> first | rfl | simp_all) (z := (nx, lv, .ref h.1 :: st, hnew h (.inr (ci, ts.map defaultValue)) ts.length)) (by
  show (match vty[ci]? with | some ts => some (nx, lv, Value.ref h.1 :: st, hnew h (.inr (ci, ts.map defaultValue)) ts.length) | none => none) = _
  rw [ht]) k
end Wps
