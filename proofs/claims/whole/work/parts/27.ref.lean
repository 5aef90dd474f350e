/-! the reference's object and arrays, as one function of its variables -/
abbrev RS : Type := (Nat → Int) × (Nat → Nat → Nat → Int)
def upF (ρ : RS) (k : Nat) (v : Int) : RS := (fun i => if i = k then v else ρ.1 i, ρ.2)
def upA (ρ : RS) (j r i : Nat) (v : Int) : RS := (ρ.1, fun j' r' i' => if j' = j ∧ r' = r ∧ i' = i then v else ρ.2 j' r' i')
theorem upF_2 (ρ : RS) (k : Nat) (v : Int) : (upF ρ k v).2 = ρ.2 := rfl
/-- a byte by its octet -/
def sb (z : Int) : Int := (z + 128) % 256 - 128
def vv (ty : FieldType) (x : Int) : Value := match ty with
  | .byte => vI (sb x)
  | _ => vI x
def mf (m0 : Nat) (ρ : RS) : List Value := [vI (ρ.1 0), .ref (m0 + 1), .ref (m0 + 2), .ref (m0 + 3), .ref (m0 + 4), .ref (m0 + 5), .ref (m0 + 6), vI (ρ.1 7), vI (ρ.1 8), vI (ρ.1 9), .ref (m0 + 263), .ref (m0 + 264), .ref (m0 + 265), .ref (m0 + 266), .ref (m0 + 267), .ref (m0 + 268), vI (ρ.1 16), .ref (m0 + 369), .ref (m0 + 370), .ref (m0 + 371), .ref (m0 + 372), .ref (m0 + 373), .ref (m0 + 374), .ref (m0 + 375), .ref (m0 + 376), .ref (m0 + 377), .ref (m0 + 378), vI (ρ.1 27), vI (ρ.1 28), vI (ρ.1 29), .ref (m0 + 379), .ref (m0 + 380), .ref (m0 + 381), .ref (m0 + 382), .ref (m0 + 383), .ref (m0 + 384), .ref (m0 + 385), .ref (m0 + 386), .ref (m0 + 387), .ref (m0 + 388), .ref (m0 + 645), .ref (m0 + 902), vI (ρ.1 42), vI (ρ.1 43), vI (ρ.1 44), vI (ρ.1 45), .ref (m0 + 1159), vI (ρ.1 47)]
/-- what lies at an offset: type, length, variable, row -/
def rlay (o : Nat) : Option (FieldType × Nat × Nat × Nat) :=
  if 1160 ≤ o then none else if o = 0 then none else if o ≤ 5 then some (.int, 256, o, 0) else if o = 6 then none else if o ≤ 262 then some (.byte, 512, 6, o - 7)
  else if o ≤ 265 then some (.int, 100, o - 253, 0) else if o ≤ 267 then some (.int, 101, o - 253, 0) else if o = 268 then none else if o ≤ 368 then some (.boolean, 256, 15, o - 269)
  else if o ≤ 375 then some (.int, 4000, o - 352, 0) else if o = 376 then some (.byte, 256000, 24, 0) else if o ≤ 378 then some (.int, 84000, o - 352, 0) else if o ≤ 380 then some (.boolean, 4001, o - 349, 0)
  else if o ≤ 386 then some (.int, 256, o - 349, 0) else if o = 387 then some (.boolean, 256, 38, 0) else if o = 388 then none else if o ≤ 644 then some (.byte, 512, 39, o - 389)
  else if o = 645 then none else if o ≤ 901 then some (.int, 256, 40, o - 646) else if o = 902 then none else if o ≤ 1158 then some (.int, 256, 41, o - 903) else if o = 1159 then some (.int, 64, 46, 0) else none
def rout (o : Nat) : Option (FieldType × Nat) := if o = 6 then some (.byte, 256) else if o = 268 then some (.boolean, 100) else if o = 388 then some (.byte, 256) else if o = 645 then some (.int, 256) else if o = 902 then some (.int, 256) else none
def radr (j r : Nat) : Nat := if j ≤ 5 then j else if j = 6 then 7 + r else if j ≤ 14 then j + 253 else if j = 15 then 269 + r else if j ≤ 26 then j + 352 else if j ≤ 38 then j + 349 else if j = 39 then 389 + r else if j = 40 then 646 + r else if j = 41 then 903 + r else 1159
theorem rlay_dec : ∀ o, o < 1160 → (match rlay o with | some q => decide (radr q.2.2.1 q.2.2.2 = o) && decide (q.2.1 ≤ 2147483647) | none => true) = true := by decide +kernel
theorem rlay_lt {o : Nat} {q : FieldType × Nat × Nat × Nat} (h : rlay o = some q) : o < 1160 := by
  by_cases e : 1160 ≤ o
  · unfold rlay at h
    rw [if_pos e] at h
    cases h
  · omega
theorem rlay_inv {o n j r : Nat} {ty : FieldType} (h : rlay o = some (ty, n, j, r)) : radr j r = o := by
  have := rlay_dec o (rlay_lt h)
  rw [h] at this
  simp only [Bool.and_eq_true, decide_eq_true_eq] at this
  exact this.1
theorem rlay_n {o n j r : Nat} {ty : FieldType} (h : rlay o = some (ty, n, j, r)) : n ≤ 2147483647 := by
  have := rlay_dec o (rlay_lt h)
  rw [h] at this
  simp only [Bool.and_eq_true, decide_eq_true_eq] at this
  exact this.2
theorem rout_N {o N : Nat} {ty : FieldType} (hl : rout o = some (ty, N)) : (o = 6 ∨ o = 268 ∨ o = 388 ∨ o = 645 ∨ o = 902) ∧ N ≤ 2147483647 := by
  unfold rout at hl
  by_cases e1 : o = 6
  · rw [if_pos e1] at hl; cases hl; exact ⟨Or.inl e1, by decide⟩
  rw [if_neg e1] at hl
  by_cases e2 : o = 268
  · rw [if_pos e2] at hl; cases hl; exact ⟨by omega, by decide⟩
  rw [if_neg e2] at hl
  by_cases e3 : o = 388
  · rw [if_pos e3] at hl; cases hl; exact ⟨by omega, by decide⟩
  rw [if_neg e3] at hl
  by_cases e4 : o = 645
  · rw [if_pos e4] at hl; cases hl; exact ⟨by omega, by decide⟩
  rw [if_neg e4] at hl
  by_cases e5 : o = 902
  · rw [if_pos e5] at hl; cases hl; exact ⟨by omega, by decide⟩
  rw [if_neg e5] at hl
  cases hl
def rcell (m0 : Nat) (ρ : RS) (o : Nat) : Option AO := match rlay o with
  | some (ty, n, j, r) => some (.inl (ty, n, fun i => vv ty (ρ.2 j r i)))
  | none => if o = 0 then some (.inr (7, mf m0 ρ)) else match rout o with
    | some (ty, N) => some (.inl (.array ty, N, fun j => if j < N then .ref (m0 + o + 1 + j) else .null))
    | none => none
/-- the heap with the reference's cells -/
def RH (m0 : Nat) (h : AH) (ρ : RS) : AH := (h.1, h.2.1, fun a => if m0 ≤ a ∧ a < m0 + 1160 then rcell m0 ρ (a - m0) else h.2.2 a)
theorem RH_at {m0 o : Nat} {h : AH} {ρ : RS} (ho : o < 1160) : (RH m0 h ρ).2.2 (m0 + o) = rcell m0 ρ o := by
  show (if m0 ≤ m0 + o ∧ m0 + o < m0 + 1160 then rcell m0 ρ (m0 + o - m0) else h.2.2 (m0 + o)) = _
  rw [if_pos ⟨by omega, by omega⟩, Nat.add_sub_cancel_left]
theorem RH_obj {m0 : Nat} {h : AH} {ρ : RS} : (RH m0 h ρ).2.2 m0 = some (.inr (7, mf m0 ρ)) := RH_at (o := 0) (by decide)
theorem RH_out {m0 a : Nat} {h : AH} {ρ : RS} (ho : a < m0 ∨ m0 + 1160 ≤ a) : (RH m0 h ρ).2.2 a = h.2.2 a := by
  show (if m0 ≤ a ∧ a < m0 + 1160 then rcell m0 ρ (a - m0) else h.2.2 a) = _
  rw [if_neg (by omega)]
theorem RH_arr {m0 o n j r : Nat} {ty : FieldType} {h : AH} {ρ : RS} (hl : rlay o = some (ty, n, j, r)) : (RH m0 h ρ).2.2 (m0 + o) = some (.inl (ty, n, fun i => vv ty (ρ.2 j r i))) := by
  rw [RH_at (rlay_lt hl)]
  unfold rcell
  rw [hl]
theorem RH_row {m0 o N : Nat} {ty : FieldType} {h : AH} {ρ : RS} (hl : rout o = some (ty, N)) : (RH m0 h ρ).2.2 (m0 + o) = some (.inl (.array ty, N, fun j => if j < N then .ref (m0 + o + 1 + j) else .null)) := by
  have h1 := (rout_N hl).1
  have h2 : rlay o = none ∧ o ≠ 0 ∧ o < 1160 := by
    rcases h1 with rfl | rfl | rfl | rfl | rfl <;> exact ⟨rfl, by decide, by decide⟩
  rw [RH_at h2.2.2]
  unfold rcell
  rw [h2.1]
  dsimp only
  rw [if_neg h2.2.1, hl]
theorem RH_putA {m0 o n j r i : Nat} {ty : FieldType} {x : Int} {h : AH} {ρ : RS} (hl : rlay o = some (ty, n, j, r)) : hput (RH m0 h ρ) (m0 + o) (.inl (ty, n, updV (fun i => vv ty (ρ.2 j r i)) i (vv ty x))) = RH m0 h (upA ρ j r i x) := by
  unfold hput RH
  dsimp only
  congr 2
  funext a
  unfold va_up
  by_cases e : a = m0 + o
  · subst e
    rw [if_pos rfl, if_pos ⟨by omega, by have := rlay_lt hl; omega⟩, Nat.add_sub_cancel_left]
    unfold rcell
    rw [hl]
    dsimp only
    congr 3
    congr 1
    funext k
    unfold updV upA
    dsimp only
    by_cases ek : k = i
    · rw [if_pos ek, if_pos ⟨rfl, rfl, ek⟩]
    · rw [if_neg ek, if_neg (fun z => ek z.2.2)]
  · rw [if_neg e]
    dsimp only
    by_cases ha : m0 ≤ a ∧ a < m0 + 1160
    · rw [if_pos ha, if_pos ha]
      unfold rcell
      cases hl' : rlay (a - m0) with
      | none => rfl
      | some q =>
        obtain ⟨ty', n', j', r'⟩ := q
        dsimp only
        congr 3
        congr 1
        funext k
        unfold upA
        dsimp only
        rw [if_neg]
        rintro ⟨rfl, rfl, -⟩
        have e1 := rlay_inv hl
        have e2 := rlay_inv hl'
        omega
    · rw [if_neg ha, if_neg ha]
theorem RH_putF {m0 k : Nat} {x : Int} {h : AH} {ρ : RS} (hk : (mf m0 ρ).set k (vI x) = mf m0 (upF ρ k x)) : hput (RH m0 h ρ) m0 (.inr (7, (mf m0 ρ).set k (vI x))) = RH m0 h (upF ρ k x) := by
  rw [hk]
  unfold hput RH
  dsimp only
  congr 2
  funext a
  unfold va_up
  by_cases e : a = m0
  · subst e
    rw [if_pos rfl, if_pos ⟨by omega, by omega⟩, Nat.sub_self]
    rfl
  · rw [if_neg e]
    dsimp only
    by_cases ha : m0 ≤ a ∧ a < m0 + 1160
    · rw [if_pos ha, if_pos ha]
      unfold rcell
      cases hl' : rlay (a - m0) with
      | none =>
        dsimp only
        rw [if_neg (by omega), if_neg (by omega)]
      | some q => rfl
    · rw [if_neg ha, if_neg ha]
theorem sb_mod (z : Int) : sb z % 256 = z % 256 := by unfold sb; omega
theorem sb_of_mod (z : Int) : sb (z % 256) = sb z := by unfold sb; omega
theorem sb_sb (z : Int) : sb (sb z) = sb z := by unfold sb; omega
theorem i_bmod8 (z : Int) : z.bmod (2 ^ 8) = sb z := by
  rw [Int.bmod_def]
  unfold sb
  split <;> omega
theorem sb_lo (z : Int) : -128 ≤ sb z := by unfold sb; omega
theorem sb_hi (z : Int) : sb z ≤ 127 := by unfold sb; omega
theorem i_byte (z : Int) : (Int32.ofInt z).toInt8.toInt32 = Int32.ofInt (sb z) := by
  have h1 := sb_lo z
  have h2 := sb_hi z
  rw [← Int32.toInt_inj, i_int (by omega) (by omega), Int8.toInt_toInt32, Int32.toInt_toInt8, Int32.toInt_ofInt, Int.bmod_bmod_of_dvd (by decide), i_bmod8]
section Wrs
variable {b L : Nat} {xs : Nat → Int32} {d : Nat} {M : MI} {pc nx : Nat} {ri : List Nat} {lv : List (Option Value)} {st : List Value} {m0 : Nat} {h : AH} {ρ : RS} {Q : AH → RO → Prop}
theorem w_i2b {x : Int} {h : AH} (q : fet (mE M) pc = some (.i2b, nx, ri)) (k : Wp b L xs d M nx lv (vI (sb x) :: st) h Q) : Wp b L xs d M pc lv (vI x :: st) h Q := W_st q (fun _ => rfl) (z := (nx, lv, vI (sb x) :: st, h)) (by
  show some (nx, lv, Value.int (Int32.ofInt x).toInt8.toInt32 :: st, h) = _
  rw [i_byte]) k
theorem m_get {i f fi : Nat} {v : Value} (q : fet (mE M) pc = some (.getfield i, nx, f :: 7 :: fi :: ri)) (hv : (mf m0 ρ)[fi]? = some v) (k : Wp b L xs d M nx lv (v :: st) (RH m0 h ρ) Q) : Wp b L xs d M pc lv (.ref m0 :: st) (RH m0 h ρ) Q := w_getfield q RH_obj hv k
theorem m_put {i f fi : Nat} {x : Int} {ty : FieldType} (q : fet (mE M) pc = some (.putfield i, nx, f :: 7 :: fi :: ri)) (ht : (vty.getD 7 [])[fi]? = some ty) (hv : fitv ty (vI x) = true) (hk : (mf m0 ρ).set fi (vI x) = mf m0 (upF ρ fi x)) (k : Wp b L xs d M nx lv st (RH m0 h (upF ρ fi x)) Q) : Wp b L xs d M pc lv (vI x :: .ref m0 :: st) (RH m0 h ρ) Q := w_putfield q RH_obj ht hv (by rw [RH_putF hk]; exact k)
theorem m_iaload {i : Int} {o n j r : Nat} (q : fet (mE M) pc = some (.iaload, nx, ri)) (hb : b < m0) (hl : rlay o = some (.int, n, j, r)) (h1 : 0 ≤ i) (h2 : i < n) (k : Wp b L xs d M nx lv (vI (ρ.2 j r i.toNat) :: st) (RH m0 h ρ) Q) : Wp b L xs d M pc lv (vI i :: .ref (m0 + o) :: st) (RH m0 h ρ) Q := w_iaload q (by omega) (RH_arr hl) h1 h2 (rlay_n hl) k
theorem m_zaload {i : Int} {o n j r : Nat} (q : fet (mE M) pc = some (.baload, nx, ri)) (hl : rlay o = some (.boolean, n, j, r)) (h1 : 0 ≤ i) (h2 : i < n) (k : Wp b L xs d M nx lv (vI (ρ.2 j r i.toNat) :: st) (RH m0 h ρ) Q) : Wp b L xs d M pc lv (vI i :: .ref (m0 + o) :: st) (RH m0 h ρ) Q := w_baload q (RH_arr hl) (Or.inr rfl) h1 h2 (rlay_n hl) k
theorem m_baload {i : Int} {o n j r : Nat} (q : fet (mE M) pc = some (.baload, nx, ri)) (hl : rlay o = some (.byte, n, j, r)) (h1 : 0 ≤ i) (h2 : i < n) (k : Wp b L xs d M nx lv (vI (sb (ρ.2 j r i.toNat)) :: st) (RH m0 h ρ) Q) : Wp b L xs d M pc lv (vI i :: .ref (m0 + o) :: st) (RH m0 h ρ) Q := w_baload q (RH_arr hl) (Or.inl rfl) h1 h2 (rlay_n hl) k
theorem m_aaload {i : Int} {o N : Nat} {ty : FieldType} (q : fet (mE M) pc = some (.aaload, nx, ri)) (hl : rout o = some (ty, N)) (h1 : 0 ≤ i) (h2 : i < N) (k : Wp b L xs d M nx lv (.ref (m0 + (o + 1 + i.toNat)) :: st) (RH m0 h ρ) Q) : Wp b L xs d M pc lv (vI i :: .ref (m0 + o) :: st) (RH m0 h ρ) Q := w_aaload q (RH_row hl) (Or.inr ⟨_, rfl⟩) h1 h2 (rout_N hl).2 (by
  show Wp b L xs d M nx lv ((if i.toNat < N then Value.ref (m0 + o + 1 + i.toNat) else .null) :: st) (RH m0 h ρ) Q
  rw [if_pos (by omega), Nat.add_assoc m0 o 1, Nat.add_assoc m0 (o + 1)]
  exact k)
theorem m_iastore {i x : Int} {o n j r : Nat} (q : fet (mE M) pc = some (.iastore, nx, ri)) (hl : rlay o = some (.int, n, j, r)) (h1 : 0 ≤ i) (h2 : i < n) (k : Wp b L xs d M nx lv st (RH m0 h (upA ρ j r i.toNat x)) Q) : Wp b L xs d M pc lv (vI x :: vI i :: .ref (m0 + o) :: st) (RH m0 h ρ) Q := w_iastore q (RH_arr hl) h1 h2 (rlay_n hl) (by
  rw [← RH_putA hl] at k
  exact k)
theorem m_bastore {i x : Int} {o n j r : Nat} (q : fet (mE M) pc = some (.bastore, nx, ri)) (hl : rlay o = some (.byte, n, j, r)) (h1 : 0 ≤ i) (h2 : i < n) (k : Wp b L xs d M nx lv st (RH m0 h (upA ρ j r i.toNat (x % 256))) Q) : Wp b L xs d M pc lv (vI x :: vI i :: .ref (m0 + o) :: st) (RH m0 h ρ) Q := w_bastore q (RH_arr hl) (Or.inl rfl) h1 h2 (rlay_n hl) (by
  rw [← RH_putA hl] at k
  have e : narrow .byte (.int (Int32.ofInt x)) = vv .byte (x % 256) := by
    show Value.int (Int32.ofInt x).toInt8.toInt32 = vI (sb (x % 256))
    rw [i_byte, sb_of_mod]
  rw [e]
  exact k)
theorem m_zastore {i x : Int} {o n j r : Nat} (q : fet (mE M) pc = some (.bastore, nx, ri)) (hl : rlay o = some (.boolean, n, j, r)) (h1 : 0 ≤ i) (h2 : i < n) (hx : x = 0 ∨ x = 1) (k : Wp b L xs d M nx lv st (RH m0 h (upA ρ j r i.toNat x)) Q) : Wp b L xs d M pc lv (vI x :: vI i :: .ref (m0 + o) :: st) (RH m0 h ρ) Q := w_bastore q (RH_arr hl) (Or.inr rfl) h1 h2 (rlay_n hl) (by
  rw [← RH_putA hl] at k
  have e : narrow .boolean (.int (Int32.ofInt x)) = vv .boolean x := by
    rcases hx with rfl | rfl <;> rfl
  rw [e]
  exact k)
end Wrs
