/-! the class's cells by what they are: an address has a kind and a number -/
abbrev CS : Type := (Nat → Option (Nat × Nat)) × (Nat → Nat → Nat → Value) × (Nat → Nat)
def upV (v : Nat → Value) (f : Nat) (x : Value) : Nat → Value := fun j => if j = f then x else v j
def upC (c : CS) (k i f : Nat) (x : Value) : CS := (c.1, fun k' i' => if k' = k ∧ i' = i then upV (c.2.1 k i) f x else c.2.1 k' i', c.2.2)
/-- 0 the vault, 1 the tree, 2 its nodes, 3 the volumes, 4 their words, 5 what is spoiled, 6 the writer, 7 what is restored, 8 facts, 9 missing, 10 lost, 11 the dumps, 12 a node, 13 a node's octets, 14 a dump, 20 new words, 21 a new row of bytes -/
def ccv (len : Nat → Nat) (k : Nat) (v : Nat → Value) : AO := match k with
  | 0 => .inr (0, [v 0, v 1, v 2, v 3, v 4, v 5])
  | 1 => .inr (1, [v 0, v 1, v 2])
  | 2 => .inl (.object "TapeVault$Node", 256, v)
  | 3 => .inr (2, [v 0, v 1, v 2, v 3, v 4])
  | 4 => .inl (.long, len 4, v)
  | 5 => .inl (.byte, len 5, v)
  | 6 => .inr (3, [v 0, v 1])
  | 7 => .inr (4, [v 0, v 1, v 2, v 3, v 4, v 5, v 6, v 7])
  | 8 => .inl (.int, 256, v)
  | 9 => .inl (.int, 256, v)
  | 10 => .inl (.boolean, 256, v)
  | 11 => .inl (.object "TapeVault$Dump", 100, v)
  | 12 => .inr (5, [v 0, v 1, v 2, v 3, v 4, v 5, v 6, v 7, v 8])
  | 13 => .inl (.byte, 512, v)
  | 14 => .inr (6, [v 0, v 1, v 2, v 3, v 4, v 5, v 6, v 7])
  | 20 => .inl (.long, len 20, v)
  | 21 => .inl (.byte, len 21, v)
  | _ => .inl (.int, 0, v)
/-- the heap with the class's cells -/
def CH (h : AH) (c : CS) : AH := (h.1, h.2.1, fun a => match c.1 a with
  | some q => some (ccv c.2.2 q.1 (c.2.1 q.1 q.2))
  | none => h.2.2 a)
/-- one address for each -/
def CI (c : CS) : Prop := ∀ a a' q, c.1 a = some q → c.1 a' = some q → a = a'
theorem CH_at {h : AH} {c : CS} {a : Nat} {q : Nat × Nat} (ho : c.1 a = some q) : (CH h c).2.2 a = some (ccv c.2.2 q.1 (c.2.1 q.1 q.2)) := by
  show (match c.1 a with | some q => some (ccv c.2.2 q.1 (c.2.1 q.1 q.2)) | none => h.2.2 a) = _
  rw [ho]
theorem CH_out {h : AH} {c : CS} {a : Nat} (ho : c.1 a = none) : (CH h c).2.2 a = h.2.2 a := by
  show (match c.1 a with | some q => some (ccv c.2.2 q.1 (c.2.1 q.1 q.2)) | none => h.2.2 a) = _
  rw [ho]
theorem CH_put {h : AH} {c : CS} (hI : CI c) {a k i f : Nat} {x : Value} (ho : c.1 a = some (k, i)) : hput (CH h c) a (ccv c.2.2 k (upV (c.2.1 k i) f x)) = CH h (upC c k i f x) := by
  refine Prod.ext rfl (Prod.ext rfl (funext fun b => ?_))
  show (if b = a then some (ccv c.2.2 k (upV (c.2.1 k i) f x)) else (match c.1 b with | some q => some (ccv c.2.2 q.1 (c.2.1 q.1 q.2)) | none => h.2.2 b)) = (match c.1 b with | some q => some (ccv c.2.2 q.1 (if q.1 = k ∧ q.2 = i then upV (c.2.1 k i) f x else c.2.1 q.1 q.2)) | none => h.2.2 b)
  by_cases e : b = a
  · subst e
    rw [if_pos rfl, ho]
    dsimp only
    rw [if_pos ⟨rfl, rfl⟩]
  · rw [if_neg e]
    cases hb : c.1 b with
    | none => rfl
    | some q =>
      dsimp only
      rw [if_neg (fun z => e (hI b a q hb (by rw [ho, ← z.1, ← z.2])))]
theorem upC_CI {c : CS} (hI : CI c) (k i f : Nat) (x : Value) : CI (upC c k i f x) := hI
theorem upC_eq (c : CS) (k i f : Nat) (x : Value) : (upC c k i f x).2.1 k i f = x := by
  show (if k = k ∧ i = i then upV (c.2.1 k i) f x else _) f = x
  rw [if_pos ⟨rfl, rfl⟩]
  show (if f = f then x else _) = x
  rw [if_pos rfl]
theorem upC_ne {c : CS} {k i f k' i' f' : Nat} {x : Value} (hn : ¬ (k' = k ∧ i' = i ∧ f' = f)) : (upC c k i f x).2.1 k' i' f' = c.2.1 k' i' f' := by
  show (if k' = k ∧ i' = i then upV (c.2.1 k i) f x else c.2.1 k' i') f' = _
  by_cases e : k' = k ∧ i' = i
  · rw [if_pos e]
    show (if f' = f then x else c.2.1 k i f') = _
    rw [if_neg (fun z => hn ⟨e.1, e.2, z⟩), e.1, e.2]
  · rw [if_neg e]
/-- a new cell of a kind, at the next address -/
def nwC (c : CS) (a k i : Nat) (v : Nat → Value) (len : Nat → Nat) : CS := (fun b => if b = a then some (k, i) else c.1 b, fun k' i' => if k' = k ∧ i' = i then v else c.2.1 k' i', len)
theorem CH_new {h : AH} {c : CS} {k i n : Nat} {v : Nat → Value} {len : Nat → Nat} (hf : ∀ b, c.1 b ≠ some (k, i)) (hl : ∀ k' i' b, c.1 b = some (k', i') → ∀ w, ccv len k' w = ccv c.2.2 k' w) : hnew (CH h c) (ccv len k v) n = CH (h.1 + 1, h.2.1 + n, h.2.2) (nwC c h.1 k i v len) := by
  refine Prod.ext rfl (Prod.ext rfl (funext fun b => ?_))
  show (if b = h.1 then some (ccv len k v) else (match c.1 b with | some q => some (ccv c.2.2 q.1 (c.2.1 q.1 q.2)) | none => h.2.2 b)) = (match (if b = h.1 then some (k, i) else c.1 b) with | some q => some (ccv len q.1 (if q.1 = k ∧ q.2 = i then v else c.2.1 q.1 q.2)) | none => h.2.2 b)
  by_cases e : b = h.1
  · rw [if_pos e, if_pos e]
    dsimp only
    rw [if_pos ⟨rfl, rfl⟩]
  · rw [if_neg e, if_neg e]
    cases hb : c.1 b with
    | none => rfl
    | some q =>
      dsimp only
      rw [if_neg (fun z => hf b (by rw [hb, ← z.1, ← z.2])), hl q.1 q.2 b hb]
theorem nwC_CI {c : CS} (hI : CI c) {a k i : Nat} {v : Nat → Value} {len : Nat → Nat} (hf : ∀ b, c.1 b ≠ some (k, i)) : CI (nwC c a k i v len) := by
  intro b b' q h1 h2
  have h1 : (if b = a then some (k, i) else c.1 b) = some q := h1
  have h2 : (if b' = a then some (k, i) else c.1 b') = some q := h2
  by_cases e : b = a
  · by_cases e' : b' = a
    · rw [e, e']
    · rw [if_pos e] at h1
      rw [if_neg e'] at h2
      exact absurd (h2.trans h1.symm) (hf b')
  · by_cases e' : b' = a
    · rw [if_neg e] at h1
      rw [if_pos e'] at h2
      exact absurd (h1.trans h2.symm) (hf b)
    · rw [if_neg e] at h1
      rw [if_neg e'] at h2
      exact hI b b' q h1 h2
/-- a cell that is no one's any more -/
def dpC (c : CS) (a : Nat) : CS := (fun b => if b = a then none else c.1 b, c.2.1, c.2.2)
theorem CH_drop {h : AH} {c : CS} {a : Nat} {q : Nat × Nat} (ho : c.1 a = some q) : CH h c = CH (h.1, h.2.1, fun b => if b = a then some (ccv c.2.2 q.1 (c.2.1 q.1 q.2)) else h.2.2 b) (dpC c a) := by
  refine Prod.ext rfl (Prod.ext rfl (funext fun b => ?_))
  show (match c.1 b with | some q => some (ccv c.2.2 q.1 (c.2.1 q.1 q.2)) | none => h.2.2 b) = (match (if b = a then none else c.1 b) with | some q => some (ccv c.2.2 q.1 (c.2.1 q.1 q.2)) | none => (if b = a then some (ccv c.2.2 q.1 (c.2.1 q.1 q.2)) else h.2.2 b))
  by_cases e : b = a
  · subst e
    rw [if_pos rfl, ho]
    dsimp only
    rw [if_pos rfl]
  · rw [if_neg e]
    cases hb : c.1 b with
    | none =>
      dsimp only
      rw [if_neg e]
    | some q => rfl
theorem dpC_CI {c : CS} (hI : CI c) (a : Nat) : CI (dpC c a) := by
  intro b b' q h1 h2
  have h1 : (if b = a then none else c.1 b) = some q := h1
  have h2 : (if b' = a then none else c.1 b') = some q := h2
  by_cases e : b = a
  · rw [if_pos e] at h1; cases h1
  · by_cases e' : b' = a
    · rw [if_pos e'] at h2; cases h2
    · rw [if_neg e] at h1
      rw [if_neg e'] at h2
      exact hI b b' q h1 h2
section Wks
variable {b L : Nat} {xs : Nat → Int32} {d : Nat} {M : MI} {pc nx : Nat} {ri : List Nat} {lv : List (Option Value)} {st : List Value} {h : AH} {c : CS} {Q : AH → RO → Prop}
theorem k_get {i f ci fi a k n : Nat} {fs : List Value} {v : Value} (q : fet (mE M) pc = some (.getfield i, nx, f :: ci :: fi :: ri)) (ho : c.1 a = some (k, n)) (hk : ccv c.2.2 k (c.2.1 k n) = .inr (ci, fs)) (hv : fs[fi]? = some v) (kk : Wp b L xs d M nx lv (v :: st) (CH h c) Q) : Wp b L xs d M pc lv (.ref a :: st) (CH h c) Q := w_getfield q (by rw [CH_at ho, hk]) hv kk
/-- with what the field holds -/
theorem k_getE {i f ci fi a k n : Nat} {fs : List Value} {v : Value} (q : fet (mE M) pc = some (.getfield i, nx, f :: ci :: fi :: ri)) (ho : c.1 a = some (k, n)) (hk : ccv c.2.2 k (c.2.1 k n) = .inr (ci, fs)) (hv : fs[fi]? = some (c.2.1 k n fi)) (he : c.2.1 k n fi = v) (kk : Wp b L xs d M nx lv (v :: st) (CH h c) Q) : Wp b L xs d M pc lv (.ref a :: st) (CH h c) Q := k_get q ho hk (hv.trans (by rw [he])) kk
theorem k_put (hI : CI c) {i f ci fi a k n : Nat} {fs : List Value} {v : Value} {ty : FieldType} (q : fet (mE M) pc = some (.putfield i, nx, f :: ci :: fi :: ri)) (ho : c.1 a = some (k, n)) (hk : ccv c.2.2 k (c.2.1 k n) = .inr (ci, fs)) (ht : (vty.getD ci [])[fi]? = some ty) (hv : fitv ty v = true) (hs : ccv c.2.2 k (upV (c.2.1 k n) fi v) = .inr (ci, fs.set fi v)) (kk : Wp b L xs d M nx lv st (CH h (upC c k n fi v)) Q) : Wp b L xs d M pc lv (v :: .ref a :: st) (CH h c) Q := w_putfield q (by rw [CH_at ho, hk]) ht hv (by rw [← hs, CH_put hI ho]; exact kk)
theorem k_alen {a k i n : Nat} {ty : FieldType} (q : fet (mE M) pc = some (.arraylength, nx, ri)) (hb : a ≠ b) (ho : c.1 a = some (k, i)) (hk : ccv c.2.2 k (c.2.1 k i) = .inl (ty, n, c.2.1 k i)) (kk : Wp b L xs d M nx lv (vI n :: st) (CH h c) Q) : Wp b L xs d M pc lv (.ref a :: st) (CH h c) Q := w_alen q hb (by rw [CH_at ho, hk]) kk
theorem k_iaload {j : Int} {a k i n : Nat} {v : Value} (q : fet (mE M) pc = some (.iaload, nx, ri)) (hb : a ≠ b) (ho : c.1 a = some (k, i)) (hk : ccv c.2.2 k (c.2.1 k i) = .inl (.int, n, c.2.1 k i)) (h1 : 0 ≤ j) (h2 : j < n) (h3 : n ≤ 2147483647) (he : c.2.1 k i j.toNat = v) (kk : Wp b L xs d M nx lv (v :: st) (CH h c) Q) : Wp b L xs d M pc lv (vI j :: .ref a :: st) (CH h c) Q := w_iaload q hb (by rw [CH_at ho, hk]) h1 h2 h3 (by rw [he]; exact kk)
theorem k_laload {j : Int} {a k i n : Nat} {v : Value} (q : fet (mE M) pc = some (.laload, nx, ri)) (ho : c.1 a = some (k, i)) (hk : ccv c.2.2 k (c.2.1 k i) = .inl (.long, n, c.2.1 k i)) (h1 : 0 ≤ j) (h2 : j < n) (h3 : n ≤ 2147483647) (he : c.2.1 k i j.toNat = v) (kk : Wp b L xs d M nx lv (v :: st) (CH h c) Q) : Wp b L xs d M pc lv (vI j :: .ref a :: st) (CH h c) Q := w_laload q (by rw [CH_at ho, hk]) h1 h2 h3 (by rw [he]; exact kk)
theorem k_baload {j : Int} {a k i n : Nat} {v : Value} {ty : FieldType} (q : fet (mE M) pc = some (.baload, nx, ri)) (ho : c.1 a = some (k, i)) (hk : ccv c.2.2 k (c.2.1 k i) = .inl (ty, n, c.2.1 k i)) (hty : ty = .byte ∨ ty = .boolean) (h1 : 0 ≤ j) (h2 : j < n) (h3 : n ≤ 2147483647) (he : c.2.1 k i j.toNat = v) (kk : Wp b L xs d M nx lv (v :: st) (CH h c) Q) : Wp b L xs d M pc lv (vI j :: .ref a :: st) (CH h c) Q := w_baload q (by rw [CH_at ho, hk]) hty h1 h2 h3 (by rw [he]; exact kk)
theorem k_aaload {j : Int} {a k i n : Nat} {v : Value} {C : String} (q : fet (mE M) pc = some (.aaload, nx, ri)) (ho : c.1 a = some (k, i)) (hk : ccv c.2.2 k (c.2.1 k i) = .inl (.object C, n, c.2.1 k i)) (h1 : 0 ≤ j) (h2 : j < n) (h3 : n ≤ 2147483647) (he : c.2.1 k i j.toNat = v) (kk : Wp b L xs d M nx lv (v :: st) (CH h c) Q) : Wp b L xs d M pc lv (vI j :: .ref a :: st) (CH h c) Q := w_aaload q (by rw [CH_at ho, hk]) (Or.inl ⟨C, rfl⟩) h1 h2 h3 (by rw [he]; exact kk)
theorem k_iastore (hI : CI c) {j x : Int} {a k i n : Nat} (q : fet (mE M) pc = some (.iastore, nx, ri)) (ho : c.1 a = some (k, i)) (hk : ∀ v, ccv c.2.2 k v = .inl (.int, n, v)) (h1 : 0 ≤ j) (h2 : j < n) (h3 : n ≤ 2147483647) (kk : Wp b L xs d M nx lv st (CH h (upC c k i j.toNat (vI x))) Q) : Wp b L xs d M pc lv (vI x :: vI j :: .ref a :: st) (CH h c) Q := w_iastore q (by rw [CH_at ho, hk]) h1 h2 h3 (by rw [← CH_put hI ho, hk] at kk; exact kk)
theorem k_lastore (hI : CI c) {j : Int} {x : Int64} {a k i n : Nat} (q : fet (mE M) pc = some (.lastore, nx, ri)) (ho : c.1 a = some (k, i)) (hk : ∀ v, ccv c.2.2 k v = .inl (.long, n, v)) (h1 : 0 ≤ j) (h2 : j < n) (h3 : n ≤ 2147483647) (kk : Wp b L xs d M nx lv st (CH h (upC c k i j.toNat (.long x))) Q) : Wp b L xs d M pc lv (.long x :: vI j :: .ref a :: st) (CH h c) Q := w_lastore q (by rw [CH_at ho, hk]) h1 h2 h3 (by rw [← CH_put hI ho, hk] at kk; exact kk)
theorem k_bastore (hI : CI c) {j x : Int} {a k i n : Nat} (q : fet (mE M) pc = some (.bastore, nx, ri)) (ho : c.1 a = some (k, i)) (hk : ∀ v, ccv c.2.2 k v = .inl (.byte, n, v)) (h1 : 0 ≤ j) (h2 : j < n) (h3 : n ≤ 2147483647) (kk : Wp b L xs d M nx lv st (CH h (upC c k i j.toNat (vI (sb x)))) Q) : Wp b L xs d M pc lv (vI x :: vI j :: .ref a :: st) (CH h c) Q := w_bastore q (by rw [CH_at ho, hk]) (Or.inl rfl) h1 h2 h3 (by
  rw [← CH_put hI ho, hk] at kk
  rw [show narrow .byte (.int (Int32.ofInt x)) = vI (sb x) from by show Value.int (Int32.ofInt x).toInt8.toInt32 = _; rw [i_byte]]
  exact kk)
theorem k_zastore (hI : CI c) {j x : Int} {a k i n : Nat} (q : fet (mE M) pc = some (.bastore, nx, ri)) (ho : c.1 a = some (k, i)) (hk : ∀ v, ccv c.2.2 k v = .inl (.boolean, n, v)) (h1 : 0 ≤ j) (h2 : j < n) (h3 : n ≤ 2147483647) (hx : x = 0 ∨ x = 1) (kk : Wp b L xs d M nx lv st (CH h (upC c k i j.toNat (vI x))) Q) : Wp b L xs d M pc lv (vI x :: vI j :: .ref a :: st) (CH h c) Q := w_bastore q (by rw [CH_at ho, hk]) (Or.inr rfl) h1 h2 h3 (by
  rw [← CH_put hI ho, hk] at kk
  rw [show narrow .boolean (.int (Int32.ofInt x)) = vI x from by rcases hx with rfl | rfl <;> rfl]
  exact kk)
theorem k_aastoreN (hI : CI c) {j : Int} {a k i n : Nat} {C : String} (q : fet (mE M) pc = some (.aastore, nx, ri)) (ho : c.1 a = some (k, i)) (hk : ∀ v, ccv c.2.2 k v = .inl (.object C, n, v)) (h1 : 0 ≤ j) (h2 : j < n) (h3 : n ≤ 2147483647) (kk : Wp b L xs d M nx lv st (CH h (upC c k i j.toNat .null)) Q) : Wp b L xs d M pc lv (.null :: vI j :: .ref a :: st) (CH h c) Q := w_aastoreN q (by rw [CH_at ho, hk]) h1 h2 h3 (by rw [← CH_put hI ho, hk] at kk; exact kk)
theorem k_aastore (hI : CI c) {j : Int} {a k i n w k2 i2 cj : Nat} {fs : List Value} {C : String} (q : fet (mE M) pc = some (.aastore, nx, ri)) (ho : c.1 a = some (k, i)) (hk : ∀ v, ccv c.2.2 k v = .inl (.object C, n, v)) (hw : c.1 w = some (k2, i2)) (hk2 : ccv c.2.2 k2 (c.2.1 k2 i2) = .inr (cj, fs)) (hC : (vcl[cj]?).map (fun q => q.1) = some C) (h1 : 0 ≤ j) (h2 : j < n) (h3 : n ≤ 2147483647) (kk : Wp b L xs d M nx lv st (CH h (upC c k i j.toNat (.ref w))) Q) : Wp b L xs d M pc lv (.ref w :: vI j :: .ref a :: st) (CH h c) Q := w_aastore q (by rw [CH_at ho, hk]) (by rw [CH_at hw, hk2]) hC h1 h2 h3 (by rw [← CH_put hI ho, hk] at kk; exact kk)
/-- the object that a call is of -/
theorem CH_ob {a k i ci : Nat} {fs : List Value} (ho : c.1 a = some (k, i)) (hk : ccv c.2.2 k (c.2.1 k i) = .inr (ci, fs)) : (CH h c).2.2 a = some (.inr (ci, fs)) := by rw [CH_at ho, hk]
end Wks
