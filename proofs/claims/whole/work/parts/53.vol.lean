/-! octets of words -/
def by8 (w : Int64) (j : Nat) : Nat := (w.toBitVec.extractLsb' (56 - 8 * j) 8).toNat
theorem by8_lt (w : Int64) (j : Nat) : by8 w j < 256 := BitVec.isLt _
theorem by8_val (w : Int64) (j : Nat) : by8 w j = w.toBitVec.toNat / 2 ^ (56 - 8 * j) % 256 := by
  unfold by8
  rw [BitVec.extractLsb'_toNat, Nat.shiftRight_eq_div_pow]
theorem by8_zero (j : Nat) : by8 0 j = 0 := by rw [by8_val]; show 0 / _ % 256 = 0; rw [Nat.zero_div]
theorem by8_or (a c : Int64) (j : Nat) : by8 (a ||| c) j = by8 a j ||| by8 c j := by
  unfold by8
  rw [show (a ||| c).toBitVec = a.toBitVec ||| c.toBitVec from rfl, BitVec.extractLsb'_or, BitVec.toNat_or]
theorem l_nat {x : Nat} (hx : x < 2147483648) : (Int32.ofInt (x : Int)).toInt64.toBitVec.toNat = x := by
  have : (Int32.ofInt (x : Int)).toInt64 = Int64.ofInt x := by
    apply Int64.toInt_inj.mp
    rw [Int32.toInt_toInt64, Int32.toInt_ofInt_of_le (by omega) (by omega), Int64.toInt_ofInt_of_le (by omega) (by omega)]
  rw [this]
  show (BitVec.ofInt 64 (x : Int)).toNat = x
  rw [BitVec.toNat_ofInt]
  omega
theorem l_shlB (v : Int64) {s : Nat} (hs : s < 64) : (v <<< ((Int32.ofInt (s : Int)).toInt64 &&& 63)).toBitVec.toNat = v.toBitVec.toNat * 2 ^ s % 2 ^ 64 := by
  show (v.toBitVec <<< (((Int32.ofInt (s : Int)).toInt64 &&& 63).toBitVec.smod 64)).toNat = _
  rw [BitVec.shiftLeft_eq', BitVec.toNat_shiftLeft, s64 s hs, Nat.shiftLeft_eq]
theorem l_ushrB (v : Int64) {s : Nat} (hs : s < 64) : ((v.toUInt64 >>> ((Int32.ofInt (s : Int)).toInt64.toUInt64 &&& Int64.toUInt64 63)).toInt64).toBitVec.toNat = v.toBitVec.toNat / 2 ^ s := by
  show (v.toBitVec >>> (((Int32.ofInt (s : Int)).toInt64.toUInt64 &&& Int64.toUInt64 63).toBitVec % 64)).toNat = _
  rw [BitVec.ushiftRight_eq', BitVec.toNat_ushiftRight, s64u s hs, Nat.shiftRight_eq_div_pow]
theorem by8_shl {x : Nat} (hx : x < 256) {k j : Nat} (hk : k < 8) (hj : j < 8) : by8 ((Int32.ofInt (x : Int)).toInt64 <<< ((Int32.ofInt ((56 - 8 * k : Nat) : Int)).toInt64 &&& 63)) j = if j = k then x else 0 := by
  rw [by8_val, l_shlB _ (by omega), l_nat (by omega)]
  obtain rfl | rfl | rfl | rfl | rfl | rfl | rfl | rfl : k = 0 ∨ k = 1 ∨ k = 2 ∨ k = 3 ∨ k = 4 ∨ k = 5 ∨ k = 6 ∨ k = 7 := by omega
  all_goals
    obtain rfl | rfl | rfl | rfl | rfl | rfl | rfl | rfl : j = 0 ∨ j = 1 ∨ j = 2 ∨ j = 3 ∨ j = 4 ∨ j = 5 ∨ j = 6 ∨ j = 7 := by omega
    all_goals
      simp only [Nat.reduceMul, Nat.reduceSub, Nat.reducePow, Nat.reduceEqDiff, if_true, if_false]
      omega
theorem by8_ext {a c : Int64} (hh : ∀ j, j < 8 → by8 a j = by8 c j) : a = c := by
  have h0 := hh 0 (by omega); have h1 := hh 1 (by omega); have h2 := hh 2 (by omega); have h3 := hh 3 (by omega); have h4 := hh 4 (by omega); have h5 := hh 5 (by omega); have h6 := hh 6 (by omega); have h7 := hh 7 (by omega)
  simp only [by8_val, Nat.reduceMul, Nat.reduceSub, Nat.reducePow] at h0 h1 h2 h3 h4 h5 h6 h7
  have e1 := a.toBitVec.isLt
  have e2 := c.toBitVec.isLt
  simp only [Nat.reducePow] at e1 e2
  have : a.toBitVec.toNat = c.toBitVec.toNat := by omega
  exact Int64.toBitVec_inj.mp (BitVec.eq_of_toNat_eq this)
theorem by8_push (w : Int64) {x : Nat} (hx : x < 256) {j : Nat} (hj : j < 8) : by8 ((w <<< ((Int32.ofInt 8).toInt64 &&& 63)) ||| (Int32.ofInt (x : Int)).toInt64) j = if j = 7 then x else by8 w (j + 1) := by
  rw [by8_or, by8_val, by8_val, by8_val, l_nat (by omega), show (8 : Int) = ((8 : Nat) : Int) from rfl, l_shlB _ (by omega)]
  have e1 := w.toBitVec.isLt
  obtain rfl | rfl | rfl | rfl | rfl | rfl | rfl | rfl : j = 0 ∨ j = 1 ∨ j = 2 ∨ j = 3 ∨ j = 4 ∨ j = 5 ∨ j = 6 ∨ j = 7 := by omega
  all_goals simp only [Nat.reduceMul, Nat.reduceSub, Nat.reduceAdd, Nat.reducePow, Nat.reduceEqDiff, if_true, if_false]
  · rw [show x / 72057594037927936 % 256 = 0 by omega, Nat.or_zero]; omega
  · rw [show x / 281474976710656 % 256 = 0 by omega, Nat.or_zero]; omega
  · rw [show x / 1099511627776 % 256 = 0 by omega, Nat.or_zero]; omega
  · rw [show x / 4294967296 % 256 = 0 by omega, Nat.or_zero]; omega
  · rw [show x / 16777216 % 256 = 0 by omega, Nat.or_zero]; omega
  · rw [show x / 65536 % 256 = 0 by omega, Nat.or_zero]; omega
  · rw [show x / 256 % 256 = 0 by omega, Nat.or_zero]; omega
  · rw [show w.toBitVec.toNat * 256 % 18446744073709551616 / 1 % 256 = 0 by omega, Nat.zero_or]; omega
theorem by8_num (w : Int64) {s j : Nat} (hj : j < 8) (hs : s = 56 - 8 * j) : ((w.toUInt64 >>> ((Int32.ofInt (s : Int)).toInt64.toUInt64 &&& Int64.toUInt64 63)).toInt64 &&& 255).toInt32 = Int32.ofInt (by8 w j : Int) := by
  subst hs
  apply Int32.toBitVec_inj.mp
  apply BitVec.eq_of_toNat_eq
  have e1 := l_ushrB w (s := 56 - 8 * j) (by omega)
  have e2 : ((w.toUInt64 >>> ((Int32.ofInt ((56 - 8 * j : Nat) : Int)).toInt64.toUInt64 &&& Int64.toUInt64 63)).toInt64 &&& 255).toBitVec.toNat = by8 w j := by
    show (_ &&& (255#64)).toNat = _
    rw [BitVec.toNat_and, e1, by8_val]
    show _ &&& (2 ^ 8 - 1) = _
    rw [Nat.and_two_pow_sub_one_eq_mod]
  have e3 := by8_lt w j
  show (BitVec.signExtend 32 _).toNat = _
  rw [BitVec.signExtend_eq_setWidth_of_le _ (by omega), BitVec.toNat_setWidth, e2]
  show _ = (BitVec.ofInt 32 _).toNat
  rw [BitVec.toNat_ofInt]
  omega
theorem by8_lo (v : Int64) {k : Nat} (hk : k < 8) : (by8 v k : Int) = v.toInt / 2 ^ (56 - 8 * k) % 256 := by
  rw [by8_val]
  have e1 := v.toBitVec.isLt
  have e2 : v.toInt = if 2 * v.toBitVec.toNat < 2 ^ 64 then (v.toBitVec.toNat : Int) else (v.toBitVec.toNat : Int) - ((2 ^ 64 : Nat) : Int) := BitVec.toInt_eq_toNat_cond v.toBitVec
  rw [e2]
  obtain rfl | rfl | rfl | rfl | rfl | rfl | rfl | rfl : k = 0 ∨ k = 1 ∨ k = 2 ∨ k = 3 ∨ k = 4 ∨ k = 5 ∨ k = 6 ∨ k = 7 := by omega
  all_goals
    simp only [Nat.reduceMul, Nat.reduceSub, Nat.reducePow, Int.reducePow] at *
    split <;> omega
theorem ushr_lo (v : Int64) {k : Nat} (hk : k < 8) {s : Nat} (hs : s = 56 - 8 * k) : ((v.toUInt64 >>> ((Int32.ofInt (s : Int)).toInt64.toUInt64 &&& Int64.toUInt64 63)).toInt64).toInt % 256 = by8 v k := by
  subst hs
  rw [by8_val]
  have e1 := l_ushrB v (s := 56 - 8 * k) (by omega)
  have e0 := v.toBitVec.isLt
  generalize (v.toUInt64 >>> ((Int32.ofInt ((56 - 8 * k : Nat) : Int)).toInt64.toUInt64 &&& Int64.toUInt64 63)).toInt64 = X at e1 ⊢
  have e2 : X.toInt = if 2 * X.toBitVec.toNat < 2 ^ 64 then (X.toBitVec.toNat : Int) else (X.toBitVec.toNat : Int) - ((2 ^ 64 : Nat) : Int) := BitVec.toInt_eq_toNat_cond X.toBitVec
  rw [← e1, e2]
  simp only [Nat.reducePow]
  split <;> omega
theorem by8_pk {B : Nat → Int} (hB : ∀ i, 0 ≤ B i ∧ B i ≤ 255) (s : Nat) {j : Nat} (hj : j < 8) : (by8 (pk B s 8 0) j : Int) = B (s + j) := by
  have pu : ∀ (w : Int64) (i : Nat) {j : Nat}, j < 8 → by8 ((w <<< ((Int32.ofInt 8).toInt64 &&& 63)) ||| (Int32.ofInt (B i)).toInt64) j = if j = 7 then (B i).toNat else by8 w (j + 1) := fun w i j h1 => by
    have h2 := hB i
    have h3 := by8_push w (x := (B i).toNat) (by omega) h1
    rwa [Int.toNat_of_nonneg h2.1] at h3
  have gt : ∀ i, ((B i).toNat : Int) = B i := fun i => Int.toNat_of_nonneg (hB i).1
  unfold pk pk pk pk pk pk pk pk pk
  obtain rfl | rfl | rfl | rfl | rfl | rfl | rfl | rfl : j = 0 ∨ j = 1 ∨ j = 2 ∨ j = 3 ∨ j = 4 ∨ j = 5 ∨ j = 6 ∨ j = 7 := by omega
  · rw [pu _ _ (by decide), if_neg (by decide), pu _ _ (by decide), if_neg (by decide), pu _ _ (by decide), if_neg (by decide), pu _ _ (by decide), if_neg (by decide), pu _ _ (by decide), if_neg (by decide), pu _ _ (by decide), if_neg (by decide), pu _ _ (by decide), if_neg (by decide), pu _ _ (by decide), if_pos rfl, gt]
    rfl
  · rw [pu _ _ (by decide), if_neg (by decide), pu _ _ (by decide), if_neg (by decide), pu _ _ (by decide), if_neg (by decide), pu _ _ (by decide), if_neg (by decide), pu _ _ (by decide), if_neg (by decide), pu _ _ (by decide), if_neg (by decide), pu _ _ (by decide), if_pos rfl, gt]
  · rw [pu _ _ (by decide), if_neg (by decide), pu _ _ (by decide), if_neg (by decide), pu _ _ (by decide), if_neg (by decide), pu _ _ (by decide), if_neg (by decide), pu _ _ (by decide), if_neg (by decide), pu _ _ (by decide), if_pos rfl, gt]
  · rw [pu _ _ (by decide), if_neg (by decide), pu _ _ (by decide), if_neg (by decide), pu _ _ (by decide), if_neg (by decide), pu _ _ (by decide), if_neg (by decide), pu _ _ (by decide), if_pos rfl, gt]
  · rw [pu _ _ (by decide), if_neg (by decide), pu _ _ (by decide), if_neg (by decide), pu _ _ (by decide), if_neg (by decide), pu _ _ (by decide), if_pos rfl, gt]
  · rw [pu _ _ (by decide), if_neg (by decide), pu _ _ (by decide), if_neg (by decide), pu _ _ (by decide), if_pos rfl, gt]
  · rw [pu _ _ (by decide), if_neg (by decide), pu _ _ (by decide), if_pos rfl, gt]
  · rw [pu _ _ (by decide), if_pos rfl, gt]
/-- an octet of the place p -/
def ocW (W : Nat → Int64) (p j : Nat) : Int := (by8 (W (8 * p + j / 8)) (j % 8) : Int)
theorem ocW_ok (W : Nat → Int64) (p j : Nat) : 0 ≤ ocW W p j ∧ ocW W p j ≤ 255 := by
  have := by8_lt (W (8 * p + j / 8)) (j % 8)
  unfold ocW
  omega
def orB (B : Nat → Int) (i : Nat) (x : Int) : Nat → Int := upB B i (orI (B i) x)
def stK (B : Nat → Int) (f : Nat) (v : Int) : Nat → Nat → Int
  | 0 => B
  | k + 1 => stK (orB B f (v / 2 ^ (8 * k) % 256)) (f + 1) v k
theorem orB_0 {B : Nat → Int} {i : Nat} (hi : B i = 0) {x : Int} (hx : 0 ≤ x) : orB B i x = upB B i x := by
  unfold orB orI
  rw [hi, show (0 : Int).toNat = 0 from rfl, Nat.zero_or, Int.toNat_of_nonneg hx]
theorem stK_put (v : Int) : ∀ (k f : Nat) (B : Nat → Int), (∀ i, f ≤ i → i < f + k → B i = 0) → stK B f v k = putK B f v k
  | 0, _, _, _ => rfl
  | k + 1, f, B, hB => by
    show stK (orB B f (v / 2 ^ (8 * k) % 256)) (f + 1) v k = putK (upB B f (v / 2 ^ (8 * k) % 256)) (f + 1) v k
    rw [orB_0 (hB f (by omega) (by omega)) (Int.emod_nonneg _ (by decide))]
    refine stK_put v k (f + 1) _ (fun i h1 h2 => ?_)
    unfold upB
    rw [if_neg (by omega)]
    exact hB i (by omega) (by omega)
/-- only the block's 64 octets matter -/
theorem orB_c {B B' : Nat → Int} (h1 : ∀ j, j < 64 → B j = B' j) {i : Nat} (hi : i < 64) (x : Int) : ∀ j, j < 64 → orB B i x j = orB B' i x j := by
  intro j hj
  unfold orB upB
  by_cases e : j = i
  · rw [if_pos e, if_pos e, h1 i hi]
  · rw [if_neg e, if_neg e, h1 j hj]
theorem stK_c (v : Int) : ∀ (k f : Nat) (B B' : Nat → Int), f + k ≤ 64 → (∀ j, j < 64 → B j = B' j) → ∀ j, j < 64 → stK B f v k j = stK B' f v k j
  | 0, _, _, _, _, h1 => h1
  | k + 1, f, B, B', hf, h1 => stK_c v k (f + 1) _ _ (by omega) (orB_c h1 (by omega) _)
def upW (W : Nat → Int64) (i : Nat) (x : Int64) : Nat → Int64 := fun j => if j = i then x else W j
theorem ocW_or (W : Nat → Int64) {p i : Nat} {x : Nat} (hx : x < 256) (hi : i < 64) (q j : Nat) (hj : j < 64) : ocW (upW W (8 * p + i / 8) (W (8 * p + i / 8) ||| ((Int32.ofInt (x : Int)).toInt64 <<< ((Int32.ofInt ((56 - 8 * (i % 8) : Nat) : Int)).toInt64 &&& 63)))) q j = if q = p then orB (ocW W p) i x j else ocW W q j := by
  unfold ocW upW
  by_cases e : 8 * q + j / 8 = 8 * p + i / 8
  · rw [if_pos e, if_pos (by omega), by8_or, by8_shl hx (by omega) (by omega)]
    unfold orB upB orI
    dsimp only
    by_cases e2 : j = i
    · rw [if_pos (by omega), if_pos e2, e2, Int.toNat_natCast, Int.toNat_natCast]
    · rw [if_neg (by omega), if_neg e2, Nat.or_zero]
      show ((by8 (W (8 * p + i / 8)) (j % 8) : Nat) : Int) = ((by8 (W (8 * p + j / 8)) (j % 8) : Nat) : Int)
      rw [show 8 * p + i / 8 = 8 * p + j / 8 by omega]
  · rw [if_neg e]
    by_cases e3 : q = p
    · subst e3
      rw [if_pos rfl]
      unfold orB upB
      rw [if_neg (by intro z; apply e; rw [z])]
    · rw [if_neg e3]
/-- a number out of octets -/
def nmL (B : Nat → Int) : Nat → Nat → Int → Int
  | _, 0, a => a
  | i, m + 1, a => nmL B (i + 1) m (a * 256 + B i)
/-- where a block lies -/
def psB (cap k : Nat) : Nat := k / (cap - 1) * cap + 1 + k % (cap - 1)
/-! the volumes, over the rest -/
def vfl (W0 P0 cap wr fi : Nat) : Nat → Value := fun f => if f = 0 then .ref W0 else if f = 1 then .ref P0 else if f = 2 then vI cap else if f = 3 then vI wr else if f = 4 then vI fi else .null
def mkV (c : CS) (W0 P0 len cap wr fi : Nat) (W : Nat → Int64) (S : Nat → Int) : CS := (fun a => if a = W0 then some (4, 0) else if a = P0 then some (5, 0) else c.1 a, fun k i => if k = 3 ∧ i = 0 then vfl W0 P0 cap wr fi else if k = 4 ∧ i = 0 then (fun j => .long (W j)) else if k = 5 ∧ i = 0 then (fun j => vI (S j)) else c.2.1 k i, fun k => if k = 4 then 8 * len else if k = 5 then len else c.2.2 k)
def VI (b : Nat) (c : CS) (V0 W0 P0 len cap wr : Nat) (S : Nat → Int) : Prop := c.1 V0 = some (3, 0) ∧ c.1 W0 = none ∧ c.1 P0 = none ∧ W0 ≠ P0 ∧ W0 ≠ b ∧ P0 ≠ b ∧ CI c ∧ (∀ a i, c.1 a ≠ some (4, i)) ∧ (∀ a i, c.1 a ≠ some (5, i)) ∧ 4 ≤ cap ∧ cap ≤ 1000 ∧ wr ≤ len ∧ 16 ≤ len ∧ len ≤ 8000 ∧ ∀ i, S i = 0 ∨ S i = 1
theorem mk_k {c : CS} {W0 P0 len cap wr fi k : Nat} {W : Nat → Int64} {S : Nat → Int} (h3 : k ≠ 3) (h4 : k ≠ 4) (h5 : k ≠ 5) (i : Nat) : (mkV c W0 P0 len cap wr fi W S).2.1 k i = c.2.1 k i := by
  show (if k = 3 ∧ i = 0 then _ else if k = 4 ∧ i = 0 then _ else if k = 5 ∧ i = 0 then _ else c.2.1 k i) = _
  rw [if_neg (fun z => h3 z.1), if_neg (fun z => h4 z.1), if_neg (fun z => h5 z.1)]
theorem mk_o {c : CS} {W0 P0 len cap wr fi a : Nat} {W : Nat → Int64} {S : Nat → Int} (h1 : a ≠ W0) (h2 : a ≠ P0) : (mkV c W0 P0 len cap wr fi W S).1 a = c.1 a := by
  show (if a = W0 then _ else if a = P0 then _ else c.1 a) = _
  rw [if_neg h1, if_neg h2]
theorem VI_f {b : Nat} {c : CS} {V0 W0 P0 len cap wr : Nat} {S : Nat → Int} (hV : VI b c V0 W0 P0 len cap wr S) (fi : Nat) (W : Nat → Int64) : CI (mkV c W0 P0 len cap wr fi W S) ∧ (mkV c W0 P0 len cap wr fi W S).1 V0 = some (3, 0) ∧ (mkV c W0 P0 len cap wr fi W S).1 W0 = some (4, 0) ∧ (mkV c W0 P0 len cap wr fi W S).1 P0 = some (5, 0) := by
  obtain ⟨a1, a2, a3, a4, a5, a6, a7, a8, a9, -⟩ := hV
  refine ⟨?_, ?_, if_pos rfl, ?_⟩
  · intro x y q h1 h2
    have h1 : (if x = W0 then some (4, 0) else if x = P0 then some (5, 0) else c.1 x) = some q := h1
    have h2 : (if y = W0 then some (4, 0) else if y = P0 then some (5, 0) else c.1 y) = some q := h2
    by_cases e1 : x = W0
    · rw [if_pos e1] at h1
      by_cases e2 : y = W0
      · rw [e1, e2]
      · rw [if_neg e2] at h2
        by_cases e3 : y = P0
        · rw [if_pos e3] at h2
          rw [← h1] at h2; cases h2
        · rw [if_neg e3] at h2
          exact absurd (h2.trans h1.symm) (a8 y 0)
    · rw [if_neg e1] at h1
      by_cases e4 : x = P0
      · rw [if_pos e4] at h1
        by_cases e2 : y = W0
        · rw [if_pos e2] at h2
          rw [← h1] at h2; cases h2
        · rw [if_neg e2] at h2
          by_cases e3 : y = P0
          · rw [e4, e3]
          · rw [if_neg e3] at h2
            exact absurd (h2.trans h1.symm) (a9 y 0)
      · rw [if_neg e4] at h1
        by_cases e2 : y = W0
        · rw [if_pos e2] at h2
          exact absurd (h1.trans h2.symm) (a8 x 0)
        · rw [if_neg e2] at h2
          by_cases e3 : y = P0
          · rw [if_pos e3] at h2
            exact absurd (h1.trans h2.symm) (a9 x 0)
          · rw [if_neg e3] at h2
            exact a7 x y q h1 h2
  · rw [mk_o (fun z => by rw [← z, a1] at a2; cases a2) (fun z => by rw [← z, a1] at a3; cases a3)]
    exact a1
  · show (if P0 = W0 then _ else if P0 = P0 then _ else _) = _
    rw [if_neg (fun z => a4 z.symm), if_pos rfl]
section Mkv
variable (c : CS) (W0 P0 len cap wr fi : Nat) (W : Nat → Int64) (S : Nat → Int)
theorem mk_W (i : Nat) (x : Int64) : upC (mkV c W0 P0 len cap wr fi W S) 4 0 i (.long x) = mkV c W0 P0 len cap wr fi (upW W i x) S := by
  refine Prod.ext rfl (Prod.ext (funext fun k => funext fun j => ?_) rfl)
  show (if k = 4 ∧ j = 0 then upV (fun j => .long (W j)) i (.long x) else if k = 3 ∧ j = 0 then _ else if k = 4 ∧ j = 0 then _ else if k = 5 ∧ j = 0 then _ else c.2.1 k j) = (if k = 3 ∧ j = 0 then _ else if k = 4 ∧ j = 0 then (fun j => Value.long (upW W i x j)) else if k = 5 ∧ j = 0 then _ else c.2.1 k j)
  by_cases e : k = 4 ∧ j = 0
  · rw [if_pos e, if_neg (by omega), if_pos e]
    funext n
    unfold upV upW
    by_cases e2 : n = i
    · rw [if_pos e2, if_pos e2]
    · rw [if_neg e2, if_neg e2]
  · rw [if_neg e, if_neg e, if_neg e]
theorem mk_S (i : Nat) (x : Int) : upC (mkV c W0 P0 len cap wr fi W S) 5 0 i (vI x) = mkV c W0 P0 len cap wr fi W (upB S i x) := by
  refine Prod.ext rfl (Prod.ext (funext fun k => funext fun j => ?_) rfl)
  show (if k = 5 ∧ j = 0 then upV (fun j => vI (S j)) i (vI x) else if k = 3 ∧ j = 0 then _ else if k = 4 ∧ j = 0 then _ else if k = 5 ∧ j = 0 then _ else c.2.1 k j) = (if k = 3 ∧ j = 0 then _ else if k = 4 ∧ j = 0 then _ else if k = 5 ∧ j = 0 then (fun j => vI (upB S i x j)) else c.2.1 k j)
  by_cases e : k = 5 ∧ j = 0
  · rw [if_pos e, if_neg (by omega), if_neg (by omega), if_pos e]
    funext n
    unfold upV upB
    by_cases e2 : n = i
    · rw [if_pos e2, if_pos e2]
    · rw [if_neg e2, if_neg e2]
  · rw [if_neg e, if_neg e, if_neg e]
theorem mk_F {cap' wr' fi' f : Nat} {x : Value} (hx : upV (vfl W0 P0 cap wr fi) f x = vfl W0 P0 cap' wr' fi') : upC (mkV c W0 P0 len cap wr fi W S) 3 0 f x = mkV c W0 P0 len cap' wr' fi' W S := by
  refine Prod.ext rfl (Prod.ext (funext fun k => funext fun j => ?_) rfl)
  show (if k = 3 ∧ j = 0 then upV (vfl W0 P0 cap wr fi) f x else if k = 3 ∧ j = 0 then _ else if k = 4 ∧ j = 0 then _ else if k = 5 ∧ j = 0 then _ else c.2.1 k j) = (if k = 3 ∧ j = 0 then vfl W0 P0 cap' wr' fi' else if k = 4 ∧ j = 0 then _ else if k = 5 ∧ j = 0 then _ else c.2.1 k j)
  by_cases e : k = 3 ∧ j = 0
  · rw [if_pos e, if_pos e, hx]
  · rw [if_neg e, if_neg e, if_neg e]
end Mkv
theorem vfl_2 (W0 P0 cap wr fi x : Nat) : upV (vfl W0 P0 cap wr fi) 2 (vI x) = vfl W0 P0 x wr fi := by
  funext f
  unfold upV vfl
  by_cases e : f = 2
  · rw [if_pos e, if_neg (by omega), if_neg (by omega), if_pos e]
  · rw [if_neg e, if_neg e, if_neg e]
theorem vfl_3 (W0 P0 cap wr fi x : Nat) : upV (vfl W0 P0 cap wr fi) 3 (vI x) = vfl W0 P0 cap x fi := by
  funext f
  unfold upV vfl
  by_cases e : f = 3
  · rw [if_pos e, if_neg (by omega), if_neg (by omega), if_neg (by omega), if_pos e]
  · rw [if_neg e, if_neg e, if_neg e]
theorem vfl_4 (W0 P0 cap wr fi x : Nat) : upV (vfl W0 P0 cap wr fi) 4 (vI x) = vfl W0 P0 cap wr x := by
  funext f
  unfold upV vfl
  by_cases e : f = 4
  · rw [if_pos e, if_neg (by omega), if_neg (by omega), if_neg (by omega), if_neg (by omega), if_pos e]
  · rw [if_neg e, if_neg e, if_neg e]
