/-! bits of ints and longs -/
theorem s32 : ∀ n : Nat, n < 32 → ((Int32.ofInt (n : Int) &&& 31).toBitVec.smod 32).toNat = n := by decide +kernel
theorem s32u : ∀ n : Nat, n < 32 → (((Int32.ofInt (n : Int)).toUInt32 &&& Int32.toUInt32 31).toBitVec % 32).toNat = n := by decide +kernel
theorem s64 : ∀ n : Nat, n < 64 → (((Int32.ofInt (n : Int)).toInt64 &&& 63).toBitVec.smod 64).toNat = n := by decide +kernel
theorem s64u : ∀ n : Nat, n < 64 → (((Int32.ofInt (n : Int)).toInt64.toUInt64 &&& Int64.toUInt64 63).toBitVec % 64).toNat = n := by decide +kernel
theorem i_nat {x : Int} (h1 : 0 ≤ x) (h2 : x ≤ 2147483647) : (Int32.ofInt x).toBitVec.toNat = x.toNat := by
  show (BitVec.ofInt 32 x).toNat = _
  rw [BitVec.toNat_ofInt]
  omega
theorem i_shr {x : Int} (h1 : 0 ≤ x) (h2 : x ≤ 2147483647) {s : Nat} (hs : s < 32) : Int32.ofInt x >>> (Int32.ofInt (s : Int) &&& 31) = Int32.ofInt (x / 2 ^ s) := by
  have h3 : 0 ≤ x / 2 ^ s := Int.ediv_nonneg h1 (Int.pow_nonneg (by decide))
  have h4 : x / 2 ^ s ≤ x := Int.ediv_le_self _ h1
  rw [← Int32.toInt_inj, i_int (by omega) (by omega)]
  show ((Int32.ofInt x).toBitVec.sshiftRight' ((Int32.ofInt (s : Int) &&& 31).toBitVec.smod 32)).toInt = _
  rw [BitVec.toInt_sshiftRight', s32 s hs, show (Int32.ofInt x).toBitVec.toInt = x from i_int (by omega) h2, Int.shiftRight_eq_div_pow]
  rfl
theorem i_ushr {x : Int} (h1 : 0 ≤ x) (h2 : x ≤ 2147483647) {s : Nat} (hs : s < 32) : ((Int32.ofInt x).toUInt32 >>> ((Int32.ofInt (s : Int)).toUInt32 &&& Int32.toUInt32 31)).toInt32 = Int32.ofInt (x / 2 ^ s) := by
  have h3 : 0 ≤ x / 2 ^ s := Int.ediv_nonneg h1 (Int.pow_nonneg (by decide))
  have h4 : x / 2 ^ s ≤ x := Int.ediv_le_self _ h1
  apply Int32.toBitVec.inj
  apply BitVec.eq_of_toNat_eq
  rw [i_nat h3 (by omega)]
  show ((Int32.ofInt x).toBitVec >>> (((Int32.ofInt (s : Int)).toUInt32 &&& Int32.toUInt32 31).toBitVec % 32)).toNat = _
  rw [BitVec.ushiftRight_eq', BitVec.toNat_ushiftRight, s32u s hs, i_nat h1 h2, Nat.shiftRight_eq_div_pow]
  obtain ⟨n, rfl⟩ := Int.eq_ofNat_of_zero_le h1
  rfl
theorem i_shl {x : Int} (h1 : 0 ≤ x) {s : Nat} (hs : s < 32) (h2 : x * 2 ^ s ≤ 2147483647) : Int32.ofInt x <<< (Int32.ofInt (s : Int) &&& 31) = Int32.ofInt (x * 2 ^ s) := by
  have hp : (1 : Int) ≤ 2 ^ s := by
    have h9 : ((2 ^ s : Nat) : Int) = 2 ^ s := by push_cast; rfl
    have h8 : 1 ≤ 2 ^ s := Nat.one_le_two_pow
    rw [← h9]; omega
  have h3 : x ≤ x * 2 ^ s := by
    have := Int.mul_le_mul_of_nonneg_left hp h1
    omega
  apply Int32.toBitVec.inj
  apply BitVec.eq_of_toNat_eq
  rw [i_nat (by omega) h2]
  show ((Int32.ofInt x).toBitVec <<< ((Int32.ofInt (s : Int) &&& 31).toBitVec.smod 32)).toNat = _
  rw [BitVec.shiftLeft_eq', BitVec.toNat_shiftLeft, s32 s hs, i_nat h1 (by omega), Nat.shiftLeft_eq]
  obtain ⟨n, rfl⟩ := Int.eq_ofNat_of_zero_le h1
  have h4 : (n : Int) * 2 ^ s = ((n * 2 ^ s : Nat) : Int) := by push_cast; rfl
  rw [h4] at h2 ⊢
  rw [Int.toNat_natCast, Int.toNat_natCast]
  omega
theorem i_and (x : Int) (k : Nat) (hk : k ≤ 31) : Int32.ofInt x &&& Int32.ofInt ((2 ^ k - 1 : Nat) : Int) = Int32.ofInt (x % 2 ^ k) := by
  have hp : (2 : Nat) ^ k ≤ 2 ^ 31 := Nat.pow_le_pow_right (by decide) hk
  have hp1 : (1 : Nat) ≤ 2 ^ k := Nat.one_le_two_pow
  have hc : ((2 ^ k : Nat) : Int) = 2 ^ k := by push_cast; rfl
  have hq : 0 ≤ x % 2 ^ k := Int.emod_nonneg _ (by rw [← hc]; omega)
  have hq2 : x % 2 ^ k < 2 ^ k := Int.emod_lt_of_pos _ (by rw [← hc]; omega)
  rw [← hc] at hq hq2 ⊢
  apply Int32.toBitVec.inj
  apply BitVec.eq_of_toNat_eq
  rw [i_nat hq (by omega)]
  show ((Int32.ofInt x).toBitVec &&& (Int32.ofInt ((2 ^ k - 1 : Nat) : Int)).toBitVec).toNat = _
  rw [BitVec.toNat_and, i_nat (x := ((2 ^ k - 1 : Nat) : Int)) (by omega) (by omega), Int.toNat_natCast, Nat.and_two_pow_sub_one_eq_mod]
  show (BitVec.ofInt 32 x).toNat % 2 ^ k = _
  rw [BitVec.toNat_ofInt]
  have hd : ((2 ^ k : Nat) : Int) ∣ ((2 ^ 32 : Nat) : Int) := Int.natCast_dvd_natCast.mpr (Nat.pow_dvd_pow 2 (by omega))
  have h5 := Int.emod_emod_of_dvd x hd
  rw [← h5]
  have h6 : 0 ≤ x % ((2 ^ 32 : Nat) : Int) := Int.emod_nonneg _ (by decide)
  obtain ⟨n, hn⟩ := Int.eq_ofNat_of_zero_le h6
  rw [hn]
  rfl
theorem i_or (a c : Nat) (ha : a ≤ 2147483647) (hc : c ≤ 2147483647) : Int32.ofInt (a : Int) ||| Int32.ofInt (c : Int) = Int32.ofInt ((a ||| c : Nat) : Int) := by
  have h1 : a ||| c < 2 ^ 31 := Nat.or_lt_two_pow (by omega) (by omega)
  apply Int32.toBitVec.inj
  apply BitVec.eq_of_toNat_eq
  rw [i_nat (by omega) (by omega), Int.toNat_natCast]
  show ((Int32.ofInt (a : Int)).toBitVec ||| (Int32.ofInt (c : Int)).toBitVec).toNat = _
  rw [BitVec.toNat_or, i_nat (by omega) (by omega), i_nat (by omega) (by omega)]
  rfl
theorem l_of {x : Int} (h1 : -2147483648 ≤ x) (h2 : x ≤ 2147483647) : (Int32.ofInt x).toInt64 = Int64.ofInt x := by
  rw [← Int64.toInt_inj, Int32.toInt_toInt64, i_int h1 h2, Int64.toInt_ofInt_of_le (by omega) (by omega)]
theorem l_int {x : Int} (h1 : -9223372036854775808 ≤ x) (h2 : x ≤ 9223372036854775807) : (Int64.ofInt x).toInt = x := Int64.toInt_ofInt_of_le (by omega) (by omega)
/-- the k-th octet of a long, from its front -/
def lo8 (v : Int64) (k : Nat) : Int := v.toInt / 2 ^ (56 - 8 * k) % 256
theorem l_shr (v : Int64) {s : Nat} (hs : s < 64) : (v >>> ((Int32.ofInt (s : Int)).toInt64 &&& 63)).toInt = v.toInt / 2 ^ s := by
  show (v.toBitVec.sshiftRight' (((Int32.ofInt (s : Int)).toInt64 &&& 63).toBitVec.smod 64)).toInt = _
  rw [BitVec.toInt_sshiftRight', s64 s hs, Int.shiftRight_eq_div_pow]
  rfl
theorem l_byte (v : Int64) : v.toInt32.toInt8.toInt32 = Int32.ofInt (sb v.toInt) := by
  have h1 := sb_lo v.toInt
  have h2 := sb_hi v.toInt
  rw [← Int32.toInt_inj, i_int (by omega) (by omega), Int8.toInt_toInt32, Int32.toInt_toInt8, Int64.toInt_toInt32, Int.bmod_bmod_of_dvd (by decide), i_bmod8]
theorem l_i (v : Int64) : v.toInt32 = Int32.ofInt v.toInt := by rw [Int32.ofInt_int64ToInt]
section Wbs
variable {b L : Nat} {xs : Nat → Int32} {d : Nat} {M : MI} {pc nx : Nat} {ri : List Nat} {lv : List (Option Value)} {st : List Value} {h : AH} {Q : AH → RO → Prop}
theorem w_ishr {x : Int} {y : Int} (q : fet (mE M) pc = some (.ishr, nx, ri)) (h1 : 0 ≤ x) (h2 : x ≤ 2147483647) (h3 : 0 ≤ y) (h4 : y < 32) (k : Wp b L xs d M nx lv (vI (x / 2 ^ y.toNat) :: st) h Q) : Wp b L xs d M pc lv (vI y :: vI x :: st) h Q := W_st q (fun _ => rfl) (z := (nx, lv, vI (x / 2 ^ y.toNat) :: st, h)) (by
  show some (nx, lv, Value.int (Int32.ofInt x >>> (Int32.ofInt y &&& 31)) :: st, h) = _
  obtain ⟨n, rfl⟩ := Int.eq_ofNat_of_zero_le h3
  rw [i_shr h1 h2 (by omega)]
  rfl) k
theorem w_iushr {x : Int} {y : Int} (q : fet (mE M) pc = some (.iushr, nx, ri)) (h1 : 0 ≤ x) (h2 : x ≤ 2147483647) (h3 : 0 ≤ y) (h4 : y < 32) (k : Wp b L xs d M nx lv (vI (x / 2 ^ y.toNat) :: st) h Q) : Wp b L xs d M pc lv (vI y :: vI x :: st) h Q := W_st q (fun _ => rfl) (z := (nx, lv, vI (x / 2 ^ y.toNat) :: st, h)) (by
  show some (nx, lv, Value.int ((Int32.ofInt x).toUInt32 >>> ((Int32.ofInt y).toUInt32 &&& Int32.toUInt32 31)).toInt32 :: st, h) = _
  obtain ⟨n, rfl⟩ := Int.eq_ofNat_of_zero_le h3
  rw [i_ushr h1 h2 (by omega)]
  rfl) k
theorem w_ishl {x : Int} {y : Int} (q : fet (mE M) pc = some (.ishl, nx, ri)) (h1 : 0 ≤ x) (h3 : 0 ≤ y) (h4 : y < 32) (h2 : x * 2 ^ y.toNat ≤ 2147483647) (k : Wp b L xs d M nx lv (vI (x * 2 ^ y.toNat) :: st) h Q) : Wp b L xs d M pc lv (vI y :: vI x :: st) h Q := W_st q (fun _ => rfl) (z := (nx, lv, vI (x * 2 ^ y.toNat) :: st, h)) (by
  show some (nx, lv, Value.int (Int32.ofInt x <<< (Int32.ofInt y &&& 31)) :: st, h) = _
  obtain ⟨n, rfl⟩ := Int.eq_ofNat_of_zero_le h3
  rw [i_shl (s := n) h1 (by omega) h2]
  rfl) k
theorem w_and255 {x : Int} (q : fet (mE M) pc = some (.iand, nx, ri)) (k : Wp b L xs d M nx lv (vI (x % 256) :: st) h Q) : Wp b L xs d M pc lv (vI 255 :: vI x :: st) h Q := W_st q (fun _ => rfl) (z := (nx, lv, vI (x % 256) :: st, h)) (by
  show some (nx, lv, Value.int (Int32.ofInt x &&& Int32.ofInt 255) :: st, h) = _
  rw [show Int32.ofInt x &&& Int32.ofInt 255 = Int32.ofInt (x % 256) from i_and x 8 (by decide)]) k
theorem w_and15 {x : Int} (q : fet (mE M) pc = some (.iand, nx, ri)) (k : Wp b L xs d M nx lv (vI (x % 16) :: st) h Q) : Wp b L xs d M pc lv (vI 15 :: vI x :: st) h Q := W_st q (fun _ => rfl) (z := (nx, lv, vI (x % 16) :: st, h)) (by
  show some (nx, lv, Value.int (Int32.ofInt x &&& Int32.ofInt 15) :: st, h) = _
  rw [show Int32.ofInt x &&& Int32.ofInt 15 = Int32.ofInt (x % 16) from i_and x 4 (by decide)]) k
theorem w_and1 {x : Int} (q : fet (mE M) pc = some (.iand, nx, ri)) (k : Wp b L xs d M nx lv (vI (x % 2) :: st) h Q) : Wp b L xs d M pc lv (vI 1 :: vI x :: st) h Q := W_st q (fun _ => rfl) (z := (nx, lv, vI (x % 2) :: st, h)) (by
  show some (nx, lv, Value.int (Int32.ofInt x &&& Int32.ofInt 1) :: st, h) = _
  rw [show Int32.ofInt x &&& Int32.ofInt 1 = Int32.ofInt (x % 2) from i_and x 1 (by decide)]) k
theorem w_ior {x y : Int} (q : fet (mE M) pc = some (.ior, nx, ri)) (h1 : 0 ≤ x) (h2 : x ≤ 2147483647) (h3 : 0 ≤ y) (h4 : y ≤ 2147483647) (k : Wp b L xs d M nx lv (vI ((x.toNat ||| y.toNat : Nat) : Int) :: st) h Q) : Wp b L xs d M pc lv (vI y :: vI x :: st) h Q := W_st q (fun _ => rfl) (z := (nx, lv, vI ((x.toNat ||| y.toNat : Nat) : Int) :: st, h)) (by
  show some (nx, lv, Value.int (Int32.ofInt x ||| Int32.ofInt y) :: st, h) = _
  obtain ⟨n, rfl⟩ := Int.eq_ofNat_of_zero_le h1
  obtain ⟨m, rfl⟩ := Int.eq_ofNat_of_zero_le h3
  rw [i_or n m (by omega) (by omega)]
  rfl) k
theorem w_i2lJ {x : Int} (q : fet (mE M) pc = some (.i2l, nx, ri)) (h1 : -2147483648 ≤ x) (h2 : x ≤ 2147483647) (k : Wp b L xs d M nx lv (vJ x :: st) h Q) : Wp b L xs d M pc lv (vI x :: st) h Q := w_i2l q (by rw [l_of h1 h2]; exact k)
theorem w_lmulJ {x y : Int} (q : fet (mE M) pc = some (.lmul, nx, ri)) (k : Wp b L xs d M nx lv (vJ (x * y) :: st) h Q) : Wp b L xs d M pc lv (vJ y :: vJ x :: st) h Q := W_st q (fun _ => rfl) (z := (nx, lv, vJ (x * y) :: st, h)) (by show some (nx, lv, Value.long (Int64.ofInt x * Int64.ofInt y) :: st, h) = _; rw [← Int64.ofInt_mul]) k
theorem w_laddJ {x y : Int} (q : fet (mE M) pc = some (.ladd, nx, ri)) (k : Wp b L xs d M nx lv (vJ (x + y) :: st) h Q) : Wp b L xs d M pc lv (vJ y :: vJ x :: st) h Q := W_st q (fun _ => rfl) (z := (nx, lv, vJ (x + y) :: st, h)) (by show some (nx, lv, Value.long (Int64.ofInt x + Int64.ofInt y) :: st, h) = _; rw [← Int64.ofInt_add]) k
theorem w_lsubJ {x y : Int} (q : fet (mE M) pc = some (.lsub, nx, ri)) (k : Wp b L xs d M nx lv (vJ (x - y) :: st) h Q) : Wp b L xs d M pc lv (vJ y :: vJ x :: st) h Q := W_st q (fun _ => rfl) (z := (nx, lv, vJ (x - y) :: st, h)) (by show some (nx, lv, Value.long (Int64.ofInt x - Int64.ofInt y) :: st, h) = _; rw [← Int64.ofInt_sub]) k
theorem w_lcmp {x y : Int64} (q : fet (mE M) pc = some (.lcmp, nx, ri)) (k : Wp b L xs d M nx lv (vI (if y.toInt < x.toInt then 1 else if x.toInt = y.toInt then 0 else -1) :: st) h Q) : Wp b L xs d M pc lv (.long y :: .long x :: st) h Q := W_st q (fun _ => rfl) (z := (nx, lv, vI (if y.toInt < x.toInt then 1 else if x.toInt = y.toInt then 0 else -1) :: st, h)) (by
  show some (nx, lv, Value.int (lg_cmp x y) :: st, h) = _
  unfold lg_cmp
  by_cases c1 : y.toInt < x.toInt
  · rw [if_pos c1, if_pos (Int64.lt_iff_toInt_lt.mpr c1)]; rfl
  · rw [if_neg c1, if_neg (fun z => c1 (Int64.lt_iff_toInt_lt.mp z))]
    by_cases c2 : x.toInt = y.toInt
    · rw [if_pos c2, if_pos (Int64.toInt_inj.mp c2)]; rfl
    · rw [if_neg c2, if_neg (fun z => c2 (Int64.toInt_inj.mpr z))]; rfl) k
theorem w_lcmpJ {x y : Int} (q : fet (mE M) pc = some (.lcmp, nx, ri)) (h1 : -9223372036854775808 ≤ x) (h2 : x ≤ 9223372036854775807) (h3 : -9223372036854775808 ≤ y) (h4 : y ≤ 9223372036854775807) (k : Wp b L xs d M nx lv (vI (if y < x then 1 else if x = y then 0 else -1) :: st) h Q) : Wp b L xs d M pc lv (vJ y :: vJ x :: st) h Q := w_lcmp q (by rw [l_int h1 h2, l_int h3 h4]; exact k)
theorem w_lshr {v : Int64} {y : Int} (q : fet (mE M) pc = some (.lshr, nx, ri)) (k : Wp b L xs d M nx lv (.long (v >>> ((Int32.ofInt y).toInt64 &&& 63)) :: st) h Q) : Wp b L xs d M pc lv (vI y :: .long v :: st) h Q := W_st q (fun _ => rfl) rfl k
theorem w_l2iJ {v : Int64} (q : fet (mE M) pc = some (.l2i, nx, ri)) (k : Wp b L xs d M nx lv (vI v.toInt :: st) h Q) : Wp b L xs d M pc lv (.long v :: st) h Q := w_l2i q (by rw [l_i]; exact k)
end Wbs
