/-! rules of bits, and of copies -/
section Wb4
variable {b L : Nat} {xs : Nat → Int32} {d : Nat} {M : MI} {pc nx : Nat} {ri : List Nat} {lv : List (Option Value)} {st : List Value} {h : AH} {Q : AH → RO → Prop}
theorem w_lushrS {v : Int64} {y : Int} {s : Nat} (q : fet (mE M) pc = some (.lushr, nx, ri)) (hs : y = (s : Int)) (k : Wp b L xs d M nx lv (.long (v.toUInt64 >>> ((Int32.ofInt (s : Int)).toInt64.toUInt64 &&& Int64.toUInt64 63)).toInt64 :: st) h Q) : Wp b L xs d M pc lv (vI y :: .long v :: st) h Q := by
  subst hs
  exact W_st q (fun _ => rfl) rfl k
theorem w_lshlS {v : Int64} {y : Int} {s : Nat} (q : fet (mE M) pc = some (.lshl, nx, ri)) (hs : y = (s : Int)) (k : Wp b L xs d M nx lv (.long (v <<< ((Int32.ofInt (s : Int)).toInt64 &&& 63)) :: st) h Q) : Wp b L xs d M pc lv (vI y :: .long v :: st) h Q := by
  subst hs
  exact W_st q (fun _ => rfl) rfl k
theorem w_landR {v w : Int64} (q : fet (mE M) pc = some (.land, nx, ri)) (k : Wp b L xs d M nx lv (.long (v &&& w) :: st) h Q) : Wp b L xs d M pc lv (.long w :: .long v :: st) h Q := W_st q (fun _ => rfl) rfl k
theorem w_l2iN {x : Int64} {z : Int} (q : fet (mE M) pc = some (.l2i, nx, ri)) (hz : x.toInt32 = Int32.ofInt z) (k : Wp b L xs d M nx lv (vI z :: st) h Q) : Wp b L xs d M pc lv (.long x :: st) h Q := w_l2i q (by rw [hz]; exact k)
theorem w_shl8 {x : Int} (q : fet (mE M) pc = some (.ishl, nx, ri)) (h1 : 0 ≤ x) (h2 : x * 256 ≤ 2147483647) (k : Wp b L xs d M nx lv (vI (x * 256) :: st) h Q) : Wp b L xs d M pc lv (vI 8 :: vI x :: st) h Q := w_ishl q h1 (by decide) (by decide) h2 k
theorem w_or8 {a y : Int} (q : fet (mE M) pc = some (.ior, nx, ri)) (h1 : 0 ≤ a) (h2 : a * 256 + y ≤ 2147483647) (h3 : 0 ≤ y) (h4 : y ≤ 255) (k : Wp b L xs d M nx lv (vI (a * 256 + y) :: st) h Q) : Wp b L xs d M pc lv (vI y :: vI (a * 256) :: st) h Q := w_ior q (by omega) (by omega) h3 (by omega) (by
  have e := Nat.two_pow_add_eq_or_of_lt (i := 8) (b := y.toNat) (by omega) a.toNat
  rw [show (a * 256).toNat = 2 ^ 8 * a.toNat by omega, ← e, show ((2 ^ 8 * a.toNat + y.toNat : Nat) : Int) = a * 256 + y by omega]
  exact k)
/-- System.arraycopy from the front to the front -/
theorem w_acp {i n n0 n1 a a0 : Nat} {t : List Nat} {f g : Nat → Value} {ty : FieldType} (q : fet (mE M) pc = some (.invokestatic i, nx, 7 :: t)) (hd : 2 ≤ d) (hw : wsum st ≤ 8) (h0 : h.2.2 a0 = some (.inl (ty, n0, f))) (h1 : h.2.2 a = some (.inl (ty, n1, g))) (hty : ty = .long ∨ ty = .byte) (l0 : n ≤ n0) (l1 : n ≤ n1) (hn : n ≤ 1000000) (hf : ∀ i, fits ty (f i) = true) (kk : Wp b L xs d M nx lv st (hput h a (.inl (ty, n1, va_cpy f g 0 0 n))) Q) : Wp b L xs d M pc lv (vI n :: vI 0 :: .ref a :: vI 0 :: .ref a0 :: st) h Q := by
  obtain ⟨m, h2, o, e, hq⟩ := kk
  refine ⟨m + 1, h2, o, ?_, hq⟩
  show (match fet (mE M) pc with | none => none | some q => dpF b L xs (rnF b L xs m) d M pc q.1 q.2.1 q.2.2 lv (vI n :: vI 0 :: .ref a :: vI 0 :: .ref a0 :: st) h) = some (h2, o)
  rw [q]
  have en : (Int32.ofInt (n : Int)).toNatClampNeg = n := by
    show (Int32.ofInt (n : Int)).toInt.toNat = n
    rw [Int32.toInt_ofInt_of_le (by omega) (by omega), Int.toNat_natCast]
  have ng : ¬ Int32.ofInt (n : Int) < 0 := fun z => by
    have := (i_lt (x := (n : Int)) (y := 0) (by omega) (by omega) (by omega) (by omega)).mp z
    omega
  have ea : acq (vI n :: vI 0 :: .ref a :: vI 0 :: .ref a0 :: st) h = some (st, hput h a (.inl (ty, n1, va_cpy f g 0 0 n))) := by
    show (match h.2.2 a0, h.2.2 a with | some (.inl (t0, n0, f)), some (.inl (t1, n1, g)) => _ | _, _ => none) = _
    rw [h0, h1]
    show (if ty = ty ∧ (ty = .long ∨ ty = .byte) ∧ ¬ Int32.ofInt 0 < 0 ∧ ¬ Int32.ofInt 0 < 0 ∧ ¬ Int32.ofInt (n : Int) < 0 ∧ (Int32.ofInt 0).toNatClampNeg + (Int32.ofInt (n : Int)).toNatClampNeg ≤ n0 ∧ (Int32.ofInt 0).toNatClampNeg + (Int32.ofInt (n : Int)).toNatClampNeg ≤ n1 ∧ (∀ i, i < (Int32.ofInt (n : Int)).toNatClampNeg → fits ty (f ((Int32.ofInt 0).toNatClampNeg + i)) = true) then some (st, hput h a (.inl (ty, n1, va_cpy f g (Int32.ofInt 0).toNatClampNeg (Int32.ofInt 0).toNatClampNeg (Int32.ofInt (n : Int)).toNatClampNeg))) else none) = _
    rw [en, show (Int32.ofInt 0).toNatClampNeg = 0 from rfl, if_pos ⟨rfl, hty, by decide, by decide, ng, by omega, by omega, fun i _ => hf _⟩]
  show (match acq (vI n :: vI 0 :: .ref a :: vI 0 :: .ref a0 :: st) h with | some z => if 2 ≤ d ∧ wsum z.1 ≤ 8 then rnF b L xs m d M nx lv z.1 z.2 else none | none => none) = _
  rw [ea]
  show (if 2 ≤ d ∧ wsum st ≤ 8 then rnF b L xs m d M nx lv st (hput h a (.inl (ty, n1, va_cpy f g 0 0 n))) else none) = _
  rw [if_pos ⟨hd, hw⟩, e]
end Wb4
theorem nmL_ge {B : Nat → Int} (hB : ∀ i, 0 ≤ B i ∧ B i ≤ 255) : ∀ (m i : Nat) (a : Int), 0 ≤ a → a ≤ nmL B i m a
  | 0, _, _, _ => Int.le_refl _
  | m + 1, i, a, ha => by
    have h1 := hB i
    have h2 := nmL_ge hB m (i + 1) (a * 256 + B i) (by omega)
    show a ≤ nmL B (i + 1) m (a * 256 + B i)
    omega
theorem psB_i {cap : Nat} (hc : 4 ≤ cap) (k : Nat) : ((psB cap k : Nat) : Int) = (k : Int) / ((cap : Int) - 1) * (cap : Int) + 1 + (k : Int) % ((cap : Int) - 1) := by
  unfold psB
  rw [Int.natCast_add, Int.natCast_add, Int.natCast_mul, Int.natCast_ediv, Int.natCast_emod, Int.natCast_sub (by omega)]
  rfl
section Cv1
variable {b L : Nat} {xs : Nat → Int32} {h : AH} {c : CS} {V0 W0 P0 len cap wr fi : Nat} {W : Nat → Int64} {S : Nat → Int}
theorem k_posB (d : Nat) (hV : VI b c V0 W0 P0 len cap wr S) {k : Nat} (hk : k ≤ 8000) : Wp b L xs d mi_82 0 (ent (mL mi_82) [.ref V0, vI k]) [] (CH h (mkV c W0 P0 len cap wr fi W S)) (Rt (CH h (mkV c W0 P0 len cap wr fi W S)) (vI (psB cap k))) := by
  obtain ⟨hI, oV, oW, oP⟩ := VI_f hV fi W
  obtain ⟨a1, a2, a3, a4, a5, a6, a7, a8, a9, a10, a11, a12, a13, a14, a15⟩ := hV
  have l4 : (mkV c W0 P0 len cap wr fi W S).2.2 4 = 8 * len := rfl
  have l5 : (mkV c W0 P0 len cap wr fi W S).2.2 5 = len := rfl
  have v0 : (mkV c W0 P0 len cap wr fi W S).2.1 3 0 0 = .ref W0 := rfl
  have v1 : (mkV c W0 P0 len cap wr fi W S).2.1 3 0 1 = .ref P0 := rfl
  have v2 : (mkV c W0 P0 len cap wr fi W S).2.1 3 0 2 = vI cap := rfl
  have v3 : (mkV c W0 P0 len cap wr fi W S).2.1 3 0 3 = vI wr := rfl
  have v4 : (mkV c W0 P0 len cap wr fi W S).2.1 3 0 4 = vI fi := rfl
  refine w_aload_n rfl rfl ?_
  refine k_get rfl oV rfl rfl ?_
  rw [v2]
  refine w_iconst rfl ?_
  refine w_isub rfl ?_
  refine w_istore_n rfl (by decide) ?_
  refine w_iload_n rfl rfl ?_
  refine w_iload_n rfl rfl ?_
  refine w_idiv rfl (by first | omega | (simp only [Int.toNat_natCast, upF_2] at *; omega)) (by first | omega | (simp only [Int.toNat_natCast, upF_2] at *; omega)) (by first | omega | (simp only [Int.toNat_natCast, upF_2] at *; omega)) (by first | omega | (simp only [Int.toNat_natCast, upF_2] at *; omega)) ?_
  refine w_aload_n rfl rfl ?_
  refine k_get rfl oV rfl rfl ?_
  rw [v2]
  refine w_imul rfl ?_
  refine w_iconst rfl ?_
  refine w_iadd rfl ?_
  refine w_iload_n rfl rfl ?_
  refine w_iload_n rfl rfl ?_
  refine w_irem rfl (by first | omega | (simp only [Int.toNat_natCast, upF_2] at *; omega)) (by first | omega | (simp only [Int.toNat_natCast, upF_2] at *; omega)) (by first | omega | (simp only [Int.toNat_natCast, upF_2] at *; omega)) (by first | omega | (simp only [Int.toNat_natCast, upF_2] at *; omega)) ?_
  refine w_iadd rfl ?_
  refine w_ireturn rfl rfl ?_
  exact ⟨rfl, by rw [psB_i a10]⟩
theorem k_spAt (d : Nat) (hV : VI b c V0 W0 P0 len cap wr S) {p : Nat} (hp : p < len) : Wp b L xs d mi_74 0 (ent (mL mi_74) [.ref V0, vI p]) [] (CH h (mkV c W0 P0 len cap wr fi W S)) (Rt (CH h (mkV c W0 P0 len cap wr fi W S)) (vI (S p))) := by
  obtain ⟨hI, oV, oW, oP⟩ := VI_f hV fi W
  obtain ⟨a1, a2, a3, a4, a5, a6, a7, a8, a9, a10, a11, a12, a13, a14, a15⟩ := hV
  have l4 : (mkV c W0 P0 len cap wr fi W S).2.2 4 = 8 * len := rfl
  have l5 : (mkV c W0 P0 len cap wr fi W S).2.2 5 = len := rfl
  have v0 : (mkV c W0 P0 len cap wr fi W S).2.1 3 0 0 = .ref W0 := rfl
  have v1 : (mkV c W0 P0 len cap wr fi W S).2.1 3 0 1 = .ref P0 := rfl
  have v2 : (mkV c W0 P0 len cap wr fi W S).2.1 3 0 2 = vI cap := rfl
  have v3 : (mkV c W0 P0 len cap wr fi W S).2.1 3 0 3 = vI wr := rfl
  have v4 : (mkV c W0 P0 len cap wr fi W S).2.1 3 0 4 = vI fi := rfl
  have sp : (mkV c W0 P0 len cap wr fi W S).2.1 5 0 (p : Int).toNat = vI (S p) := by rw [Int.toNat_natCast]; rfl
  rcases a15 p with e | e
  · refine w_iload_n rfl rfl ?_
    refine w_iflt_f rfl (by omega) (by omega) (by first | omega | (simp only [Int.toNat_natCast, upF_2] at *; omega)) ?_
    refine w_iload_n rfl rfl ?_
    refine w_aload_n rfl rfl ?_
    refine k_get rfl oV rfl rfl ?_
    rw [v1]
    refine k_alen rfl (by first | omega | (simp only [Int.toNat_natCast, upF_2] at *; omega)) oP rfl ?_
    refine w_icge_f rfl (by omega) (by omega) (by omega) (by omega) (by first | omega | (simp only [Int.toNat_natCast, upF_2] at *; omega)) ?_
    refine w_aload_n rfl rfl ?_
    refine k_get rfl oV rfl rfl ?_
    rw [v1]
    refine w_iload_n rfl rfl ?_
    refine k_baload rfl oP rfl (by decide) (by first | omega | (simp only [Int.toNat_natCast, upF_2] at *; omega)) (by first | omega | (simp only [Int.toNat_natCast, upF_2] at *; omega)) (by first | omega | (simp only [Int.toNat_natCast, upF_2] at *; omega)) sp ?_
    refine w_ifeq_t rfl (by omega) (by omega) (by first | omega | (simp only [Int.toNat_natCast, upF_2] at *; omega)) ?_
    refine w_iconst rfl ?_
    refine w_zreturn rfl rfl (by first | omega | (simp only [Int.toNat_natCast, upF_2] at *; omega)) ?_
    exact ⟨rfl, by rw [e]⟩
  · refine w_iload_n rfl rfl ?_
    refine w_iflt_f rfl (by omega) (by omega) (by first | omega | (simp only [Int.toNat_natCast, upF_2] at *; omega)) ?_
    refine w_iload_n rfl rfl ?_
    refine w_aload_n rfl rfl ?_
    refine k_get rfl oV rfl rfl ?_
    rw [v1]
    refine k_alen rfl (by first | omega | (simp only [Int.toNat_natCast, upF_2] at *; omega)) oP rfl ?_
    refine w_icge_f rfl (by omega) (by omega) (by omega) (by omega) (by first | omega | (simp only [Int.toNat_natCast, upF_2] at *; omega)) ?_
    refine w_aload_n rfl rfl ?_
    refine k_get rfl oV rfl rfl ?_
    rw [v1]
    refine w_iload_n rfl rfl ?_
    refine k_baload rfl oP rfl (by decide) (by first | omega | (simp only [Int.toNat_natCast, upF_2] at *; omega)) (by first | omega | (simp only [Int.toNat_natCast, upF_2] at *; omega)) (by first | omega | (simp only [Int.toNat_natCast, upF_2] at *; omega)) sp ?_
    refine w_ifeq_f rfl (by omega) (by omega) (by first | omega | (simp only [Int.toNat_natCast, upF_2] at *; omega)) ?_
    refine w_iconst rfl ?_
    refine w_goto rfl ?_
    refine w_zreturn rfl rfl (by first | omega | (simp only [Int.toNat_natCast, upF_2] at *; omega)) ?_
    exact ⟨rfl, by rw [e]⟩
theorem k_isSp (d : Nat) (hd : 1 ≤ d) (hV : VI b c V0 W0 P0 len cap wr S) {k : Nat} (hk : k ≤ 8000) (hp : psB cap k < len) : Wp b L xs d mi_81 0 (ent (mL mi_81) [.ref V0, vI k]) [] (CH h (mkV c W0 P0 len cap wr fi W S)) (Rt (CH h (mkV c W0 P0 len cap wr fi W S)) (vI (S (psB cap k)))) := by
  have hV0 := hV
  obtain ⟨hI, oV, oW, oP⟩ := VI_f hV fi W
  obtain ⟨a1, a2, a3, a4, a5, a6, a7, a8, a9, a10, a11, a12, a13, a14, a15⟩ := hV
  have l4 : (mkV c W0 P0 len cap wr fi W S).2.2 4 = 8 * len := rfl
  have l5 : (mkV c W0 P0 len cap wr fi W S).2.2 5 = len := rfl
  have v0 : (mkV c W0 P0 len cap wr fi W S).2.1 3 0 0 = .ref W0 := rfl
  have v1 : (mkV c W0 P0 len cap wr fi W S).2.1 3 0 1 = .ref P0 := rfl
  have v2 : (mkV c W0 P0 len cap wr fi W S).2.1 3 0 2 = vI cap := rfl
  have v3 : (mkV c W0 P0 len cap wr fi W S).2.1 3 0 3 = vI wr := rfl
  have v4 : (mkV c W0 P0 len cap wr fi W S).2.1 3 0 4 = vI fi := rfl
  have s1 := a15 (psB cap k)
  refine w_aload_n rfl rfl ?_
  refine w_aload_n rfl rfl ?_
  refine w_iload_n rfl rfl ?_
  refine w_cvV rfl (by decide) (by first | omega | (simp only [Int.toNat_natCast, upF_2] at *; omega)) rfl (CH_ob oV rfl) mt_82 (Nat.le_of_ble_eq_true rfl) (Nat.le_of_ble_eq_true rfl) (k_posB _ hV0 hk) ?_
  refine w_cvV rfl (by decide) (by first | omega | (simp only [Int.toNat_natCast, upF_2] at *; omega)) rfl (CH_ob oV rfl) mt_74 (Nat.le_of_ble_eq_true rfl) (Nat.le_of_ble_eq_true rfl) (k_spAt _ hV0 hp) ?_
  refine w_zreturn rfl rfl (by first | omega | (simp only [Int.toNat_natCast, upF_2] at *; omega)) ?_
  exact ⟨rfl, rfl⟩
theorem k_word (d : Nat) (hV : VI b c V0 W0 P0 len cap wr S) {p w : Nat} (hp : p < len) (hw : w < 8) : Wp b L xs d mi_75 0 (ent (mL mi_75) [.ref V0, vI p, vI w]) [] (CH h (mkV c W0 P0 len cap wr fi W S)) (Rt (CH h (mkV c W0 P0 len cap wr fi W S)) (.long (W (8 * p + w)))) := by
  obtain ⟨hI, oV, oW, oP⟩ := VI_f hV fi W
  obtain ⟨a1, a2, a3, a4, a5, a6, a7, a8, a9, a10, a11, a12, a13, a14, a15⟩ := hV
  have l4 : (mkV c W0 P0 len cap wr fi W S).2.2 4 = 8 * len := rfl
  have l5 : (mkV c W0 P0 len cap wr fi W S).2.2 5 = len := rfl
  have v0 : (mkV c W0 P0 len cap wr fi W S).2.1 3 0 0 = .ref W0 := rfl
  have v1 : (mkV c W0 P0 len cap wr fi W S).2.1 3 0 1 = .ref P0 := rfl
  have v2 : (mkV c W0 P0 len cap wr fi W S).2.1 3 0 2 = vI cap := rfl
  have v3 : (mkV c W0 P0 len cap wr fi W S).2.1 3 0 3 = vI wr := rfl
  have v4 : (mkV c W0 P0 len cap wr fi W S).2.1 3 0 4 = vI fi := rfl
  have sp : (mkV c W0 P0 len cap wr fi W S).2.1 4 0 ((p : Int) * 8 + (w : Int)).toNat = .long (W (8 * p + w)) := by rw [show ((p : Int) * 8 + (w : Int)).toNat = 8 * p + w by omega]; rfl
  refine w_iload_n rfl rfl ?_
  refine w_bipush rfl rfl ?_
  refine w_imul rfl ?_
  refine w_iload_n rfl rfl ?_
  refine w_iadd rfl ?_
  refine w_istore_n rfl (by decide) ?_
  refine w_iload_n rfl rfl ?_
  refine w_iflt_f rfl (by omega) (by omega) (by first | omega | (simp only [Int.toNat_natCast, upF_2] at *; omega)) ?_
  refine w_iload_n rfl rfl ?_
  refine w_aload_n rfl rfl ?_
  refine k_get rfl oV rfl rfl ?_
  rw [v0]
  refine k_alen rfl (by first | omega | (simp only [Int.toNat_natCast, upF_2] at *; omega)) oW rfl ?_
  refine w_iclt_t rfl (by omega) (by omega) (by omega) (by omega) (by first | omega | (simp only [Int.toNat_natCast, upF_2] at *; omega)) ?_
  refine w_aload_n rfl rfl ?_
  refine k_get rfl oV rfl rfl ?_
  rw [v0]
  refine w_iload_n rfl rfl ?_
  refine k_laload rfl oW rfl (by first | omega | (simp only [Int.toNat_natCast, upF_2] at *; omega)) (by first | omega | (simp only [Int.toNat_natCast, upF_2] at *; omega)) (by first | omega | (simp only [Int.toNat_natCast, upF_2] at *; omega)) sp ?_
  refine w_lreturn rfl rfl ?_
  exact ⟨rfl, rfl⟩
theorem k_num_l (d : Nat) (hd : 1 ≤ d) (hV : VI b c V0 W0 P0 len cap wr S) {k at_ wd p : Nat} (hp : p < len) (hw : at_ + wd ≤ 64) {r : Int} (hr : r ≤ 2147483647) : ∀ (m i : Nat) (a : Int) (u1 u2 : Option Value), i + m = at_ + wd → 0 ≤ a → nmL (ocW W p) i m a = r → Wp b L xs d mi_85 13 [some (.ref V0), some (vI k), some (vI at_), some (vI wd), some (vI p), some (vI a), some (vI i), u1, u2] [] (CH h (mkV c W0 P0 len cap wr fi W S)) (Rt (CH h (mkV c W0 P0 len cap wr fi W S)) (vI r)) := by
  have hV0 := hV
  obtain ⟨hI, oV, oW, oP⟩ := VI_f hV fi W
  obtain ⟨a1, a2, a3, a4, a5, a6, a7, a8, a9, a10, a11, a12, a13, a14, a15⟩ := hV
  have l4 : (mkV c W0 P0 len cap wr fi W S).2.2 4 = 8 * len := rfl
  have l5 : (mkV c W0 P0 len cap wr fi W S).2.2 5 = len := rfl
  have v0 : (mkV c W0 P0 len cap wr fi W S).2.1 3 0 0 = .ref W0 := rfl
  have v1 : (mkV c W0 P0 len cap wr fi W S).2.1 3 0 1 = .ref P0 := rfl
  have v2 : (mkV c W0 P0 len cap wr fi W S).2.1 3 0 2 = vI cap := rfl
  have v3 : (mkV c W0 P0 len cap wr fi W S).2.1 3 0 3 = vI wr := rfl
  have v4 : (mkV c W0 P0 len cap wr fi W S).2.1 3 0 4 = vI fi := rfl
  intro m
  induction m with
  | zero =>
    intro i a u1 u2 hi ha hn
    have hn : a = r := hn
    subst hn
    refine w_iload rfl rfl ?_
    refine w_iload_n rfl rfl ?_
    refine w_iload_n rfl rfl ?_
    refine w_iadd rfl ?_
    refine w_icge_t rfl (by omega) (by omega) (by omega) (by omega) (by first | omega | (simp only [Int.toNat_natCast, upF_2] at *; omega)) ?_
    refine w_iload rfl rfl ?_
    refine w_ireturn rfl rfl ?_
    exact ⟨rfl, rfl⟩
  | succ m ih =>
    intro i a u1 u2 hi ha hn
    have hn : nmL (ocW W p) (i + 1) m (a * 256 + ocW W p i) = r := hn
    have o1 := ocW_ok W p i
    have g1 := nmL_ge (ocW_ok W p) m (i + 1) (a * 256 + ocW W p i) (by omega)
    have e1 : (i : Int) / 8 = ((i / 8 : Nat) : Int) := by omega
    refine w_iload rfl rfl ?_
    refine w_iload_n rfl rfl ?_
    refine w_iload_n rfl rfl ?_
    refine w_iadd rfl ?_
    refine w_icge_f rfl (by omega) (by omega) (by omega) (by omega) (by first | omega | (simp only [Int.toNat_natCast, upF_2] at *; omega)) ?_
    refine w_aload_n rfl rfl ?_
    refine w_iload rfl rfl ?_
    refine w_iload rfl rfl ?_
    refine w_bipush rfl rfl ?_
    refine w_idiv rfl (by first | omega | (simp only [Int.toNat_natCast, upF_2] at *; omega)) (by first | omega | (simp only [Int.toNat_natCast, upF_2] at *; omega)) (by first | omega | (simp only [Int.toNat_natCast, upF_2] at *; omega)) (by first | omega | (simp only [Int.toNat_natCast, upF_2] at *; omega)) ?_
    refine w_cvV rfl (by decide) (by first | omega | (simp only [Int.toNat_natCast, upF_2] at *; omega)) rfl (CH_ob oV rfl) mt_75 (Nat.le_of_ble_eq_true rfl) (Nat.le_of_ble_eq_true rfl) (e1 ▸ k_word _ hV0 (w := i / 8) hp (by omega)) ?_
    refine w_bipush rfl rfl ?_
    refine w_bipush rfl rfl ?_
    refine w_iload rfl rfl ?_
    refine w_bipush rfl rfl ?_
    refine w_irem rfl (by first | omega | (simp only [Int.toNat_natCast, upF_2] at *; omega)) (by first | omega | (simp only [Int.toNat_natCast, upF_2] at *; omega)) (by first | omega | (simp only [Int.toNat_natCast, upF_2] at *; omega)) (by first | omega | (simp only [Int.toNat_natCast, upF_2] at *; omega)) ?_
    refine w_imul rfl ?_
    refine w_isub rfl ?_
    refine w_lushrS (s := 56 - 8 * (i % 8)) rfl (by omega) ?_
    refine w_lstore rfl (by decide) ?_
    refine w_iload rfl rfl ?_
    refine w_bipush rfl rfl ?_
    refine w_shl8 rfl ha (by omega) ?_
    refine w_lload rfl rfl ?_
    refine w_ldc2 rfl rfl ?_
    refine w_landR rfl ?_
    refine w_l2iN (z := ocW W p i) rfl (by8_num _ (by omega) rfl) ?_
    refine w_or8 rfl ha (by omega) o1.1 o1.2 ?_
    refine w_istore rfl (by decide) ?_
    refine w_iinc rfl rfl (by decide) ?_
    refine w_goto rfl ?_
    exact ih (i + 1) _ _ _ (by omega) (by omega) hn
theorem k_num (d : Nat) (hd : 1 ≤ d) (hV : VI b c V0 W0 P0 len cap wr S) {k at_ wd : Nat} (hk : k ≤ 8000) (hp : psB cap k < len) (hw : at_ + wd ≤ 64) (hr : nmL (ocW W (psB cap k)) at_ wd 0 ≤ 2147483647) : Wp b L xs d mi_85 0 (ent (mL mi_85) [.ref V0, vI k, vI at_, vI wd]) [] (CH h (mkV c W0 P0 len cap wr fi W S)) (Rt (CH h (mkV c W0 P0 len cap wr fi W S)) (vI (nmL (ocW W (psB cap k)) at_ wd 0))) := by
  have hV0 := hV
  obtain ⟨hI, oV, oW, oP⟩ := VI_f hV fi W
  obtain ⟨a1, a2, a3, a4, a5, a6, a7, a8, a9, a10, a11, a12, a13, a14, a15⟩ := hV
  have l4 : (mkV c W0 P0 len cap wr fi W S).2.2 4 = 8 * len := rfl
  have l5 : (mkV c W0 P0 len cap wr fi W S).2.2 5 = len := rfl
  have v0 : (mkV c W0 P0 len cap wr fi W S).2.1 3 0 0 = .ref W0 := rfl
  have v1 : (mkV c W0 P0 len cap wr fi W S).2.1 3 0 1 = .ref P0 := rfl
  have v2 : (mkV c W0 P0 len cap wr fi W S).2.1 3 0 2 = vI cap := rfl
  have v3 : (mkV c W0 P0 len cap wr fi W S).2.1 3 0 3 = vI wr := rfl
  have v4 : (mkV c W0 P0 len cap wr fi W S).2.1 3 0 4 = vI fi := rfl
  refine w_aload_n rfl rfl ?_
  refine w_iload_n rfl rfl ?_
  refine w_cvV rfl (by decide) (by first | omega | (simp only [Int.toNat_natCast, upF_2] at *; omega)) rfl (CH_ob oV rfl) mt_82 (Nat.le_of_ble_eq_true rfl) (Nat.le_of_ble_eq_true rfl) (k_posB _ hV0 hk) ?_
  refine w_istore rfl (by decide) ?_
  refine w_iconst rfl ?_
  refine w_istore rfl (by decide) ?_
  refine w_iload_n rfl rfl ?_
  refine w_istore rfl (by decide) ?_
  exact k_num_l d hd hV0 hp hw hr wd at_ 0 _ _ rfl (Int.le_refl _) rfl
theorem k_pOf1 (d : Nat) (hV : VI b c V0 W0 P0 len cap wr S) {v k : Nat} (hk : k < cap) (hv : v < 4000) (hw : v * cap + k < wr) : Wp b L xs d mi_70 0 (ent (mL mi_70) [.ref V0, vI v, vI k]) [] (CH h (mkV c W0 P0 len cap wr fi W S)) (Rt (CH h (mkV c W0 P0 len cap wr fi W S)) (vI ((v * cap + k : Nat) : Int))) := by
  obtain ⟨hI, oV, oW, oP⟩ := VI_f hV fi W
  obtain ⟨a1, a2, a3, a4, a5, a6, a7, a8, a9, a10, a11, a12, a13, a14, a15⟩ := hV
  have l4 : (mkV c W0 P0 len cap wr fi W S).2.2 4 = 8 * len := rfl
  have l5 : (mkV c W0 P0 len cap wr fi W S).2.2 5 = len := rfl
  have v0 : (mkV c W0 P0 len cap wr fi W S).2.1 3 0 0 = .ref W0 := rfl
  have v1 : (mkV c W0 P0 len cap wr fi W S).2.1 3 0 1 = .ref P0 := rfl
  have v2 : (mkV c W0 P0 len cap wr fi W S).2.1 3 0 2 = vI cap := rfl
  have v3 : (mkV c W0 P0 len cap wr fi W S).2.1 3 0 3 = vI wr := rfl
  have v4 : (mkV c W0 P0 len cap wr fi W S).2.1 3 0 4 = vI fi := rfl
  have e1 : (v : Int) * (cap : Int) + (k : Int) = ((v * cap + k : Nat) : Int) := by rw [Int.natCast_add, Int.natCast_mul]
  refine w_iload_n rfl rfl ?_
  refine w_iflt_f rfl (by omega) (by omega) (by first | omega | (simp only [Int.toNat_natCast, upF_2] at *; omega)) ?_
  refine w_iload_n rfl rfl ?_
  refine w_sipush rfl rfl ?_
  refine w_icge_f rfl (by omega) (by omega) (by omega) (by omega) (by first | omega | (simp only [Int.toNat_natCast, upF_2] at *; omega)) ?_
  refine w_iload_n rfl rfl ?_
  refine w_iflt_f rfl (by omega) (by omega) (by first | omega | (simp only [Int.toNat_natCast, upF_2] at *; omega)) ?_
  refine w_iload_n rfl rfl ?_
  refine w_aload_n rfl rfl ?_
  refine k_get rfl oV rfl rfl ?_
  rw [v2]
  refine w_iclt_t rfl (by omega) (by omega) (by omega) (by omega) (by first | omega | (simp only [Int.toNat_natCast, upF_2] at *; omega)) ?_
  refine w_iload_n rfl rfl ?_
  refine w_aload_n rfl rfl ?_
  refine k_get rfl oV rfl rfl ?_
  rw [v2]
  refine w_imul rfl ?_
  refine w_iload_n rfl rfl ?_
  refine w_iadd rfl ?_
  rw [e1]
  refine w_istore_n rfl (by decide) ?_
  refine w_iload_n rfl rfl ?_
  refine w_aload_n rfl rfl ?_
  refine k_get rfl oV rfl rfl ?_
  rw [v3]
  refine w_icge_f rfl (by omega) (by omega) (by omega) (by omega) (by first | omega | (simp only [Int.toNat_natCast, upF_2] at *; omega)) ?_
  refine w_iload_n rfl rfl ?_
  refine w_goto rfl ?_
  refine w_ireturn rfl rfl ?_
  exact ⟨rfl, rfl⟩
theorem k_pOf0 (d : Nat) (hV : VI b c V0 W0 P0 len cap wr S) {v k : Int} (v1 : -2147483648 ≤ v) (v2 : v ≤ 2147483647) (k1 : -2147483648 ≤ k) (k2 : k ≤ 2147483647) (hh : ¬ (0 ≤ v ∧ v < 4000 ∧ 0 ≤ k ∧ k < cap ∧ v * cap + k < wr)) : Wp b L xs d mi_70 0 (ent (mL mi_70) [.ref V0, vI v, vI k]) [] (CH h (mkV c W0 P0 len cap wr fi W S)) (Rt (CH h (mkV c W0 P0 len cap wr fi W S)) (vI (-1))) := by
  obtain ⟨hI, oV, oW, oP⟩ := VI_f hV fi W
  obtain ⟨a1, a2, a3, a4, a5, a6, a7, a8, a9, a10, a11, a12, a13, a14, a15⟩ := hV
  have l4 : (mkV c W0 P0 len cap wr fi W S).2.2 4 = 8 * len := rfl
  have l5 : (mkV c W0 P0 len cap wr fi W S).2.2 5 = len := rfl
  have v0 : (mkV c W0 P0 len cap wr fi W S).2.1 3 0 0 = .ref W0 := rfl
  have v1 : (mkV c W0 P0 len cap wr fi W S).2.1 3 0 1 = .ref P0 := rfl
  have v2 : (mkV c W0 P0 len cap wr fi W S).2.1 3 0 2 = vI cap := rfl
  have v3 : (mkV c W0 P0 len cap wr fi W S).2.1 3 0 3 = vI wr := rfl
  have v4 : (mkV c W0 P0 len cap wr fi W S).2.1 3 0 4 = vI fi := rfl
  by_cases q1 : v < 0
  · refine w_iload_n rfl rfl ?_
    refine w_iflt_t rfl (by omega) (by omega) (by first | omega | (simp only [Int.toNat_natCast, upF_2] at *; omega)) ?_
    refine w_iconst rfl ?_
    refine w_ireturn rfl rfl ?_
    exact ⟨rfl, rfl⟩
  by_cases q2 : 4000 ≤ v
  · refine w_iload_n rfl rfl ?_
    refine w_iflt_f rfl (by omega) (by omega) (by first | omega | (simp only [Int.toNat_natCast, upF_2] at *; omega)) ?_
    refine w_iload_n rfl rfl ?_
    refine w_sipush rfl rfl ?_
    refine w_icge_t rfl (by omega) (by omega) (by omega) (by omega) (by first | omega | (simp only [Int.toNat_natCast, upF_2] at *; omega)) ?_
    refine w_iconst rfl ?_
    refine w_ireturn rfl rfl ?_
    exact ⟨rfl, rfl⟩
  by_cases q3 : k < 0
  · refine w_iload_n rfl rfl ?_
    refine w_iflt_f rfl (by omega) (by omega) (by first | omega | (simp only [Int.toNat_natCast, upF_2] at *; omega)) ?_
    refine w_iload_n rfl rfl ?_
    refine w_sipush rfl rfl ?_
    refine w_icge_f rfl (by omega) (by omega) (by omega) (by omega) (by first | omega | (simp only [Int.toNat_natCast, upF_2] at *; omega)) ?_
    refine w_iload_n rfl rfl ?_
    refine w_iflt_t rfl (by omega) (by omega) (by first | omega | (simp only [Int.toNat_natCast, upF_2] at *; omega)) ?_
    refine w_iconst rfl ?_
    refine w_ireturn rfl rfl ?_
    exact ⟨rfl, rfl⟩
  by_cases q4 : (cap : Int) ≤ k
  · refine w_iload_n rfl rfl ?_
    refine w_iflt_f rfl (by omega) (by omega) (by first | omega | (simp only [Int.toNat_natCast, upF_2] at *; omega)) ?_
    refine w_iload_n rfl rfl ?_
    refine w_sipush rfl rfl ?_
    refine w_icge_f rfl (by omega) (by omega) (by omega) (by omega) (by first | omega | (simp only [Int.toNat_natCast, upF_2] at *; omega)) ?_
    refine w_iload_n rfl rfl ?_
    refine w_iflt_f rfl (by omega) (by omega) (by first | omega | (simp only [Int.toNat_natCast, upF_2] at *; omega)) ?_
    refine w_iload_n rfl rfl ?_
    refine w_aload_n rfl rfl ?_
    refine k_get rfl oV rfl rfl ?_
    rw [v2]
    refine w_iclt_f rfl (by omega) (by omega) (by omega) (by omega) (by first | omega | (simp only [Int.toNat_natCast, upF_2] at *; omega)) ?_
    refine w_iconst rfl ?_
    refine w_ireturn rfl rfl ?_
    exact ⟨rfl, rfl⟩
  have q5 : (wr : Int) ≤ v * cap + k := by
    by_cases z : (wr : Int) ≤ v * cap + k
    · exact z
    · exact absurd ⟨by omega, by omega, by omega, by omega, by omega⟩ hh
  have q6 : v * cap ≤ 4000 * 1000 := Int.mul_le_mul (by omega) (by omega) (by omega) (by omega)
  refine w_iload_n rfl rfl ?_
  refine w_iflt_f rfl (by omega) (by omega) (by first | omega | (simp only [Int.toNat_natCast, upF_2] at *; omega)) ?_
  refine w_iload_n rfl rfl ?_
  refine w_sipush rfl rfl ?_
  refine w_icge_f rfl (by omega) (by omega) (by omega) (by omega) (by first | omega | (simp only [Int.toNat_natCast, upF_2] at *; omega)) ?_
  refine w_iload_n rfl rfl ?_
  refine w_iflt_f rfl (by omega) (by omega) (by first | omega | (simp only [Int.toNat_natCast, upF_2] at *; omega)) ?_
  refine w_iload_n rfl rfl ?_
  refine w_aload_n rfl rfl ?_
  refine k_get rfl oV rfl rfl ?_
  rw [v2]
  refine w_iclt_t rfl (by omega) (by omega) (by omega) (by omega) (by first | omega | (simp only [Int.toNat_natCast, upF_2] at *; omega)) ?_
  refine w_iload_n rfl rfl ?_
  refine w_aload_n rfl rfl ?_
  refine k_get rfl oV rfl rfl ?_
  rw [v2]
  refine w_imul rfl ?_
  refine w_iload_n rfl rfl ?_
  refine w_iadd rfl ?_
  refine w_istore_n rfl (by decide) ?_
  refine w_iload_n rfl rfl ?_
  refine w_aload_n rfl rfl ?_
  refine k_get rfl oV rfl rfl ?_
  rw [v3]
  refine w_icge_t rfl (by omega) (by omega) (by omega) (by omega) (by first | omega | (simp only [Int.toNat_natCast, upF_2] at *; omega)) ?_
  refine w_iconst rfl ?_
  refine w_ireturn rfl rfl ?_
  exact ⟨rfl, rfl⟩
theorem k_spoil (d : Nat) (hV : VI b c V0 W0 P0 len cap wr S) {p : Nat} (hp : p < len) : Wp b L xs d mi_71 0 (ent (mL mi_71) [.ref V0, vI p]) [] (CH h (mkV c W0 P0 len cap wr fi W S)) (Rn (CH h (mkV c W0 P0 len cap wr fi W (upB S p 1)))) := by
  obtain ⟨hI, oV, oW, oP⟩ := VI_f hV fi W
  obtain ⟨a1, a2, a3, a4, a5, a6, a7, a8, a9, a10, a11, a12, a13, a14, a15⟩ := hV
  have l4 : (mkV c W0 P0 len cap wr fi W S).2.2 4 = 8 * len := rfl
  have l5 : (mkV c W0 P0 len cap wr fi W S).2.2 5 = len := rfl
  have v0 : (mkV c W0 P0 len cap wr fi W S).2.1 3 0 0 = .ref W0 := rfl
  have v1 : (mkV c W0 P0 len cap wr fi W S).2.1 3 0 1 = .ref P0 := rfl
  have v2 : (mkV c W0 P0 len cap wr fi W S).2.1 3 0 2 = vI cap := rfl
  have v3 : (mkV c W0 P0 len cap wr fi W S).2.1 3 0 3 = vI wr := rfl
  have v4 : (mkV c W0 P0 len cap wr fi W S).2.1 3 0 4 = vI fi := rfl
  refine w_iload_n rfl rfl ?_
  refine w_iflt_f rfl (by omega) (by omega) (by first | omega | (simp only [Int.toNat_natCast, upF_2] at *; omega)) ?_
  refine w_iload_n rfl rfl ?_
  refine w_aload_n rfl rfl ?_
  refine k_get rfl oV rfl rfl ?_
  rw [v1]
  refine k_alen rfl (by first | omega | (simp only [Int.toNat_natCast, upF_2] at *; omega)) oP rfl ?_
  refine w_icge_f rfl (by omega) (by omega) (by omega) (by omega) (by first | omega | (simp only [Int.toNat_natCast, upF_2] at *; omega)) ?_
  refine w_aload_n rfl rfl ?_
  refine k_get rfl oV rfl rfl ?_
  rw [v1]
  refine w_iload_n rfl rfl ?_
  refine w_iconst rfl ?_
  refine k_bastore hI rfl oP (fun _ => rfl) (by first | omega | (simp only [Int.toNat_natCast, upF_2] at *; omega)) (by first | omega | (simp only [Int.toNat_natCast, upF_2] at *; omega)) (by first | omega | (simp only [Int.toNat_natCast, upF_2] at *; omega)) ?_
  rw [show sb 1 = 1 from rfl, mk_S, Int.toNat_natCast]
  refine w_return rfl rfl ?_
  exact ⟨rfl, rfl⟩
theorem k_room (d : Nat) (hd : 1 ≤ d) (hV : VI b c V0 W0 P0 len cap wr S) {k : Nat} (hf : fi ≤ 4000) (hk : k ≤ 10000) : Wp b L xs d mi_53 0 (ent (mL mi_53) [.ref V0, vI k]) [] (CH h (mkV c W0 P0 len cap wr fi W S)) (Rt (CH h (mkV c W0 P0 len cap wr fi W S)) (vI (if (fi : Int) + k + pts ((fi : Int) + k) ((cap : Int) - 1) ≤ 4000 then 1 else 0))) := by
  obtain ⟨hI, oV, oW, oP⟩ := VI_f hV fi W
  obtain ⟨a1, a2, a3, a4, a5, a6, a7, a8, a9, a10, a11, a12, a13, a14, a15⟩ := hV
  have l4 : (mkV c W0 P0 len cap wr fi W S).2.2 4 = 8 * len := rfl
  have l5 : (mkV c W0 P0 len cap wr fi W S).2.2 5 = len := rfl
  have v0 : (mkV c W0 P0 len cap wr fi W S).2.1 3 0 0 = .ref W0 := rfl
  have v1 : (mkV c W0 P0 len cap wr fi W S).2.1 3 0 1 = .ref P0 := rfl
  have v2 : (mkV c W0 P0 len cap wr fi W S).2.1 3 0 2 = vI cap := rfl
  have v3 : (mkV c W0 P0 len cap wr fi W S).2.1 3 0 3 = vI wr := rfl
  have v4 : (mkV c W0 P0 len cap wr fi W S).2.1 3 0 4 = vI fi := rfl
  have g1 : 0 ≤ pts ((fi : Int) + k) ((cap : Int) - 1) ∧ pts ((fi : Int) + k) ((cap : Int) - 1) ≤ 100000 := by
    unfold pts
    refine ⟨Int.ediv_nonneg (by omega) (by omega), ?_⟩
    have := Int.ediv_le_self ((cap : Int) - 1) (show (0 : Int) ≤ (fi : Int) + k + ((cap : Int) - 1) - 1 by omega)
    have := Int.ediv_le_self (a := (fi : Int) + k + ((cap : Int) - 1) - 1) ((cap : Int) - 1) (by omega)
    omega
  by_cases q : (fi : Int) + k + pts ((fi : Int) + k) ((cap : Int) - 1) ≤ 4000
  · rw [if_pos q]
    refine w_aload_n rfl rfl ?_
    refine k_get rfl oV rfl rfl ?_
    rw [v4]
    refine w_iload_n rfl rfl ?_
    refine w_iadd rfl ?_
    refine w_istore_n rfl (by decide) ?_
    refine w_iload_n rfl rfl ?_
    refine w_iload_n rfl rfl ?_
    refine w_aload_n rfl rfl ?_
    refine k_get rfl oV rfl rfl ?_
    rw [v2]
    refine w_iconst rfl ?_
    refine w_isub rfl ?_
    refine w_csV rfl (by decide) (by first | omega | (simp only [Int.toNat_natCast, upF_2] at *; omega)) rfl mt_50 (Nat.le_of_ble_eq_true rfl) (Nat.le_of_ble_eq_true rfl) (k_quo _ (by omega) (by omega) (by omega) (by omega)) ?_
    refine w_iadd rfl ?_
    refine w_sipush rfl rfl ?_
    refine w_icgt_f rfl (by omega) (by omega) (by omega) (by omega) (by first | omega | (simp only [Int.toNat_natCast, upF_2] at *; omega)) ?_
    refine w_iconst rfl ?_
    refine w_goto rfl ?_
    refine w_zreturn rfl rfl (by first | omega | (simp only [Int.toNat_natCast, upF_2] at *; omega)) ?_
    exact ⟨rfl, rfl⟩
  · rw [if_neg q]
    refine w_aload_n rfl rfl ?_
    refine k_get rfl oV rfl rfl ?_
    rw [v4]
    refine w_iload_n rfl rfl ?_
    refine w_iadd rfl ?_
    refine w_istore_n rfl (by decide) ?_
    refine w_iload_n rfl rfl ?_
    refine w_iload_n rfl rfl ?_
    refine w_aload_n rfl rfl ?_
    refine k_get rfl oV rfl rfl ?_
    rw [v2]
    refine w_iconst rfl ?_
    refine w_isub rfl ?_
    refine w_csV rfl (by decide) (by first | omega | (simp only [Int.toNat_natCast, upF_2] at *; omega)) rfl mt_50 (Nat.le_of_ble_eq_true rfl) (Nat.le_of_ble_eq_true rfl) (k_quo _ (by omega) (by omega) (by omega) (by omega)) ?_
    refine w_iadd rfl ?_
    refine w_sipush rfl rfl ?_
    refine w_icgt_t rfl (by omega) (by omega) (by omega) (by omega) (by first | omega | (simp only [Int.toNat_natCast, upF_2] at *; omega)) ?_
    refine w_iconst rfl ?_
    refine w_zreturn rfl rfl (by first | omega | (simp only [Int.toNat_natCast, upF_2] at *; omega)) ?_
    exact ⟨rfl, rfl⟩
theorem k_vols (d : Nat) (hd : 1 ≤ d) (hV : VI b c V0 W0 P0 len cap wr S)  : Wp b L xs d mi_109 0 (ent (mL mi_109) [.ref V0]) [] (CH h (mkV c W0 P0 len cap wr fi W S)) (Rt (CH h (mkV c W0 P0 len cap wr fi W S)) (vI (pts wr cap))) := by
  obtain ⟨hI, oV, oW, oP⟩ := VI_f hV fi W
  obtain ⟨a1, a2, a3, a4, a5, a6, a7, a8, a9, a10, a11, a12, a13, a14, a15⟩ := hV
  have l4 : (mkV c W0 P0 len cap wr fi W S).2.2 4 = 8 * len := rfl
  have l5 : (mkV c W0 P0 len cap wr fi W S).2.2 5 = len := rfl
  have v0 : (mkV c W0 P0 len cap wr fi W S).2.1 3 0 0 = .ref W0 := rfl
  have v1 : (mkV c W0 P0 len cap wr fi W S).2.1 3 0 1 = .ref P0 := rfl
  have v2 : (mkV c W0 P0 len cap wr fi W S).2.1 3 0 2 = vI cap := rfl
  have v3 : (mkV c W0 P0 len cap wr fi W S).2.1 3 0 3 = vI wr := rfl
  have v4 : (mkV c W0 P0 len cap wr fi W S).2.1 3 0 4 = vI fi := rfl
  refine w_aload_n rfl rfl ?_
  refine k_get rfl oV rfl rfl ?_
  rw [v3]
  refine w_aload_n rfl rfl ?_
  refine k_get rfl oV rfl rfl ?_
  rw [v2]
  refine w_csV rfl (by decide) (by first | omega | (simp only [Int.toNat_natCast, upF_2] at *; omega)) rfl mt_50 (Nat.le_of_ble_eq_true rfl) (Nat.le_of_ble_eq_true rfl) (k_quo _ (by omega) (by omega) (by omega) (by omega)) ?_
  refine w_ireturn rfl rfl ?_
  exact ⟨rfl, rfl⟩
theorem k_vclr (d : Nat) (hd : 1 ≤ d) (hV : VI b c V0 W0 P0 len cap wr S) {n : Nat} (n1 : 4 ≤ n) (n2 : n ≤ 1000) : Wp b L xs d mi_9 0 (ent (mL mi_9) [.ref V0, vI n]) [] (CH h (mkV c W0 P0 len cap wr fi W S)) (Rn (CH h (mkV c W0 P0 len n 0 0 W S))) := by
  obtain ⟨hI, oV, oW, oP⟩ := VI_f hV fi W
  obtain ⟨a1, a2, a3, a4, a5, a6, a7, a8, a9, a10, a11, a12, a13, a14, a15⟩ := hV
  have l4 : (mkV c W0 P0 len cap wr fi W S).2.2 4 = 8 * len := rfl
  have l5 : (mkV c W0 P0 len cap wr fi W S).2.2 5 = len := rfl
  have v0 : (mkV c W0 P0 len cap wr fi W S).2.1 3 0 0 = .ref W0 := rfl
  have v1 : (mkV c W0 P0 len cap wr fi W S).2.1 3 0 1 = .ref P0 := rfl
  have v2 : (mkV c W0 P0 len cap wr fi W S).2.1 3 0 2 = vI cap := rfl
  have v3 : (mkV c W0 P0 len cap wr fi W S).2.1 3 0 3 = vI wr := rfl
  have v4 : (mkV c W0 P0 len cap wr fi W S).2.1 3 0 4 = vI fi := rfl
  have e1 : max (n : Int) 4 = (n : Int) := Int.max_eq_left (by omega)
  refine w_aload_n rfl rfl ?_
  refine w_iload_n rfl rfl ?_
  refine w_iconst rfl ?_
  refine w_max rfl (by omega) (Nat.le_of_ble_eq_true rfl) (by omega) (by omega) (by omega) (by omega) ?_
  rw [e1]
  refine k_put hI rfl oV rfl rfl rfl rfl ?_
  rw [mk_F _ _ _ _ _ _ _ _ _ (vfl_2 _ _ _ _ _ _)]
  refine w_aload_n rfl rfl ?_
  refine w_iconst rfl ?_
  refine k_put (c := mkV c W0 P0 len n wr fi W S) hI rfl oV rfl rfl rfl rfl ?_
  rw [show vI (0 : Int) = vI ((0 : Nat) : Int) from rfl, mk_F _ _ _ _ _ _ _ _ _ (vfl_3 _ _ _ _ _ 0)]
  refine w_aload_n rfl rfl ?_
  refine w_iconst rfl ?_
  refine k_put (c := mkV c W0 P0 len n 0 fi W S) hI rfl oV rfl rfl rfl rfl ?_
  rw [show vI (0 : Int) = vI ((0 : Nat) : Int) from rfl, mk_F _ _ _ _ _ _ _ _ _ (vfl_4 _ _ _ _ _ 0)]
  refine w_return rfl rfl ?_
  exact ⟨rfl, rfl⟩
end Cv1
