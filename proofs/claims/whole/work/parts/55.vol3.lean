/-! the volumes: what is stored and what is added -/
theorem Wp_im {b L : Nat} {xs : Nat → Int32} {d : Nat} {M : MI} {pc : Nat} {lv : List (Option Value)} {st : List Value} {h : AH} {Q Q' : AH → RO → Prop} (hq : ∀ h' o, Q h' o → Q' h' o) (w : Wp b L xs d M pc lv st h Q) : Wp b L xs d M pc lv st h Q' := by
  obtain ⟨n, h', o, e, q⟩ := w
  exact ⟨n, h', o, e, hq h' o q⟩
def StW (W W' : Nat → Int64) (p : Nat) (B : Nat → Int) : Prop := ∀ q j, q ≤ p → j < 64 → ocW W' q j = if q = p then B j else ocW W q j
theorem StW.rf (W : Nat → Int64) (p : Nat) : StW W W p (ocW W p) := by
  intro q j _ _
  by_cases e : q = p
  · rw [if_pos e, e]
  · rw [if_neg e]
theorem ocW_orI (W : Nat → Int64) {p i : Nat} {x : Int} (x1 : 0 ≤ x) (x2 : x < 256) (hi : i < 64) (q j : Nat) (hj : j < 64) : ocW (upW W (8 * p + i / 8) (W (8 * p + i / 8) ||| ((Int32.ofInt x).toInt64 <<< ((Int32.ofInt ((56 - 8 * (i % 8) : Nat) : Int)).toInt64 &&& 63)))) q j = if q = p then orB (ocW W p) i x j else ocW W q j := by
  obtain ⟨n, rfl⟩ := Int.eq_ofNat_of_zero_le x1
  exact ocW_or W (by omega) hi q j hj
def zW (W : Nat → Int64) (lo hi : Nat) : Nat → Int64 := fun n => if lo ≤ n ∧ n < hi then 0 else W n
theorem zW_s (W : Nat → Int64) {lo hi : Nat} (hl : lo ≤ hi) : upW (zW W lo hi) hi 0 = zW W lo (hi + 1) := by
  funext n
  unfold upW zW
  by_cases e : n = hi
  · rw [if_pos e, if_pos (by omega)]
  · rw [if_neg e]
    by_cases e2 : lo ≤ n ∧ n < hi
    · rw [if_pos e2, if_pos (by omega)]
    · rw [if_neg e2, if_neg (by omega)]
theorem zW_0 (W : Nat → Int64) (lo : Nat) : zW W lo lo = W := by
  funext n
  unfold zW
  rw [if_neg (by omega)]
theorem zW_o (W : Nat → Int64) (p : Nat) : StW W (zW W (8 * p) (8 * p + 8)) p zB := by
  intro q j h1 h2
  unfold ocW zW
  by_cases e : q = p
  · rw [if_pos e, if_pos (by omega), by8_zero]
    rfl
  · rw [if_neg e, if_neg (by omega)]
section Cv2
variable {b L : Nat} {xs : Nat → Int32} {h : AH} {c : CS} {V0 W0 P0 len cap wr fi : Nat} {W : Nat → Int64} {S : Nat → Int}
theorem k_st_l (d : Nat) (hV : VI b c V0 W0 P0 len cap wr S) (hw1 : 1 ≤ wr) {at_ wd : Nat} {v : Int} (y1 : 0 ≤ v) (y2 : v ≤ 2147483647) (hw : at_ + wd ≤ 64) (w4 : wd ≤ 4) : ∀ (m i : Nat) (W : Nat → Int64) (u5 u6 : Option Value), i + m = wd → Wp b L xs d mi_60 3 [some (.ref V0), some (vI at_), some (vI wd), some (vI v), some (vI i), u5, u6] [] (CH h (mkV c W0 P0 len cap wr fi W S)) (fun h' o => o = .inl none ∧ ∃ W' : Nat → Int64, h' = CH h (mkV c W0 P0 len cap wr fi W' S) ∧ StW W W' (wr - 1) (stK (ocW W (wr - 1)) (at_ + i) v m)) := by
  intro m
  induction m with
  | zero =>
    intro i W u5 u6 hi
    obtain ⟨hI, oV, oW, oP⟩ := VI_f hV fi W
    obtain ⟨a1, a2, a3, a4, a5, a6, a7, a8, a9, a10, a11, a12, a13, a14, a15⟩ := hV
    have l4 : (mkV c W0 P0 len cap wr fi W S).2.2 4 = 8 * len := rfl
    have l5 : (mkV c W0 P0 len cap wr fi W S).2.2 5 = len := rfl
    have v0 : (mkV c W0 P0 len cap wr fi W S).2.1 3 0 0 = .ref W0 := rfl
    have v1 : (mkV c W0 P0 len cap wr fi W S).2.1 3 0 1 = .ref P0 := rfl
    have v2 : (mkV c W0 P0 len cap wr fi W S).2.1 3 0 2 = vI cap := rfl
    have v3 : (mkV c W0 P0 len cap wr fi W S).2.1 3 0 3 = vI wr := rfl
    have v4 : (mkV c W0 P0 len cap wr fi W S).2.1 3 0 4 = vI fi := rfl
    refine w_iload rfl rfl ?_
    refine w_iload_n rfl rfl ?_
    refine w_icge_t rfl (by omega) (by omega) (by omega) (by omega) (by first | omega | (simp only [Int.toNat_natCast, upF_2] at *; omega)) ?_
    refine w_return rfl rfl ?_
    exact ⟨rfl, W, rfl, StW.rf W _⟩
  | succ m ih =>
    intro i W u5 u6 hi
    have hV0 := hV
    obtain ⟨hI, oV, oW, oP⟩ := VI_f hV fi W
    obtain ⟨a1, a2, a3, a4, a5, a6, a7, a8, a9, a10, a11, a12, a13, a14, a15⟩ := hV
    have l4 : (mkV c W0 P0 len cap wr fi W S).2.2 4 = 8 * len := rfl
    have l5 : (mkV c W0 P0 len cap wr fi W S).2.2 5 = len := rfl
    have v0 : (mkV c W0 P0 len cap wr fi W S).2.1 3 0 0 = .ref W0 := rfl
    have v1 : (mkV c W0 P0 len cap wr fi W S).2.1 3 0 1 = .ref P0 := rfl
    have v2 : (mkV c W0 P0 len cap wr fi W S).2.1 3 0 2 = vI cap := rfl
    have v3 : (mkV c W0 P0 len cap wr fi W S).2.1 3 0 3 = vI wr := rfl
    have v4 : (mkV c W0 P0 len cap wr fi W S).2.1 3 0 4 = vI fi := rfl
    have e1 : (8 * ((wd : Int) - 1 - (i : Int))).toNat = 8 * m := by omega
    have e2 : (((wr : Int) - 1) * 8 + ((at_ : Int) + (i : Int)) / 8).toNat = 8 * (wr - 1) + (at_ + i) / 8 := by omega
    have sp : (mkV c W0 P0 len cap wr fi W S).2.1 4 0 (((wr : Int) - 1) * 8 + ((at_ : Int) + (i : Int)) / 8).toNat = .long (W (8 * (wr - 1) + (at_ + i) / 8)) := by rw [e2]; rfl
    have x1 := Int.emod_nonneg (v / 2 ^ (8 * m)) (show (256 : Int) ≠ 0 by decide)
    have x2 := Int.emod_lt_of_pos (v / 2 ^ (8 * m)) (show (0 : Int) < 256 by decide)
    refine w_iload rfl rfl ?_
    refine w_iload_n rfl rfl ?_
    refine w_icge_f rfl (by omega) (by omega) (by omega) (by omega) (by first | omega | (simp only [Int.toNat_natCast, upF_2] at *; omega)) ?_
    refine w_iload_n rfl rfl ?_
    refine w_bipush rfl rfl ?_
    refine w_iload_n rfl rfl ?_
    refine w_iconst rfl ?_
    refine w_isub rfl ?_
    refine w_iload rfl rfl ?_
    refine w_isub rfl ?_
    refine w_imul rfl ?_
    refine w_iushr rfl y1 y2 (by omega) (by omega) ?_
    refine w_sipush rfl rfl ?_
    refine w_and255 rfl ?_
    refine w_istore rfl (by decide) ?_
    rw [e1]
    refine w_aload_n rfl rfl ?_
    refine k_get rfl oV rfl rfl ?_
    rw [v3]
    refine w_iconst rfl ?_
    refine w_isub rfl ?_
    refine w_bipush rfl rfl ?_
    refine w_imul rfl ?_
    refine w_iload_n rfl rfl ?_
    refine w_iload rfl rfl ?_
    refine w_iadd rfl ?_
    refine w_bipush rfl rfl ?_
    refine w_idiv rfl (by first | omega | (simp only [Int.toNat_natCast, upF_2] at *; omega)) (by first | omega | (simp only [Int.toNat_natCast, upF_2] at *; omega)) (by first | omega | (simp only [Int.toNat_natCast, upF_2] at *; omega)) (by first | omega | (simp only [Int.toNat_natCast, upF_2] at *; omega)) ?_
    refine w_iadd rfl ?_
    refine w_istore rfl (by decide) ?_
    refine w_iload rfl rfl ?_
    refine w_iflt_f rfl (by omega) (by omega) (by first | omega | (simp only [Int.toNat_natCast, upF_2] at *; omega)) ?_
    refine w_iload rfl rfl ?_
    refine w_aload_n rfl rfl ?_
    refine k_get rfl oV rfl rfl ?_
    rw [v0]
    refine k_alen rfl (by first | omega | (simp only [Int.toNat_natCast, upF_2] at *; omega)) oW rfl ?_
    refine w_icge_f rfl (by omega) (by omega) (by omega) (by omega) (by first | omega | (simp only [Int.toNat_natCast, upF_2] at *; omega)) ?_
    refine w_aload_n rfl rfl ?_
    refine k_get rfl oV rfl rfl ?_
    rw [v0]
    refine w_iload rfl rfl ?_
    refine w_dup2 rfl ?_
    refine k_laload rfl oW rfl (by first | omega | (simp only [Int.toNat_natCast, upF_2] at *; omega)) (by first | omega | (simp only [Int.toNat_natCast, upF_2] at *; omega)) (by first | omega | (simp only [Int.toNat_natCast, upF_2] at *; omega)) sp ?_
    refine w_iload rfl rfl ?_
    refine w_i2l rfl ?_
    refine w_bipush rfl rfl ?_
    refine w_bipush rfl rfl ?_
    refine w_iload_n rfl rfl ?_
    refine w_iload rfl rfl ?_
    refine w_iadd rfl ?_
    refine w_bipush rfl rfl ?_
    refine w_irem rfl (by first | omega | (simp only [Int.toNat_natCast, upF_2] at *; omega)) (by first | omega | (simp only [Int.toNat_natCast, upF_2] at *; omega)) (by first | omega | (simp only [Int.toNat_natCast, upF_2] at *; omega)) (by first | omega | (simp only [Int.toNat_natCast, upF_2] at *; omega)) ?_
    refine w_imul rfl ?_
    refine w_isub rfl ?_
    refine w_lshlS (s := 56 - 8 * ((at_ + i) % 8)) rfl (by omega) ?_
    refine w_lorR rfl ?_
    refine k_lastore hI rfl oW (fun _ => rfl) (by first | omega | (simp only [Int.toNat_natCast, upF_2] at *; omega)) (by first | omega | (simp only [Int.toNat_natCast, upF_2] at *; omega)) (by first | omega | (simp only [Int.toNat_natCast, upF_2] at *; omega)) ?_
    rw [mk_W, e2]
    refine w_iinc rfl rfl (by decide) ?_
    refine w_goto rfl ?_
    refine Wp_im ?_ (ih (i + 1) _ _ _ (by omega))
    rintro h' o ⟨r1, W', r2, r3⟩
    refine ⟨r1, W', r2, fun q j g1 g2 => ?_⟩
    rw [r3 q j g1 g2]
    by_cases e : q = wr - 1
    · rw [if_pos e, if_pos e, show at_ + (i + 1) = at_ + i + 1 by omega]
      refine stK_c v m _ _ _ (by omega) (fun j g3 => ?_) j g2
      rw [ocW_orI W x1 x2 (by omega) _ _ g3, if_pos rfl]
    · rw [if_neg e, if_neg e, ocW_orI W x1 x2 (by omega) _ _ g2, if_neg e]
theorem k_store (d : Nat) (hV : VI b c V0 W0 P0 len cap wr S) (hw1 : 1 ≤ wr) {at_ wd : Nat} {v : Int} (y1 : 0 ≤ v) (y2 : v ≤ 2147483647) (hw : at_ + wd ≤ 64) (w4 : wd ≤ 4) : Wp b L xs d mi_60 0 (ent (mL mi_60) [.ref V0, vI at_, vI wd, vI v]) [] (CH h (mkV c W0 P0 len cap wr fi W S)) (fun h' o => o = .inl none ∧ ∃ W' : Nat → Int64, h' = CH h (mkV c W0 P0 len cap wr fi W' S) ∧ StW W W' (wr - 1) (stK (ocW W (wr - 1)) at_ v wd)) := by
  refine w_iconst rfl ?_
  refine w_istore rfl (by decide) ?_
  exact k_st_l d hV hw1 y1 y2 hw w4 wd 0 W _ _ (Nat.zero_add _)
theorem k_ap_l (d : Nat) (hV : VI b c V0 W0 P0 len cap wr S) (hl : wr < len) (u1 : Unit) {Q : AH → RO → Prop} (kk : Wp b L xs d mi_57 79 [some (.ref V0), some (vI (8 * wr : Nat)), some (vI (8 * wr + 8 : Nat))] [] (CH h (mkV c W0 P0 len cap wr fi (zW W (8 * wr) (8 * wr + 8)) S)) Q) : ∀ (m i : Nat), i + m = 8 * wr + 8 → 8 * wr ≤ i → Wp b L xs d mi_57 58 [some (.ref V0), some (vI (8 * wr : Nat)), some (vI i)] [] (CH h (mkV c W0 P0 len cap wr fi (zW W (8 * wr) i) S)) Q := by
  intro m
  induction m with
  | zero =>
    intro i hi hi2
    obtain rfl : i = 8 * wr + 8 := hi
    obtain ⟨hI, oV, oW, oP⟩ := VI_f hV fi (zW W (8 * wr) (8 * wr + 8))
    obtain ⟨a1, a2, a3, a4, a5, a6, a7, a8, a9, a10, a11, a12, a13, a14, a15⟩ := hV
    have l4 : (mkV c W0 P0 len cap wr fi (zW W (8 * wr) (8 * wr + 8)) S).2.2 4 = 8 * len := rfl
    have l5 : (mkV c W0 P0 len cap wr fi (zW W (8 * wr) (8 * wr + 8)) S).2.2 5 = len := rfl
    have v0 : (mkV c W0 P0 len cap wr fi (zW W (8 * wr) (8 * wr + 8)) S).2.1 3 0 0 = .ref W0 := rfl
    have v1 : (mkV c W0 P0 len cap wr fi (zW W (8 * wr) (8 * wr + 8)) S).2.1 3 0 1 = .ref P0 := rfl
    have v2 : (mkV c W0 P0 len cap wr fi (zW W (8 * wr) (8 * wr + 8)) S).2.1 3 0 2 = vI cap := rfl
    have v3 : (mkV c W0 P0 len cap wr fi (zW W (8 * wr) (8 * wr + 8)) S).2.1 3 0 3 = vI wr := rfl
    have v4 : (mkV c W0 P0 len cap wr fi (zW W (8 * wr) (8 * wr + 8)) S).2.1 3 0 4 = vI fi := rfl
    refine w_iload_n rfl rfl ?_
    refine w_iload_n rfl rfl ?_
    refine w_bipush rfl rfl ?_
    refine w_iadd rfl ?_
    refine w_icge_t rfl (by omega) (by omega) (by omega) (by omega) (by first | omega | (simp only [Int.toNat_natCast, upF_2] at *; omega)) ?_
    exact kk
  | succ m ih =>
    intro i hi hi2
    have hV0 := hV
    obtain ⟨hI, oV, oW, oP⟩ := VI_f hV fi (zW W (8 * wr) i)
    obtain ⟨a1, a2, a3, a4, a5, a6, a7, a8, a9, a10, a11, a12, a13, a14, a15⟩ := hV
    have l4 : (mkV c W0 P0 len cap wr fi (zW W (8 * wr) i) S).2.2 4 = 8 * len := rfl
    have l5 : (mkV c W0 P0 len cap wr fi (zW W (8 * wr) i) S).2.2 5 = len := rfl
    have v0 : (mkV c W0 P0 len cap wr fi (zW W (8 * wr) i) S).2.1 3 0 0 = .ref W0 := rfl
    have v1 : (mkV c W0 P0 len cap wr fi (zW W (8 * wr) i) S).2.1 3 0 1 = .ref P0 := rfl
    have v2 : (mkV c W0 P0 len cap wr fi (zW W (8 * wr) i) S).2.1 3 0 2 = vI cap := rfl
    have v3 : (mkV c W0 P0 len cap wr fi (zW W (8 * wr) i) S).2.1 3 0 3 = vI wr := rfl
    have v4 : (mkV c W0 P0 len cap wr fi (zW W (8 * wr) i) S).2.1 3 0 4 = vI fi := rfl
    refine w_iload_n rfl rfl ?_
    refine w_iload_n rfl rfl ?_
    refine w_bipush rfl rfl ?_
    refine w_iadd rfl ?_
    refine w_icge_f rfl (by omega) (by omega) (by omega) (by omega) (by first | omega | (simp only [Int.toNat_natCast, upF_2] at *; omega)) ?_
    refine w_aload_n rfl rfl ?_
    refine k_get rfl oV rfl rfl ?_
    rw [v0]
    refine w_iload_n rfl rfl ?_
    refine w_lconst rfl ?_
    refine k_lastore hI rfl oW (fun _ => rfl) (by first | omega | (simp only [Int.toNat_natCast, upF_2] at *; omega)) (by first | omega | (simp only [Int.toNat_natCast, upF_2] at *; omega)) (by first | omega | (simp only [Int.toNat_natCast, upF_2] at *; omega)) ?_
    rw [mk_W, Int.toNat_natCast, show Int64.ofNat ((0 : Fin 2) : Nat) = 0 from rfl, zW_s _ hi2]
    refine w_iinc rfl rfl (by decide) ?_
    refine w_goto rfl ?_
    exact ih (i + 1) (by omega) (by omega)
theorem k_ap48 (d : Nat) (hV : VI b c V0 W0 P0 len cap wr S) (hl : wr < len) (u1 u2 : Option Value) : Wp b L xs d mi_57 48 [some (.ref V0), u1, u2] [] (CH h (mkV c W0 P0 len cap wr fi W S)) (Rn (CH h (mkV c W0 P0 len cap (wr + 1) fi (zW W (8 * wr) (8 * wr + 8)) (upB S wr 0)))) := by
  have hV0 := hV
  obtain ⟨hI, oV, oW, oP⟩ := VI_f hV fi W
  obtain ⟨a1, a2, a3, a4, a5, a6, a7, a8, a9, a10, a11, a12, a13, a14, a15⟩ := hV
  have l4 : (mkV c W0 P0 len cap wr fi W S).2.2 4 = 8 * len := rfl
  have l5 : (mkV c W0 P0 len cap wr fi W S).2.2 5 = len := rfl
  have v0 : (mkV c W0 P0 len cap wr fi W S).2.1 3 0 0 = .ref W0 := rfl
  have v1 : (mkV c W0 P0 len cap wr fi W S).2.1 3 0 1 = .ref P0 := rfl
  have v2 : (mkV c W0 P0 len cap wr fi W S).2.1 3 0 2 = vI cap := rfl
  have v3 : (mkV c W0 P0 len cap wr fi W S).2.1 3 0 3 = vI wr := rfl
  have v4 : (mkV c W0 P0 len cap wr fi W S).2.1 3 0 4 = vI fi := rfl
  have e1 : (wr : Int) * 8 = ((8 * wr : Nat) : Int) := by omega
  refine w_aload_n rfl rfl ?_
  refine k_get rfl oV rfl rfl ?_
  rw [v3]
  refine w_bipush rfl rfl ?_
  refine w_imul rfl ?_
  rw [e1]
  refine w_istore_n rfl (by decide) ?_
  refine w_iload_n rfl rfl ?_
  refine w_istore_n rfl (by decide) ?_
  have g : CH h (mkV c W0 P0 len cap wr fi W S) = CH h (mkV c W0 P0 len cap wr fi (zW W (8 * wr) (8 * wr)) S) := by rw [zW_0]
  rw [g]
  refine k_ap_l d hV0 hl () ?_ 8 (8 * wr) rfl (Nat.le_refl _)
  clear g hI oV oW oP l4 l5 v0 v1 v2 v3 v4
  have hV := hV0
  obtain ⟨hI, oV, oW, oP⟩ := VI_f hV fi (zW W (8 * wr) (8 * wr + 8))
  have l4 : (mkV c W0 P0 len cap wr fi (zW W (8 * wr) (8 * wr + 8)) S).2.2 4 = 8 * len := rfl
  have l5 : (mkV c W0 P0 len cap wr fi (zW W (8 * wr) (8 * wr + 8)) S).2.2 5 = len := rfl
  have v0 : (mkV c W0 P0 len cap wr fi (zW W (8 * wr) (8 * wr + 8)) S).2.1 3 0 0 = .ref W0 := rfl
  have v1 : (mkV c W0 P0 len cap wr fi (zW W (8 * wr) (8 * wr + 8)) S).2.1 3 0 1 = .ref P0 := rfl
  have v2 : (mkV c W0 P0 len cap wr fi (zW W (8 * wr) (8 * wr + 8)) S).2.1 3 0 2 = vI cap := rfl
  have v3 : (mkV c W0 P0 len cap wr fi (zW W (8 * wr) (8 * wr + 8)) S).2.1 3 0 3 = vI wr := rfl
  have v4 : (mkV c W0 P0 len cap wr fi (zW W (8 * wr) (8 * wr + 8)) S).2.1 3 0 4 = vI fi := rfl
  refine w_aload_n rfl rfl ?_
  refine k_get rfl oV rfl rfl ?_
  rw [v1]
  refine w_aload_n rfl rfl ?_
  refine k_get rfl oV rfl rfl ?_
  rw [v3]
  refine w_iconst rfl ?_
  refine k_bastore hI rfl oP (fun _ => rfl) (by first | omega | (simp only [Int.toNat_natCast, upF_2] at *; omega)) (by first | omega | (simp only [Int.toNat_natCast, upF_2] at *; omega)) (by first | omega | (simp only [Int.toNat_natCast, upF_2] at *; omega)) ?_
  rw [show sb 0 = 0 from rfl, mk_S, Int.toNat_natCast]
  have v3 : (mkV c W0 P0 len cap wr fi (zW W (8 * wr) (8 * wr + 8)) (upB S wr 0)).2.1 3 0 3 = vI wr := rfl
  have hI : CI (mkV c W0 P0 len cap wr fi (zW W (8 * wr) (8 * wr + 8)) (upB S wr 0)) := hI
  have oV : (mkV c W0 P0 len cap wr fi (zW W (8 * wr) (8 * wr + 8)) (upB S wr 0)).1 V0 = some (3, 0) := oV
  refine w_aload_n rfl rfl ?_
  refine w_dupR rfl ?_
  refine k_get rfl oV rfl rfl ?_
  rw [v3]
  refine w_iconst rfl ?_
  refine w_iadd rfl ?_
  refine k_put hI rfl oV rfl rfl rfl rfl ?_
  rw [show vI ((wr : Int) + 1) = vI ((wr + 1 : Nat) : Int) from rfl, mk_F _ _ _ _ _ _ _ _ _ (vfl_3 _ _ _ _ _ (wr + 1))]
  refine w_return rfl rfl ?_
  exact ⟨rfl, rfl⟩
end Cv2
