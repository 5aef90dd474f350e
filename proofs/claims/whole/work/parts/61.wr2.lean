/-! the writer: index, octets, entries -/
def ixF (x y : Nat → Int) (N : Int) (s m : Nat) : Nat → Int := ixG x y (putK (putK zB 0 73 1) 1 (min 31 (N - s)) 1) 2 s m
theorem wN_31 (m : Nat) : wN 31 m = (m + 30) / 31 := rfl
theorem wrO_le {cap : Nat} (hc : 4 ≤ cap) {f f' : Nat} (h : f ≤ f') : wrO cap f ≤ wrO cap f' := by
  unfold wrO
  have := Nat.div_le_div_right (c := cap - 1) (show f + (cap - 1) - 1 ≤ f' + (cap - 1) - 1 by omega)
  omega
section Cw2
variable {b L V0 : Nat} {xs : Nat → Int32} {Z : Nat → Prop} {g : Nat → Option AO} {c : CS} {nc ns cap fi : Nat} {bl : Nat → Nat → Int} {sp ls : Nat → Int} {H : AH} {ρ : RS} {na : Nat → Option Nat} {T0 N0 R0 D0 : Nat}
theorem VH_cap (hH : VH b V0 Z g c nc ns cap fi bl sp ls H) : 4 ≤ cap ∧ cap ≤ 1000 := by
  obtain ⟨wr, W, S, hR, -⟩ := hH
  exact ⟨(VR_cap hR).1, (VR_cap hR).2.1⟩
theorem V_ix75 (d : Nat) (hd : 5 ≤ d) (oR : c.1 R0 = some (6, 0)) (r0 : c.2.1 6 0 0 = .ref T0) (r1 : c.2.1 6 0 1 = .ref V0) (hT : TreeOk ρ) {x y : Nat → Int} {N : Int} {m k a : Nat} (hm : m ≤ 300) (hk : k < 256) (hn : NdIs c ρ na k a) (hx : x m = k) (hy : y m = nb ρ k) {Q : AH → RO → Prop} {u5 : Option Value} (hH : VH b V0 Z g c nc ns cap (fi + m / 31 + 1) (bset (wBl 31 (ixF x y N) bl fi m) (fi + m / 31) (ixF x y N (31 * (m / 31)) (m % 31))) sp ls H) (kk : ∀ H (u5 : Option Value), VH b V0 Z g c nc ns cap (fi + wN 31 (m + 1)) (wBl 31 (ixF x y N) bl fi (m + 1)) sp ls H → Wp b L xs d mi_62 4 [some (.ref R0), some (.ref D0), some (vI ((m + 1 : Nat) : Int)), some (vI ((k + 1 : Nat) : Int)), some (.ref a), u5] [] H Q) : Wp b L xs d mi_62 75 [some (.ref R0), some (.ref D0), some (vI m), some (vI k), some (.ref a), u5] [] H Q := by
  have oA := hn.2.2.1
  have nb1 := nb_ok hT hk
  have e1 : (2 : Int) + 2 * ((m : Int) % 31) = ((2 + 2 * (m % 31) : Nat) : Int) := by omega
  have z1 : ∀ i, 2 + 2 * (m % 31) ≤ i → ixF x y N (31 * (m / 31)) (m % 31) i = 0 := fun i hi => by
    unfold ixF
    rw [ixG_z _ _ _ _ _ _ _ hi, putK_at, if_neg (by omega), putK_at, if_neg (by omega)]
    rfl
  refine w_iconst rfl ?_
  refine w_iconst rfl ?_
  refine w_iload_n rfl rfl ?_
  refine w_bipush rfl rfl ?_
  refine w_irem rfl (by first | omega | (simp only [Int.toNat_natCast, upF_2] at *; omega)) (by first | omega | (simp only [Int.toNat_natCast, upF_2] at *; omega)) (by first | omega | (simp only [Int.toNat_natCast, upF_2] at *; omega)) (by first | omega | (simp only [Int.toNat_natCast, upF_2] at *; omega)) ?_
  refine w_imul rfl ?_
  refine w_iadd rfl ?_
  rw [e1]
  refine w_istore rfl (by decide) ?_
  refine w_aload_n rfl rfl ?_
  refine w_getfield rfl (VH_at hH oR (by decide) (by decide) (by decide)) rfl ?_
  rw [r1]
  refine w_iload rfl rfl ?_
  refine w_iconst rfl ?_
  refine w_iload_n rfl rfl ?_
  refine w_cv rfl (by decide) (by first | omega | (simp only [Int.toNat_natCast, upF_2] at *; omega)) rfl (VH_ob hH).choose_spec mt_60 (Nat.le_of_ble_eq_true rfl) (Nat.le_of_ble_eq_true rfl) (V_st _ hH (at_ := 2 + 2 * (m % 31)) (wd := 1) (by omega) (by omega) (by omega) (by omega) (fun i h1 _ => z1 i h1)) ?_
  rintro _ _ ⟨rfl, hH⟩
  refine ⟨none, rfl, ?_⟩
  refine w_aload_n rfl rfl ?_
  refine w_getfield rfl (VH_at hH oR (by decide) (by decide) (by decide)) rfl ?_
  rw [r1]
  refine w_iload rfl rfl ?_
  refine w_iconst rfl ?_
  refine w_iadd rfl ?_
  refine w_iconst rfl ?_
  refine w_aload rfl rfl ?_
  refine w_cvV rfl (by decide) (by first | omega | (simp only [Int.toNat_natCast, upF_2] at *; omega)) rfl (VH_at hH oA (by decide) (by decide) (by decide)) mt_52 (Nat.le_of_ble_eq_true rfl) (Nat.le_of_ble_eq_true rfl) (V_blocks hH _ (by omega) hT hk hn) ?_
  rw [show ((2 + 2 * (m % 31) : Nat) : Int) + 1 = ((2 + 2 * (m % 31) + 1 : Nat) : Int) from rfl]
  refine w_cv rfl (by decide) (by first | omega | (simp only [Int.toNat_natCast, upF_2] at *; omega)) rfl (VH_ob hH).choose_spec mt_60 (Nat.le_of_ble_eq_true rfl) (Nat.le_of_ble_eq_true rfl) (V_st _ hH (at_ := 2 + 2 * (m % 31) + 1) (wd := 1) (by omega) (by omega) (by omega) (by omega) (fun i h1 _ => by rw [putK_at, if_neg (by omega)]; exact z1 i (by omega))) ?_
  rintro _ _ ⟨rfl, hH⟩
  refine ⟨none, rfl, ?_⟩
  refine w_iinc rfl rfl (by decide) ?_
  refine w_iinc rfl rfl (by decide) ?_
  refine w_goto rfl ?_
  refine kk _ _ ?_
  have e2 : putK (putK (ixF x y N (31 * (m / 31)) (m % 31)) (2 + 2 * (m % 31)) k 1) (2 + 2 * (m % 31) + 1) (nb ρ k) 1 = ixF x y N (31 * (m / 31)) (m % 31 + 1) := by
    unfold ixF
    rw [ixG_s, show 31 * (m / 31) + m % 31 = m by omega, hx, hy]
  rw [e2, wBl_s (by decide)] at hH
  rw [wN_s (by decide), ← Nat.add_assoc]
  exact hH
theorem V_ix_l (d : Nat) (hd : 5 ≤ d) (oR : c.1 R0 = some (6, 0)) (r0 : c.2.1 6 0 0 = .ref T0) (r1 : c.2.1 6 0 1 = .ref V0) {e : Nat} {N : Int} (oD : c.1 D0 = some (14, e)) (d5 : c.2.1 14 e 5 = vI N) {bs tb : Int} (hB : (c.2.1 14 e 3 = .null ∧ bs = -1 ∧ tb = -1) ∨ ∃ D1 e1 : Nat, c.2.1 14 e 3 = .ref D1 ∧ c.1 D1 = some (14, e1) ∧ c.2.1 14 e1 0 = vI e1 ∧ c.2.1 14 e1 2 = vI tb ∧ bs = e1) (hP : TP T0 N0 c ρ na) (hT : TreeOk ρ) (t1 : -1 ≤ tb) (t2 : tb ≤ 1000000) {x y : Nat → Int} (hx : ∀ k, k < 256 → chS ρ tb k → x (cnt (chS ρ tb) 0 k) = k ∧ y (cnt (chS ρ tb) 0 k) = nb ρ k) (hN : N = cnt (chS ρ tb) 0 256) (hw : wrO cap (fi + wN 31 (cnt (chS ρ tb) 0 256)) ≤ 4000) : ∀ (n k m : Nat) (H : AH) (u4 u5 : Option Value), k + n = 256 → m = cnt (chS ρ tb) 0 k → VH b V0 Z g c nc ns cap (fi + wN 31 m) (wBl 31 (ixF x y N) bl fi m) sp ls H → Wp b L xs d mi_62 4 [some (.ref R0), some (.ref D0), some (vI m), some (vI k), u4, u5] [] H (fun h' o => o = .inl none ∧ VH b V0 Z g c nc ns cap (fi + wN 31 (cnt (chS ρ tb) 0 256)) (wBl 31 (ixF x y N) bl fi (cnt (chS ρ tb) 0 256)) sp ls h') := by
  have oT := hP.1
  intro n
  induction n with
  | zero =>
    intro k m H u4 u5 hk hm hH
    obtain rfl : k = 256 := hk
    rw [hm] at hH
    refine w_iload_n rfl rfl ?_
    refine w_sipush rfl rfl ?_
    refine w_icge_t rfl (by omega) (by omega) (by omega) (by omega) (by first | omega | (simp only [Int.toNat_natCast, upF_2] at *; omega)) ?_
    refine w_return rfl rfl ?_
    exact ⟨rfl, hH⟩
  | succ n ih =>
    intro k m H u4 u5 hk hm hH
    have hc4 := (VH_cap hH).1
    have q1 := cnt_snoc (chS ρ tb) k
    have q2 := cnt_add (chS ρ tb) (k + 1) 0 n
    rw [show k + 1 + n = 256 by omega] at q2
    have q3 : cnt (chS ρ tb) 0 256 ≤ 256 := cnt_le _ _ _
    rcases V_chg (L := L) (xs := xs) hH hP hT (d - 1) (by omega) (n := k) t1 t2 (by omega) with ⟨hc, a, hn, w⟩ | ⟨hc, w⟩
    · rw [if_pos hc] at q1
      have oA := hn.2.2.1
      have hxk := hx k (by omega) hc
      rw [← hm] at hxk
      have wl : wrO cap (fi + m / 31 + 1) ≤ 4000 := Nat.le_trans (wrO_le hc4 (by rw [wN_31]; omega)) hw
      by_cases e0 : m % 31 = 0
      · have e1 : wN 31 m = m / 31 := wN_0 (by decide) e0
        rw [e1] at hH
        have e2 : min (31 : Int) (N - (m : Int)) = min 31 (N - ((31 * (m / 31) : Nat) : Int)) := by rw [show 31 * (m / 31) = m by omega]
        have e3 : 0 ≤ min (31 : Int) (N - ((31 * (m / 31) : Nat) : Int)) ∧ min (31 : Int) (N - ((31 * (m / 31) : Nat) : Int)) ≤ 31 := by omega
        refine w_iload_n rfl rfl ?_
        refine w_sipush rfl rfl ?_
        refine w_icge_f rfl (by omega) (by omega) (by omega) (by omega) (by first | omega | (simp only [Int.toNat_natCast, upF_2] at *; omega)) ?_
        refine w_aload_n rfl rfl ?_
        refine w_getfield rfl (VH_at hH oR (by decide) (by decide) (by decide)) rfl ?_
        rw [r0]
        refine w_iload_n rfl rfl ?_
        refine w_aload_n rfl rfl ?_
        refine w_cvV rfl (by decide) (by first | omega | (simp only [Int.toNat_natCast, upF_2] at *; omega)) rfl (VH_at hH oD (by decide) (by decide) (by decide)) mt_46 (Nat.le_of_ble_eq_true rfl) (Nat.le_of_ble_eq_true rfl) (V_since hH _ oD hB) ?_
        refine w_cvV rfl (by decide) (by first | omega | (simp only [Int.toNat_natCast, upF_2] at *; omega)) rfl (VH_at hH oT (by decide) (by decide) (by decide)) mt_48 (Nat.le_of_ble_eq_true rfl) (Nat.le_of_ble_eq_true rfl) w ?_
        refine w_astore rfl (by decide) ?_
        refine w_aload rfl rfl ?_
        refine w_ifnull_r rfl ?_
        refine w_iload_n rfl rfl ?_
        refine w_bipush rfl rfl ?_
        refine w_irem rfl (by first | omega | (simp only [Int.toNat_natCast, upF_2] at *; omega)) (by first | omega | (simp only [Int.toNat_natCast, upF_2] at *; omega)) (by first | omega | (simp only [Int.toNat_natCast, upF_2] at *; omega)) (by first | omega | (simp only [Int.toNat_natCast, upF_2] at *; omega)) ?_
        refine w_ifne_f rfl (by omega) (by omega) (by first | omega | (simp only [Int.toNat_natCast, upF_2] at *; omega)) ?_
        refine w_aload_n rfl rfl ?_
        refine w_getfield rfl (VH_at hH oR (by decide) (by decide) (by decide)) rfl ?_
        rw [r1]
        refine w_cv rfl (by decide) (by first | omega | (simp only [Int.toNat_natCast, upF_2] at *; omega)) rfl (VH_ob hH).choose_spec mt_56 (Nat.le_of_ble_eq_true rfl) (Nat.le_of_ble_eq_true rfl) (V_app _ (by omega) hH wl) ?_
        rintro _ _ ⟨rfl, hH⟩
        refine ⟨none, rfl, ?_⟩
        refine w_aload_n rfl rfl ?_
        refine w_getfield rfl (VH_at hH oR (by decide) (by decide) (by decide)) rfl ?_
        rw [r1]
        refine w_iconst rfl ?_
        refine w_iconst rfl ?_
        refine w_bipush rfl rfl ?_
        refine w_cv rfl (by decide) (by first | omega | (simp only [Int.toNat_natCast, upF_2] at *; omega)) rfl (VH_ob hH).choose_spec mt_60 (Nat.le_of_ble_eq_true rfl) (Nat.le_of_ble_eq_true rfl) (V_st _ hH (at_ := 0) (wd := 1) (by omega) (by omega) (by omega) (by omega) (fun i _ _ => by (repeat rw [putK_at, if_neg (by omega)]); rfl)) ?_
        rintro _ _ ⟨rfl, hH⟩
        refine ⟨none, rfl, ?_⟩
        refine w_aload_n rfl rfl ?_
        refine w_getfield rfl (VH_at hH oR (by decide) (by decide) (by decide)) rfl ?_
        rw [r1]
        refine w_iconst rfl ?_
        refine w_iconst rfl ?_
        refine w_bipush rfl rfl ?_
        refine w_aload_n rfl rfl ?_
        refine w_getfield rfl (VH_at hH oD (by decide) (by decide) (by decide)) rfl ?_
        rw [d5]
        refine w_iload_n rfl rfl ?_
        refine w_isub rfl ?_
        refine w_min rfl (by first | omega | (simp only [Int.toNat_natCast, upF_2] at *; omega)) (Nat.le_of_ble_eq_true rfl) (by omega) (by omega) (by omega) (by omega) ?_
        rw [e2]
        refine w_cv rfl (by decide) (by first | omega | (simp only [Int.toNat_natCast, upF_2] at *; omega)) rfl (VH_ob hH).choose_spec mt_60 (Nat.le_of_ble_eq_true rfl) (Nat.le_of_ble_eq_true rfl) (V_st _ hH (at_ := 1) (wd := 1) e3.1 (by omega) (by omega) (by omega) (fun i _ _ => by (repeat rw [putK_at, if_neg (by omega)]); rfl)) ?_
        rintro _ _ ⟨rfl, hH⟩
        refine ⟨none, rfl, ?_⟩
        refine V_ix75 (y := y) d hd oR r0 r1 hT (by omega) (by omega) hn hxk.1 hxk.2 ?_ (fun H u5 hH => ih (k + 1) (m + 1) _ _ _ (by omega) (by omega) hH)
        rw [e0]
        exact hH
      · have e1 : wN 31 m = m / 31 + 1 := wN_1 (by decide) e0
        refine w_iload_n rfl rfl ?_
        refine w_sipush rfl rfl ?_
        refine w_icge_f rfl (by omega) (by omega) (by omega) (by omega) (by first | omega | (simp only [Int.toNat_natCast, upF_2] at *; omega)) ?_
        refine w_aload_n rfl rfl ?_
        refine w_getfield rfl (VH_at hH oR (by decide) (by decide) (by decide)) rfl ?_
        rw [r0]
        refine w_iload_n rfl rfl ?_
        refine w_aload_n rfl rfl ?_
        refine w_cvV rfl (by decide) (by first | omega | (simp only [Int.toNat_natCast, upF_2] at *; omega)) rfl (VH_at hH oD (by decide) (by decide) (by decide)) mt_46 (Nat.le_of_ble_eq_true rfl) (Nat.le_of_ble_eq_true rfl) (V_since hH _ oD hB) ?_
        refine w_cvV rfl (by decide) (by first | omega | (simp only [Int.toNat_natCast, upF_2] at *; omega)) rfl (VH_at hH oT (by decide) (by decide) (by decide)) mt_48 (Nat.le_of_ble_eq_true rfl) (Nat.le_of_ble_eq_true rfl) w ?_
        refine w_astore rfl (by decide) ?_
        refine w_aload rfl rfl ?_
        refine w_ifnull_r rfl ?_
        refine w_iload_n rfl rfl ?_
        refine w_bipush rfl rfl ?_
        refine w_irem rfl (by first | omega | (simp only [Int.toNat_natCast, upF_2] at *; omega)) (by first | omega | (simp only [Int.toNat_natCast, upF_2] at *; omega)) (by first | omega | (simp only [Int.toNat_natCast, upF_2] at *; omega)) (by first | omega | (simp only [Int.toNat_natCast, upF_2] at *; omega)) ?_
        refine w_ifne_t rfl (by omega) (by omega) (by first | omega | (simp only [Int.toNat_natCast, upF_2] at *; omega)) ?_
        refine V_ix75 (y := y) d hd oR r0 r1 hT (by omega) (by omega) hn hxk.1 hxk.2 ?_ (fun H u5 hH => ih (k + 1) (m + 1) _ _ _ (by omega) (by omega) hH)
        rw [e1, ← Nat.add_assoc] at hH
        rw [← wBl_last (n := 31) (by decide) (ixF x y N) bl fi m e0, bset_self]
        exact hH
    · rw [if_neg hc, Nat.add_zero] at q1
      refine w_iload_n rfl rfl ?_
      refine w_sipush rfl rfl ?_
      refine w_icge_f rfl (by omega) (by omega) (by omega) (by omega) (by first | omega | (simp only [Int.toNat_natCast, upF_2] at *; omega)) ?_
      refine w_aload_n rfl rfl ?_
      refine w_getfield rfl (VH_at hH oR (by decide) (by decide) (by decide)) rfl ?_
      rw [r0]
      refine w_iload_n rfl rfl ?_
      refine w_aload_n rfl rfl ?_
      refine w_cvV rfl (by decide) (by first | omega | (simp only [Int.toNat_natCast, upF_2] at *; omega)) rfl (VH_at hH oD (by decide) (by decide) (by decide)) mt_46 (Nat.le_of_ble_eq_true rfl) (Nat.le_of_ble_eq_true rfl) (V_since hH _ oD hB) ?_
      refine w_cvV rfl (by decide) (by first | omega | (simp only [Int.toNat_natCast, upF_2] at *; omega)) rfl (VH_at hH oT (by decide) (by decide) (by decide)) mt_48 (Nat.le_of_ble_eq_true rfl) (Nat.le_of_ble_eq_true rfl) w ?_
      refine w_astoreQ (x := none) rfl (by decide) ?_
      refine w_aloadQ (x := none) rfl rfl ?_
      refine w_ifnull_n rfl ?_
      refine w_iinc rfl rfl (by decide) ?_
      refine w_goto rfl ?_
      exact ih (k + 1) m _ _ _ (by omega) (by omega) hH
theorem V_ix (hH : VH b V0 Z g c nc ns cap fi bl sp ls H) (d : Nat) (hd : 5 ≤ d) (oR : c.1 R0 = some (6, 0)) (r0 : c.2.1 6 0 0 = .ref T0) (r1 : c.2.1 6 0 1 = .ref V0) {e : Nat} {N : Int} (oD : c.1 D0 = some (14, e)) (d5 : c.2.1 14 e 5 = vI N) {bs tb : Int} (hB : (c.2.1 14 e 3 = .null ∧ bs = -1 ∧ tb = -1) ∨ ∃ D1 e1 : Nat, c.2.1 14 e 3 = .ref D1 ∧ c.1 D1 = some (14, e1) ∧ c.2.1 14 e1 0 = vI e1 ∧ c.2.1 14 e1 2 = vI tb ∧ bs = e1) (hP : TP T0 N0 c ρ na) (hT : TreeOk ρ) (t1 : -1 ≤ tb) (t2 : tb ≤ 1000000) {x y : Nat → Int} (hx : ∀ k, k < 256 → chS ρ tb k → x (cnt (chS ρ tb) 0 k) = k ∧ y (cnt (chS ρ tb) 0 k) = nb ρ k) (hN : N = cnt (chS ρ tb) 0 256) (hw : wrO cap (fi + wN 31 (cnt (chS ρ tb) 0 256)) ≤ 4000) : Wp b L xs d mi_62 0 (ent (mL mi_62) [.ref R0, .ref D0]) [] H (fun h' o => o = .inl none ∧ VH b V0 Z g c nc ns cap (fi + wN 31 (cnt (chS ρ tb) 0 256)) (wBl 31 (ixF x y N) bl fi (cnt (chS ρ tb) 0 256)) sp ls h') := by
  refine w_iconst rfl ?_
  refine w_istore_n rfl (by decide) ?_
  refine w_iconst rfl ?_
  refine w_istore_n rfl (by decide) ?_
  refine V_ix_l d hd oR r0 r1 oD d5 hB hP hT t1 t2 hx hN hw 256 0 0 H _ _ rfl rfl ?_
  rw [wBl_0]
  exact hH
theorem V_oc_l (d : Nat) (hd : 5 ≤ d) (oR : c.1 R0 = some (6, 0)) (r0 : c.2.1 6 0 0 = .ref T0) (r1 : c.2.1 6 0 1 = .ref V0) {n a sz : Nat} (oA : c.1 a = some (12, n)) (f4 : c.2.1 12 n 4 = vI sz) (hs : ρ.2 4 0 n = sz) (hs2 : sz ≤ 512) {oc : Option Nat} {dt : Nat → Int} (hO : OctOk c ρ oc dt n) (hb : ∀ o, oc = some o → o ≠ b) (hw : wrO cap (fi + wN 64 sz) ≤ 4000) : ∀ (m k : Nat) (H : AH), k + m = sz → VH b V0 Z g c nc ns cap (fi + wN 64 k) (wBl 64 (fun s m => ocB (fun i => ρ.2 6 n i % 256) zB 0 s m) bl fi k) sp ls H → Wp b L xs d mi_65 11 [some (.ref R0), some (.ref a), some (vI k)] [] H (fun h' o => o = .inl none ∧ VH b V0 Z g c nc ns cap (fi + wN 64 sz) (wBl 64 (fun s m => ocB (fun i => ρ.2 6 n i % 256) zB 0 s m) bl fi sz) sp ls h') := by
  intro m
  induction m with
  | zero =>
    intro k H hk hH
    obtain rfl : k = sz := hk
    refine w_iload_n rfl rfl ?_
    refine w_aload_n rfl rfl ?_
    refine w_getfield rfl (VH_at hH oA (by decide) (by decide) (by decide)) rfl ?_
    rw [f4]
    refine w_icge_t rfl (by omega) (by omega) (by omega) (by omega) (by first | omega | (simp only [Int.toNat_natCast, upF_2] at *; omega)) ?_
    refine w_return rfl rfl ?_
    exact ⟨rfl, hH⟩
  | succ m ih =>
    intro k H hk hH
    have hc4 := (VH_cap hH).1
    have ek : (k : Int) % 64 = ((k % 64 : Nat) : Int) := by omega
    have x1 := Int.emod_nonneg (ρ.2 6 n k) (show (256 : Int) ≠ 0 by decide)
    have x2 := Int.emod_lt_of_pos (ρ.2 6 n k) (show (0 : Int) < 256 by decide)
    have wl : wrO cap (fi + k / 64 + 1) ≤ 4000 := Nat.le_trans (wrO_le hc4 (by show _ ≤ fi + (sz + 63) / 64; omega)) hw
    by_cases e0 : k % 64 = 0
    · have e1 : wN 64 k = k / 64 := wN_0 (by decide) e0
      rw [e1] at hH
      refine w_iload_n rfl rfl ?_
      refine w_aload_n rfl rfl ?_
      refine w_getfield rfl (VH_at hH oA (by decide) (by decide) (by decide)) rfl ?_
      rw [f4]
      refine w_icge_f rfl (by omega) (by omega) (by omega) (by omega) (by first | omega | (simp only [Int.toNat_natCast, upF_2] at *; omega)) ?_
      refine w_iload_n rfl rfl ?_
      refine w_bipush rfl rfl ?_
      refine w_irem rfl (by first | omega | (simp only [Int.toNat_natCast, upF_2] at *; omega)) (by first | omega | (simp only [Int.toNat_natCast, upF_2] at *; omega)) (by first | omega | (simp only [Int.toNat_natCast, upF_2] at *; omega)) (by first | omega | (simp only [Int.toNat_natCast, upF_2] at *; omega)) ?_
      refine w_ifne_f rfl (by omega) (by omega) (by first | omega | (simp only [Int.toNat_natCast, upF_2] at *; omega)) ?_
      refine w_aload_n rfl rfl ?_
      refine w_getfield rfl (VH_at hH oR (by decide) (by decide) (by decide)) rfl ?_
      rw [r1]
      refine w_cv rfl (by decide) (by first | omega | (simp only [Int.toNat_natCast, upF_2] at *; omega)) rfl (VH_ob hH).choose_spec mt_56 (Nat.le_of_ble_eq_true rfl) (Nat.le_of_ble_eq_true rfl) (V_app _ (by omega) hH wl) ?_
      rintro H1 _ ⟨rfl, hH⟩
      refine ⟨none, rfl, ?_⟩
      have hH : VH b V0 Z g c nc ns cap (fi + k / 64 + 1) (bset (wBl 64 (fun s m => ocB (fun i => ρ.2 6 n i % 256) zB 0 s m) bl fi k) (fi + k / 64) (ocB (fun i => ρ.2 6 n i % 256) zB 0 (64 * (k / 64)) (k % 64))) sp ls H1 := by
        rw [e0]
        exact hH
      refine w_aload_n rfl rfl ?_
      refine w_getfield rfl (VH_at hH oR (by decide) (by decide) (by decide)) rfl ?_
      rw [r1]
      refine w_iload_n rfl rfl ?_
      refine w_bipush rfl rfl ?_
      refine w_irem rfl (by first | omega | (simp only [Int.toNat_natCast, upF_2] at *; omega)) (by first | omega | (simp only [Int.toNat_natCast, upF_2] at *; omega)) (by first | omega | (simp only [Int.toNat_natCast, upF_2] at *; omega)) (by first | omega | (simp only [Int.toNat_natCast, upF_2] at *; omega)) ?_
      refine w_iconst rfl ?_
      refine w_aload_n rfl rfl ?_
      refine w_iload_n rfl rfl ?_
      refine w_cvV rfl (by decide) (by first | omega | (simp only [Int.toNat_natCast, upF_2] at *; omega)) rfl (VH_at hH oA (by decide) (by decide) (by decide)) mt_66 (Nat.le_of_ble_eq_true rfl) (Nat.le_of_ble_eq_true rfl) (V_oct hH _ oA hO hb (by omega) (by omega)) ?_
      rw [ek]
      refine w_cv rfl (by decide) (by first | omega | (simp only [Int.toNat_natCast, upF_2] at *; omega)) rfl (VH_ob hH).choose_spec mt_60 (Nat.le_of_ble_eq_true rfl) (Nat.le_of_ble_eq_true rfl) (V_st _ hH (at_ := k % 64) (wd := 1) x1 (by omega) (by omega) (by omega) (fun i h1 _ => by rw [ocB_z _ _ _ _ _ _ (by omega)]; rfl)) ?_
      rintro _ _ ⟨rfl, hH⟩
      refine ⟨none, rfl, ?_⟩
      refine w_iinc rfl rfl (by decide) ?_
      refine w_goto rfl ?_
      refine ih (k + 1) _ (by omega) ?_
      rw [show putK (ocB (fun i => ρ.2 6 n i % 256) zB 0 (64 * (k / 64)) (k % 64)) (k % 64) (ρ.2 6 n k % 256) 1 = (fun s m => ocB (fun i => ρ.2 6 n i % 256) zB 0 s m) (64 * (k / 64)) (k % 64 + 1) from by
        dsimp only
        rw [ocB_s, Nat.zero_add, show 64 * (k / 64) + k % 64 = k by omega], wBl_s (by decide)] at hH
      rw [wN_s (by decide), ← Nat.add_assoc]
      exact hH
    · have e1 : wN 64 k = k / 64 + 1 := wN_1 (by decide) e0
      have hH : VH b V0 Z g c nc ns cap (fi + k / 64 + 1) (bset (wBl 64 (fun s m => ocB (fun i => ρ.2 6 n i % 256) zB 0 s m) bl fi k) (fi + k / 64) (ocB (fun i => ρ.2 6 n i % 256) zB 0 (64 * (k / 64)) (k % 64))) sp ls H := by
        have e2 := wBl_last (n := 64) (by decide) (fun s m => ocB (fun i => ρ.2 6 n i % 256) zB 0 s m) bl fi k e0
        rw [← e2, bset_self]
        rw [e1, ← Nat.add_assoc] at hH
        exact hH
      refine w_iload_n rfl rfl ?_
      refine w_aload_n rfl rfl ?_
      refine w_getfield rfl (VH_at hH oA (by decide) (by decide) (by decide)) rfl ?_
      rw [f4]
      refine w_icge_f rfl (by omega) (by omega) (by omega) (by omega) (by first | omega | (simp only [Int.toNat_natCast, upF_2] at *; omega)) ?_
      refine w_iload_n rfl rfl ?_
      refine w_bipush rfl rfl ?_
      refine w_irem rfl (by first | omega | (simp only [Int.toNat_natCast, upF_2] at *; omega)) (by first | omega | (simp only [Int.toNat_natCast, upF_2] at *; omega)) (by first | omega | (simp only [Int.toNat_natCast, upF_2] at *; omega)) (by first | omega | (simp only [Int.toNat_natCast, upF_2] at *; omega)) ?_
      refine w_ifne_t rfl (by omega) (by omega) (by first | omega | (simp only [Int.toNat_natCast, upF_2] at *; omega)) ?_
      refine w_aload_n rfl rfl ?_
      refine w_getfield rfl (VH_at hH oR (by decide) (by decide) (by decide)) rfl ?_
      rw [r1]
      refine w_iload_n rfl rfl ?_
      refine w_bipush rfl rfl ?_
      refine w_irem rfl (by first | omega | (simp only [Int.toNat_natCast, upF_2] at *; omega)) (by first | omega | (simp only [Int.toNat_natCast, upF_2] at *; omega)) (by first | omega | (simp only [Int.toNat_natCast, upF_2] at *; omega)) (by first | omega | (simp only [Int.toNat_natCast, upF_2] at *; omega)) ?_
      refine w_iconst rfl ?_
      refine w_aload_n rfl rfl ?_
      refine w_iload_n rfl rfl ?_
      refine w_cvV rfl (by decide) (by first | omega | (simp only [Int.toNat_natCast, upF_2] at *; omega)) rfl (VH_at hH oA (by decide) (by decide) (by decide)) mt_66 (Nat.le_of_ble_eq_true rfl) (Nat.le_of_ble_eq_true rfl) (V_oct hH _ oA hO hb (by omega) (by omega)) ?_
      rw [ek]
      refine w_cv rfl (by decide) (by first | omega | (simp only [Int.toNat_natCast, upF_2] at *; omega)) rfl (VH_ob hH).choose_spec mt_60 (Nat.le_of_ble_eq_true rfl) (Nat.le_of_ble_eq_true rfl) (V_st _ hH (at_ := k % 64) (wd := 1) x1 (by omega) (by omega) (by omega) (fun i h1 _ => by rw [ocB_z _ _ _ _ _ _ (by omega)]; rfl)) ?_
      rintro _ _ ⟨rfl, hH⟩
      refine ⟨none, rfl, ?_⟩
      refine w_iinc rfl rfl (by decide) ?_
      refine w_goto rfl ?_
      refine ih (k + 1) _ (by omega) ?_
      rw [show putK (ocB (fun i => ρ.2 6 n i % 256) zB 0 (64 * (k / 64)) (k % 64)) (k % 64) (ρ.2 6 n k % 256) 1 = (fun s m => ocB (fun i => ρ.2 6 n i % 256) zB 0 s m) (64 * (k / 64)) (k % 64 + 1) from by
        dsimp only
        rw [ocB_s, Nat.zero_add, show 64 * (k / 64) + k % 64 = k by omega], wBl_s (by decide)] at hH
      rw [wN_s (by decide), ← Nat.add_assoc]
      exact hH
theorem V_ocs (hH : VH b V0 Z g c nc ns cap fi bl sp ls H) (d : Nat) (hd : 5 ≤ d) (oR : c.1 R0 = some (6, 0)) (r0 : c.2.1 6 0 0 = .ref T0) (r1 : c.2.1 6 0 1 = .ref V0) {n a sz : Nat} (oA : c.1 a = some (12, n)) (f1 : c.2.1 12 n 1 = vI 1) (f4 : c.2.1 12 n 4 = vI sz) (hs : ρ.2 4 0 n = sz) (hs2 : sz ≤ 512) {oc : Option Nat} {dt : Nat → Int} (hO : OctOk c ρ oc dt n) (hb : ∀ o, oc = some o → o ≠ b) (hw : wrO cap (fi + wN 64 sz) ≤ 4000) : Wp b L xs d mi_65 0 (ent (mL mi_65) [.ref R0, .ref a]) [] H (fun h' o => o = .inl none ∧ VH b V0 Z g c nc ns cap (fi + wN 64 sz) (wBl 64 (fun s m => ocB (fun i => ρ.2 6 n i % 256) zB 0 s m) bl fi sz) sp ls h') := by
  refine w_aload_n rfl rfl ?_
  refine w_getfield rfl (VH_at hH oA (by decide) (by decide) (by decide)) rfl ?_
  rw [f1]
  refine w_iconst rfl ?_
  refine w_iceq_t rfl (by omega) (by omega) (by omega) (by omega) (by first | omega | (simp only [Int.toNat_natCast, upF_2] at *; omega)) ?_
  refine w_iconst rfl ?_
  refine w_istore_n rfl (by decide) ?_
  refine V_oc_l d hd oR r0 r1 oA f4 hs hs2 hO hb hw sz 0 H (Nat.zero_add _) ?_
  rw [wBl_0]
  exact hH
theorem V_ocs2 (hH : VH b V0 Z g c nc ns cap fi bl sp ls H) (d : Nat) {n a : Nat} (oA : c.1 a = some (12, n)) (f1 : c.2.1 12 n 1 = vI 2) : Wp b L xs d mi_65 0 (ent (mL mi_65) [.ref R0, .ref a]) [] H (fun h' o => o = .inl none ∧ VH b V0 Z g c nc ns cap fi bl sp ls h') := by
  refine w_aload_n rfl rfl ?_
  refine w_getfield rfl (VH_at hH oA (by decide) (by decide) (by decide)) rfl ?_
  rw [f1]
  refine w_iconst rfl ?_
  refine w_iceq_f rfl (by omega) (by omega) (by omega) (by omega) (by first | omega | (simp only [Int.toNat_natCast, upF_2] at *; omega)) ?_
  refine w_return rfl rfl ?_
  exact ⟨rfl, hH⟩
end Cw2
