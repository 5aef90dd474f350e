/-! the tree's writers: octets, and anew -/
theorem sb_c {x y : Int} (h : x % 256 = y % 256) : sb (sb x) = sb y := by
  unfold sb
  omega
def soC (c : CS) (n at_ : Nat) (v : Int64) : Nat → Nat → CS
  | _, 0 => c
  | i, m + 1 => soC (upC c 13 n (at_ + i) (vI (sb (by8 v i)))) n at_ v (i + 1) m
theorem soC_1 (n at_ : Nat) (v : Int64) : ∀ (m i : Nat) (c : CS), (soC c n at_ v i m).1 = c.1
  | 0, _, _ => rfl
  | m + 1, i, c => soC_1 n at_ v m (i + 1) _
theorem soC_l (n at_ : Nat) (v : Int64) : ∀ (m i : Nat) (c : CS), (soC c n at_ v i m).2.2 = c.2.2
  | 0, _, _ => rfl
  | m + 1, i, c => soC_l n at_ v m (i + 1) _
theorem soC_k {n at_ : Nat} {v : Int64} {k j f : Nat} (hk : ¬ (k = 13 ∧ j = n)) : ∀ (m i : Nat) (c : CS), (soC c n at_ v i m).2.1 k j f = c.2.1 k j f
  | 0, _, _ => rfl
  | m + 1, i, c => (soC_k hk m (i + 1) _).trans (upC_ne (fun z => hk ⟨z.1, z.2.1⟩))
theorem soC_g {n at_ : Nat} {v : Int64} {j : Nat} : ∀ (m i : Nat) (c : CS), (soC c n at_ v i m).2.1 13 n j = if at_ + i ≤ j ∧ j < at_ + i + m then vI (sb (by8 v (j - at_))) else c.2.1 13 n j
  | 0, i, c => by rw [if_neg (by omega)]; rfl
  | m + 1, i, c => by
    show (soC (upC c 13 n (at_ + i) (vI (sb (by8 v i)))) n at_ v (i + 1) m).2.1 13 n j = _
    rw [soC_g m (i + 1)]
    by_cases e : at_ + (i + 1) ≤ j ∧ j < at_ + (i + 1) + m
    · rw [if_pos e, if_pos (by omega)]
    · rw [if_neg e]
      by_cases e2 : j = at_ + i
      · subst e2
        rw [if_pos (by omega), upC_eq, Nat.add_sub_cancel_left]
      · rw [if_neg (by omega), upC_ne (by omega)]
def stC (c : CS) (n at_ : Nat) (v : Int64) (sz : Int) : CS := upC (soC c n at_ v 0 8) 12 n 4 (vI (max sz (at_ + 8)))
def nwO (c : CS) (a n : Nat) : CS := upC (nwC c a 13 n (fun _ => vI 0) c.2.2) 12 n 6 (.ref a)
def nulC (c : CS) (k : Nat) : CS := (c.1, fun k' i' => if k' = 2 ∧ i' = 0 then (fun j => if j < k then .null else c.2.1 2 0 j) else c.2.1 k' i', c.2.2)
theorem nulC_s (c : CS) (k : Nat) : upC (nulC c k) 2 0 k .null = nulC c (k + 1) := by
  refine Prod.ext rfl (Prod.ext (funext fun k' => funext fun i' => ?_) rfl)
  show (if k' = 2 ∧ i' = 0 then upV (fun j => if j < k then .null else c.2.1 2 0 j) k .null else if k' = 2 ∧ i' = 0 then _ else c.2.1 k' i') = (if k' = 2 ∧ i' = 0 then (fun j => if j < k + 1 then .null else c.2.1 2 0 j) else c.2.1 k' i')
  by_cases e : k' = 2 ∧ i' = 0
  · rw [if_pos e, if_pos e]
    funext j
    unfold upV
    by_cases e2 : j = k
    · rw [if_pos e2, if_pos (by omega)]
    · rw [if_neg e2]
      dsimp only
      by_cases e3 : j < k
      · rw [if_pos e3, if_pos (by omega)]
      · rw [if_neg e3, if_neg (by omega)]
  · rw [if_neg e, if_neg e, if_neg e]
theorem nulC_0 (c : CS) : nulC c 0 = c := by
  refine Prod.ext rfl (Prod.ext (funext fun k' => funext fun i' => ?_) rfl)
  show (if k' = 2 ∧ i' = 0 then (fun j => if j < 0 then .null else c.2.1 2 0 j) else c.2.1 k' i') = c.2.1 k' i'
  by_cases e : k' = 2 ∧ i' = 0
  · rw [if_pos e, e.1, e.2]
    funext j
    rw [if_neg (by omega)]
  · rw [if_neg e]
def clC (c : CS) (a : Nat) : CS := upC (upC (upC (upC (upC (nwC (nulC c 256) a 12 0 nd0 c.2.2) 12 0 0 (vI 0)) 12 0 1 (vI 2)) 2 0 0 (.ref a)) 1 0 1 (vI 1)) 1 0 2 (vI 0)
section Ce3
variable {b L V0 : Nat} {xs : Nat → Int32} {Z : Nat → Prop} {g : Nat → Option AO} {c : CS} {nc ns cap fi : Nat} {bl : Nat → Nat → Int} {sp ls : Nat → Int} {H : AH} {ρ : RS} {na : Nat → Option Nat} {T0 N0 R0 D0 : Nat}
theorem V_so_l (d : Nat) {n a o at_ : Nat} {v : Int64} {sz : Int} (ha : at_ ≤ 504) (hob : o ≠ b) (z1 : 0 ≤ sz) (z2 : sz ≤ 512) (hd : 1 ≤ d) : ∀ (m i : Nat) (c : CS) (H : AH), i + m = 8 → c.1 a = some (12, n) → c.1 o = some (13, n) → c.2.1 12 n 6 = .ref o → c.2.1 12 n 4 = vI sz → VH b V0 Z g c nc ns cap fi bl sp ls H → Wp b L xs d mi_28 19 [some (.ref a), some (vI at_), some (.long v), none, some (vI i)] [] H (fun h' o => o = .inl none ∧ h'.1 = H.1 ∧ VH b V0 Z g (upC (soC c n at_ v i m) 12 n 4 (vI (max sz (at_ + 8)))) nc ns cap fi bl sp ls h') := by
  intro m
  induction m with
  | zero =>
    intro i c H hi oA oO f6 f4 hH
    obtain rfl : i = 8 := hi
    refine w_iload rfl rfl ?_
    refine w_bipush rfl rfl ?_
    refine w_icge_t rfl (by omega) (by omega) (by omega) (by omega) (by omega) ?_
    refine w_aload_n rfl rfl ?_
    refine w_aload_n rfl rfl ?_
    refine w_getfield rfl (VH_at hH oA (by decide) (by decide) (by decide)) rfl ?_
    rw [f4]
    refine w_iload_n rfl rfl ?_
    refine w_bipush rfl rfl ?_
    refine w_iadd rfl ?_
    refine w_max rfl (by omega) (Nat.le_of_ble_eq_true rfl) (by omega) (by omega) (by omega) (by omega) ?_
    refine v_put hH rfl oA (by decide) (by decide) (by decide) rfl rfl rfl rfl ?_
    intro H1 eH1 hH
    refine w_return rfl rfl ?_
    exact ⟨rfl, eH1, hH⟩
  | succ m ih =>
    intro i c H hi oA oO f6 f4 hH
    have e1 : ((at_ : Int) + (i : Int)).toNat = at_ + i := by omega
    refine w_iload rfl rfl ?_
    refine w_bipush rfl rfl ?_
    refine w_icge_f rfl (by omega) (by omega) (by omega) (by omega) (by omega) ?_
    refine w_iload_n rfl rfl ?_
    refine w_iload rfl rfl ?_
    refine w_iadd rfl ?_
    refine w_aload_n rfl rfl ?_
    refine w_getfield rfl (VH_at hH oA (by decide) (by decide) (by decide)) rfl ?_
    rw [f6]
    refine v_alen hH rfl hob oO (by decide) (by decide) (by decide) rfl ?_
    refine w_icge_f rfl (by omega) (by omega) (by omega) (by omega) (by omega) ?_
    refine w_aload_n rfl rfl ?_
    refine w_getfield rfl (VH_at hH oA (by decide) (by decide) (by decide)) rfl ?_
    rw [f6]
    refine w_iload_n rfl rfl ?_
    refine w_iload rfl rfl ?_
    refine w_iadd rfl ?_
    refine w_lload_n rfl rfl ?_
    refine w_bipush rfl rfl ?_
    refine w_bipush rfl rfl ?_
    refine w_iload rfl rfl ?_
    refine w_isub rfl ?_
    refine w_imul rfl ?_
    refine w_lushrS (s := 56 - 8 * i) rfl (by omega) ?_
    refine w_l2iJ rfl ?_
    refine w_i2b rfl ?_
    refine v_bastore hH rfl oO (by decide) (by decide) (by decide) (fun _ => rfl) (by omega) (by omega) (by decide) ?_
    intro H1 eH1 hH
    rw [e1, sb_c (y := (by8 v i : Int)) (by rw [ushr_lo v (k := i) (by omega) rfl]; have := by8_lt v i; omega)] at hH
    refine w_iinc rfl rfl (by decide) ?_
    refine w_goto rfl ?_
    rw [← eH1]
    exact ih (i + 1) _ _ (by omega) oA oO (by rw [upC_ne (by omega)]; exact f6) (by rw [upC_ne (by omega)]; exact f4) hH
theorem V_set1 (hH : VH b V0 Z g c nc ns cap fi bl sp ls H) (d : Nat) (hd : 1 ≤ d) {n a o at_ : Nat} {v : Int64} {sz : Int} (ha : at_ ≤ 504) (hob : o ≠ b) (z1 : 0 ≤ sz) (z2 : sz ≤ 512) (oA : c.1 a = some (12, n)) (oO : c.1 o = some (13, n)) (f6 : c.2.1 12 n 6 = .ref o) (f4 : c.2.1 12 n 4 = vI sz) : Wp b L xs d mi_28 0 (ent (mL mi_28) [.ref a, vI at_, .long v]) [] H (fun h' o => o = .inl none ∧ h'.1 = H.1 ∧ VH b V0 Z g (stC c n at_ v sz) nc ns cap fi bl sp ls h') := by
  refine w_aload_n rfl rfl ?_
  refine w_getfield rfl (VH_at hH oA (by decide) (by decide) (by decide)) rfl ?_
  rw [f6]
  refine w_ifnonnull_r rfl ?_
  refine w_iconst rfl ?_
  refine w_istore rfl (by decide) ?_
  exact V_so_l d ha hob z1 z2 hd 8 0 c H rfl oA oO f6 f4 hH
theorem V_set0 (hH : VH b V0 Z g c nc ns cap fi bl sp ls H) (d : Nat) (hd : 1 ≤ d) {n a at_ : Nat} {v : Int64} {sz : Int} (ha : at_ ≤ 504) (z1 : 0 ≤ sz) (z2 : sz ≤ 512) (oA : c.1 a = some (12, n)) (f6 : c.2.1 12 n 6 = .null) (f4 : c.2.1 12 n 4 = vI sz) (hf : ∀ a, c.1 a ≠ some (13, n)) : Wp b L xs d mi_28 0 (ent (mL mi_28) [.ref a, vI at_, .long v]) [] H (fun h' o => o = .inl none ∧ h'.1 = H.1 + 1 ∧ VH b V0 Z g (stC (nwO c H.1 n) n at_ v sz) (nc + 1) (ns + 512) cap fi bl sp ls h') := by
  have fr := VH_fr hH
  refine w_aload_n rfl rfl ?_
  refine w_getfield rfl (VH_at hH oA (by decide) (by decide) (by decide)) rfl ?_
  rw [f6]
  refine w_ifnonnull_n rfl ?_
  refine w_aload_n rfl rfl ?_
  refine w_sipush rfl rfl ?_
  refine v_newarray (k := 13) (n := n) hH rfl rfl (by decide) (by decide) (by decide) (by decide) (by decide) hf rfl ?_
  intro H1 eH1 hH
  have oA1 : (nwC c H.1 13 n (fun _ => vI 0) c.2.2).1 a = some (12, n) := nw_o (fr.1 H.1 (Nat.le_refl _)).2 oA
  refine v_put hH rfl oA1 (by decide) (by decide) (by decide) rfl rfl rfl rfl ?_
  intro H2 eH2 hH
  refine w_iconst rfl ?_
  refine w_istore rfl (by decide) ?_
  refine Wp_im ?_ (V_so_l d ha (o := H.1) (by omega) z1 z2 hd 8 0 (nwO c H.1 n) H2 rfl oA1 (nw_a c H.1 13 n (fun _ => vI 0) c.2.2) (upC_eq _ _ _ _ _) (by unfold nwO; rw [upC_ne (by omega), nw_v (by omega)]; exact f4) hH)
  rintro h' o ⟨r1, r2, r3⟩
  exact ⟨r1, by omega, r3⟩
theorem V_ow1 (hH : VH b V0 Z g c nc ns cap fi bl sp ls H) (d : Nat) (hd : 2 ≤ d) {n a o at_ : Nat} {v : Int64} {sz T : Int} (ha : at_ ≤ 504) (hob : o ≠ b) (z1 : 0 ≤ sz) (z2 : sz ≤ 512) (oA : c.1 a = some (12, n)) (oO : c.1 o = some (13, n)) (f6 : c.2.1 12 n 6 = .ref o) (f4 : c.2.1 12 n 4 = vI sz) (oT : c.1 T0 = some (1, 0)) (vt : c.2.1 1 0 2 = vI T) : Wp b L xs d mi_27 0 (ent (mL mi_27) [.ref T0, .ref a, vI at_, .long v]) [] H (fun h' o => o = .inl none ∧ h'.1 = H.1 ∧ VH b V0 Z g (upC (stC (upC c 1 0 2 (vI (T + 1))) n at_ v sz) 12 n 5 (vI (T + 1))) nc ns cap fi bl sp ls h') := by
  refine w_aload_n rfl rfl ?_
  refine w_dupR rfl ?_
  refine w_getfield rfl (VH_at hH oT (by decide) (by decide) (by decide)) rfl ?_
  rw [vt]
  refine w_iconst rfl ?_
  refine w_iadd rfl ?_
  refine v_put hH rfl oT (by decide) (by decide) (by decide) rfl rfl rfl rfl ?_
  intro H1 eH1 hH
  refine w_aload_n rfl rfl ?_
  refine w_iload_n rfl rfl ?_
  refine w_lload_n rfl rfl ?_
  refine w_cv rfl (by decide) (by omega) rfl (VH_at hH oA (by decide) (by decide) (by decide)) mt_28 (Nat.le_of_ble_eq_true rfl) (Nat.le_of_ble_eq_true rfl) (V_set1 (c := upC c 1 0 2 (vI (T + 1))) hH _ (by omega) ha hob z1 z2 oA oO (by rw [upC_ne (by omega)]; exact f6) (by rw [upC_ne (by omega)]; exact f4)) ?_
  rintro H3 _ ⟨rfl, eH3, hH⟩
  refine ⟨none, rfl, ?_⟩
  have g1 : (stC (upC c 1 0 2 (vI (T + 1))) n at_ v sz).1 = c.1 := soC_1 _ _ _ _ _ _
  refine w_aload_n rfl rfl ?_
  refine w_aload_n rfl rfl ?_
  refine w_getfield rfl (VH_at hH (by rw [g1]; exact oT) (by decide) (by decide) (by decide)) rfl ?_
  rw [show (stC (upC c 1 0 2 (vI (T + 1))) n at_ v sz).2.1 1 0 2 = vI (T + 1) from by unfold stC; rw [upC_ne (by omega), soC_k (by omega), upC_eq]]
  refine v_put (k := 12) (n := n) hH rfl (by rw [g1]; exact oA) (by decide) (by decide) (by decide) rfl rfl rfl rfl ?_
  intro H5 eH5 hH
  refine w_return rfl rfl ?_
  exact ⟨rfl, by omega, hH⟩
theorem V_ow0 (hH : VH b V0 Z g c nc ns cap fi bl sp ls H) (d : Nat) (hd : 2 ≤ d) {n a at_ : Nat} {v : Int64} {sz T : Int} (ha : at_ ≤ 504) (z1 : 0 ≤ sz) (z2 : sz ≤ 512) (oA : c.1 a = some (12, n)) (f6 : c.2.1 12 n 6 = .null) (f4 : c.2.1 12 n 4 = vI sz) (hf : ∀ a, c.1 a ≠ some (13, n)) (oT : c.1 T0 = some (1, 0)) (vt : c.2.1 1 0 2 = vI T) : Wp b L xs d mi_27 0 (ent (mL mi_27) [.ref T0, .ref a, vI at_, .long v]) [] H (fun h' o => o = .inl none ∧ h'.1 = H.1 + 1 ∧ VH b V0 Z g (upC (stC (nwO (upC c 1 0 2 (vI (T + 1))) H.1 n) n at_ v sz) 12 n 5 (vI (T + 1))) (nc + 1) (ns + 512) cap fi bl sp ls h') := by
  have fr := ((VH_fr hH).1 H.1 (Nat.le_refl _)).2
  refine w_aload_n rfl rfl ?_
  refine w_dupR rfl ?_
  refine w_getfield rfl (VH_at hH oT (by decide) (by decide) (by decide)) rfl ?_
  rw [vt]
  refine w_iconst rfl ?_
  refine w_iadd rfl ?_
  refine v_put hH rfl oT (by decide) (by decide) (by decide) rfl rfl rfl rfl ?_
  intro H1 eH1 hH
  refine w_aload_n rfl rfl ?_
  refine w_iload_n rfl rfl ?_
  refine w_lload_n rfl rfl ?_
  refine w_cv rfl (by decide) (by omega) rfl (VH_at hH oA (by decide) (by decide) (by decide)) mt_28 (Nat.le_of_ble_eq_true rfl) (Nat.le_of_ble_eq_true rfl) (V_set0 (c := upC c 1 0 2 (vI (T + 1))) hH _ (by omega) ha z1 z2 oA (by rw [upC_ne (by omega)]; exact f6) (by rw [upC_ne (by omega)]; exact f4) hf) ?_
  rintro H3 _ ⟨rfl, eH3, hH⟩
  refine ⟨none, rfl, ?_⟩
  rw [eH1] at hH
  have g1 : ∀ x q, c.1 x = some q → (stC (nwO (upC c 1 0 2 (vI (T + 1))) H.1 n) n at_ v sz).1 x = some q := fun x q hx => by
    have g0 : (stC (nwO (upC c 1 0 2 (vI (T + 1))) H.1 n) n at_ v sz).1 = (nwO (upC c 1 0 2 (vI (T + 1))) H.1 n).1 := soC_1 n at_ v 8 0 _
    rw [g0]
    exact nw_o (c := upC c 1 0 2 (vI (T + 1))) (k := 13) (i := n) (v := fun _ => vI 0) (len := c.2.2) fr hx
  refine w_aload_n rfl rfl ?_
  refine w_aload_n rfl rfl ?_
  refine w_getfield rfl (VH_at hH (g1 _ _ oT) (by decide) (by decide) (by decide)) rfl ?_
  rw [show (stC (nwO (upC c 1 0 2 (vI (T + 1))) H.1 n) n at_ v sz).2.1 1 0 2 = vI (T + 1) from by unfold stC; rw [upC_ne (by omega), soC_k (by omega)]; unfold nwO; rw [upC_ne (by omega), nw_v (by omega), upC_eq]]
  refine v_put (k := 12) (n := n) hH rfl (g1 _ _ oA) (by decide) (by decide) (by decide) rfl rfl rfl rfl ?_
  intro H5 eH5 hH
  refine w_return rfl rfl ?_
  exact ⟨rfl, by omega, hH⟩
theorem V_cl_l (d : Nat) (hd : 2 ≤ d) {a0 : Nat} (oT : c.1 T0 = some (1, 0)) (vT : c.2.1 1 0 0 = .ref N0) (oN : c.1 N0 = some (2, 0)) (hNb : N0 ≠ b) (hf : ∀ a, c.1 a ≠ some (12, 0)) : ∀ (m k : Nat) (H : AH), k + m = 256 → VH b V0 Z g (nulC c k) nc ns cap fi bl sp ls H → Wp b L xs d mi_7 2 [some (.ref T0), some (vI k)] [] H (fun h' o => o = .inl none ∧ h'.1 = H.1 + 1 ∧ VH b V0 Z g (clC c H.1) (nc + 1) (ns + 9) cap fi bl sp ls h') := by
  intro m
  induction m with
  | zero =>
    intro k H hk hH
    obtain rfl : k = 256 := hk
    have fr := ((VH_fr hH).1 H.1 (Nat.le_refl _)).2
    have vT2 : (nulC c 256).2.1 1 0 0 = .ref N0 := vT
    refine w_iload_n rfl rfl ?_
    refine w_aload_n rfl rfl ?_
    refine w_getfield rfl (VH_at hH oT (by decide) (by decide) (by decide)) rfl ?_
    rw [vT2]
    refine v_alen hH rfl hNb oN (by decide) (by decide) (by decide) rfl ?_
    refine w_icge_t rfl (by omega) (by omega) (by omega) (by omega) (by omega) ?_
    refine w_aload_n rfl rfl ?_
    refine w_getfield rfl (VH_at hH oT (by decide) (by decide) (by decide)) rfl ?_
    rw [vT2]
    refine w_iconst rfl ?_
    refine v_new (v := nd0) (n := 0) (k := 12) hH rfl rfl (by decide) (by decide) (by decide) hf rfl ?_
    intro H2 eH2 hH
    refine w_dupR rfl ?_
    refine w_iconst rfl ?_
    refine w_iconst rfl ?_
    have oA : (nwC (nulC c 256) H.1 12 0 nd0 c.2.2).1 H.1 = some (12, 0) := nw_a _ _ _ _ _ _
    have oT2 : (nwC (nulC c 256) H.1 12 0 nd0 c.2.2).1 T0 = some (1, 0) := nw_o fr oT
    have oN2 : (nwC (nulC c 256) H.1 12 0 nd0 c.2.2).1 N0 = some (2, 0) := nw_o fr oN
    refine w_ci rfl (by decide) (by omega) rfl mt_8 (Nat.le_of_ble_eq_true rfl) (Nat.le_of_ble_eq_true rfl) (V_ninit hH _ (by omega) oA) ?_
    rintro H3 _ ⟨rfl, eH3, hH⟩
    refine ⟨none, rfl, ?_⟩
    refine v_aastore hH rfl oN2 (by decide) (by decide) (by decide) (fun _ => rfl) oA (by decide) (by decide) (by decide) rfl rfl (by decide) (by decide) (by decide) ?_
    intro H7 eH7 hH
    refine w_aload_n rfl rfl ?_
    refine w_iconst rfl ?_
    refine v_put hH rfl oT2 (by decide) (by decide) (by decide) rfl rfl rfl rfl ?_
    intro H8 eH8 hH
    refine w_aload_n rfl rfl ?_
    refine w_iconst rfl ?_
    refine v_put hH rfl oT2 (by decide) (by decide) (by decide) rfl rfl rfl rfl ?_
    intro H9 eH9 hH
    refine w_return rfl rfl ?_
    exact ⟨rfl, by omega, hH⟩
  | succ m ih =>
    intro k H hk hH
    have vT2 : (nulC c k).2.1 1 0 0 = .ref N0 := vT
    refine w_iload_n rfl rfl ?_
    refine w_aload_n rfl rfl ?_
    refine w_getfield rfl (VH_at hH oT (by decide) (by decide) (by decide)) rfl ?_
    rw [vT2]
    refine v_alen hH rfl hNb oN (by decide) (by decide) (by decide) rfl ?_
    refine w_icge_f rfl (by omega) (by omega) (by omega) (by omega) (by omega) ?_
    refine w_aload_n rfl rfl ?_
    refine w_getfield rfl (VH_at hH oT (by decide) (by decide) (by decide)) rfl ?_
    rw [vT2]
    refine w_iload_n rfl rfl ?_
    refine w_aconst_null rfl ?_
    refine v_aastoreN hH rfl oN (by decide) (by decide) (by decide) (fun _ => rfl) (by omega) (by omega) (by decide) ?_
    intro H7 eH7 hH
    rw [Int.toNat_natCast, nulC_s] at hH
    refine w_iinc rfl rfl (by decide) ?_
    refine w_goto rfl ?_
    rw [← eH7]
    exact ih (k + 1) _ (by omega) hH
theorem V_tclr (hH : VH b V0 Z g c nc ns cap fi bl sp ls H) (d : Nat) (hd : 2 ≤ d) (oT : c.1 T0 = some (1, 0)) (vT : c.2.1 1 0 0 = .ref N0) (oN : c.1 N0 = some (2, 0)) (hNb : N0 ≠ b) (hf : ∀ a, c.1 a ≠ some (12, 0)) : Wp b L xs d mi_7 0 (ent (mL mi_7) [.ref T0]) [] H (fun h' o => o = .inl none ∧ h'.1 = H.1 + 1 ∧ VH b V0 Z g (clC c H.1) (nc + 1) (ns + 9) cap fi bl sp ls h') := by
  refine w_iconst rfl ?_
  refine w_istore_n rfl (by decide) ?_
  exact V_cl_l d hd (a0 := 0) oT vT oN hNb hf 256 0 H rfl (by rw [nulC_0]; exact hH)
end Ce3
