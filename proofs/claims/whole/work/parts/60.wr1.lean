/-! the writer -/
theorem bset_self (bl : Nat → Nat → Int) (k : Nat) : bset bl k (bl k) = bl := by
  funext k'
  unfold bset
  by_cases e : k' = k
  · rw [if_pos e, e]
  · rw [if_neg e]
def hdT (l e t bs N : Int) : Nat → Int := putK (putK (putK (putK (putK (putK zB 0 72 1) 1 l 1) 2 e 2) 4 t 4) 8 (bs + 1) 2) 10 N 2
def fcT (n k nm pa sz st : Int) : Nat → Int := putK (putK (putK (putK (putK (putK (putK zB 0 78 1) 1 n 1) 2 k 1) 3 nm 2) 5 pa 1) 6 sz 2) 8 st 4
section Cw1
variable {b L V0 : Nat} {xs : Nat → Int32} {Z : Nat → Prop} {g : Nat → Option AO} {c : CS} {nc ns cap fi : Nat} {bl : Nat → Nat → Int} {sp ls : Nat → Int} {H : AH} {ρ : RS} {na : Nat → Option Nat} {T0 N0 R0 D0 : Nat}
theorem V_since (hH : VH b V0 Z g c nc ns cap fi bl sp ls H) (d : Nat) {e : Nat} (oD : c.1 D0 = some (14, e)) {bs tb : Int} (hB : (c.2.1 14 e 3 = .null ∧ bs = -1 ∧ tb = -1) ∨ ∃ D1 e1 : Nat, c.2.1 14 e 3 = .ref D1 ∧ c.1 D1 = some (14, e1) ∧ c.2.1 14 e1 0 = vI e1 ∧ c.2.1 14 e1 2 = vI tb ∧ bs = e1) : Wp b L xs d mi_46 0 (ent (mL mi_46) [.ref D0]) [] H (Rt H (vI tb)) := by
  rcases hB with ⟨h1, rfl, rfl⟩ | ⟨D1, e1, h1, o1, h2, h3, rfl⟩
  · refine w_aload_n rfl rfl ?_
    refine w_getfield rfl (VH_at hH oD (by decide) (by decide) (by decide)) rfl ?_
    rw [h1]
    refine w_ifnonnull_n rfl ?_
    refine w_iconst rfl ?_
    refine w_goto rfl ?_
    refine w_ireturn rfl rfl ?_
    exact ⟨rfl, rfl⟩
  · refine w_aload_n rfl rfl ?_
    refine w_getfield rfl (VH_at hH oD (by decide) (by decide) (by decide)) rfl ?_
    rw [h1]
    refine w_ifnonnull_r rfl ?_
    refine w_aload_n rfl rfl ?_
    refine w_getfield rfl (VH_at hH oD (by decide) (by decide) (by decide)) rfl ?_
    rw [h1]
    refine w_getfield rfl (VH_at hH o1 (by decide) (by decide) (by decide)) rfl ?_
    rw [h3]
    refine w_ireturn rfl rfl ?_
    exact ⟨rfl, rfl⟩
set_option maxRecDepth 50000 in
theorem V_head (hH : VH b V0 Z g c nc ns cap fi bl sp ls H) (d : Nat) (hd : 5 ≤ d) (hw : wrO cap (fi + 1) ≤ 4000) (oR : c.1 R0 = some (6, 0)) (r0 : c.2.1 6 0 0 = .ref T0) (r1 : c.2.1 6 0 1 = .ref V0) {e : Nat} {l t N : Int} (oD : c.1 D0 = some (14, e)) (d0 : c.2.1 14 e 0 = vI e) (d1 : c.2.1 14 e 1 = vI l) (d2 : c.2.1 14 e 2 = vI t) (d5 : c.2.1 14 e 5 = vI N) {bs tb : Int} (hB : (c.2.1 14 e 3 = .null ∧ bs = -1 ∧ tb = -1) ∨ ∃ D1 e1 : Nat, c.2.1 14 e 3 = .ref D1 ∧ c.1 D1 = some (14, e1) ∧ c.2.1 14 e1 0 = vI e1 ∧ c.2.1 14 e1 2 = vI tb ∧ bs = e1) (l1 : 0 ≤ l) (l2 : l ≤ 9) (e2 : e ≤ 100) (t1 : 0 ≤ t) (t2 : t ≤ 100000) (b2 : bs ≤ 100) (n1 : 0 ≤ N) (n2 : N ≤ 256) : Wp b L xs d mi_55 0 (ent (mL mi_55) [.ref R0, .ref D0]) [] H (fun h' o => o = .inl none ∧ VH b V0 Z g c nc ns cap (fi + 1) (bset bl fi (hdT l e t bs N)) sp ls h') := by
  rcases hB with ⟨h1, rfl, rfl⟩ | ⟨D1, e1, h1, o1, h2, h3, rfl⟩
  · refine w_aload_n rfl rfl ?_
    refine w_getfield rfl (VH_at hH oR (by decide) (by decide) (by decide)) rfl ?_
    rw [r1]
    refine w_cv rfl (by decide) (by first | omega | (simp only [Int.toNat_natCast, upF_2] at *; omega)) rfl (VH_ob hH).choose_spec mt_56 (Nat.le_of_ble_eq_true rfl) (Nat.le_of_ble_eq_true rfl) (V_app _ (by omega) hH (by omega)) ?_
    rintro _ _ ⟨rfl, hH⟩
    refine ⟨none, rfl, ?_⟩
    refine w_aload_n rfl rfl ?_
    refine w_getfield rfl (VH_at hH oR (by decide) (by decide) (by decide)) rfl ?_
    rw [r1]
    refine w_iconst rfl ?_
    refine w_iconst rfl ?_
    refine w_bipush rfl rfl ?_
    refine w_cv rfl (by decide) (by first | omega | (simp only [Int.toNat_natCast, upF_2] at *; omega)) rfl (VH_ob hH).choose_spec mt_60 (Nat.le_of_ble_eq_true rfl) (Nat.le_of_ble_eq_true rfl) (V_st _ hH (at_ := 0) (wd := 1) (by omega) (by omega) (by omega) (by omega) (fun i _ _ => by (repeat rw [putK_at, if_neg (by omega)]); rfl)) ?_
    rintro _ _ ⟨rfl, hH⟩
    refine ⟨none, rfl, ?_⟩
    refine w_aload_n rfl rfl ?_
    refine w_getfield rfl (VH_at hH oR (by decide) (by decide) (by decide)) rfl ?_
    rw [r1]
    refine w_iconst rfl ?_
    refine w_iconst rfl ?_
    refine w_aload_n rfl rfl ?_
    refine w_getfield rfl (VH_at hH oD (by decide) (by decide) (by decide)) rfl ?_
    rw [d1]
    refine w_cv rfl (by decide) (by first | omega | (simp only [Int.toNat_natCast, upF_2] at *; omega)) rfl (VH_ob hH).choose_spec mt_60 (Nat.le_of_ble_eq_true rfl) (Nat.le_of_ble_eq_true rfl) (V_st _ hH (at_ := 1) (wd := 1) (by omega) (by omega) (by omega) (by omega) (fun i _ _ => by (repeat rw [putK_at, if_neg (by omega)]); rfl)) ?_
    rintro _ _ ⟨rfl, hH⟩
    refine ⟨none, rfl, ?_⟩
    refine w_aload_n rfl rfl ?_
    refine w_getfield rfl (VH_at hH oR (by decide) (by decide) (by decide)) rfl ?_
    rw [r1]
    refine w_iconst rfl ?_
    refine w_iconst rfl ?_
    refine w_aload_n rfl rfl ?_
    refine w_getfield rfl (VH_at hH oD (by decide) (by decide) (by decide)) rfl ?_
    rw [d0]
    refine w_cv rfl (by decide) (by first | omega | (simp only [Int.toNat_natCast, upF_2] at *; omega)) rfl (VH_ob hH).choose_spec mt_60 (Nat.le_of_ble_eq_true rfl) (Nat.le_of_ble_eq_true rfl) (V_st _ hH (at_ := 2) (wd := 2) (by omega) (by omega) (by omega) (by omega) (fun i _ _ => by (repeat rw [putK_at, if_neg (by omega)]); rfl)) ?_
    rintro _ _ ⟨rfl, hH⟩
    refine ⟨none, rfl, ?_⟩
    refine w_aload_n rfl rfl ?_
    refine w_getfield rfl (VH_at hH oR (by decide) (by decide) (by decide)) rfl ?_
    rw [r1]
    refine w_iconst rfl ?_
    refine w_iconst rfl ?_
    refine w_aload_n rfl rfl ?_
    refine w_getfield rfl (VH_at hH oD (by decide) (by decide) (by decide)) rfl ?_
    rw [d2]
    refine w_cv rfl (by decide) (by first | omega | (simp only [Int.toNat_natCast, upF_2] at *; omega)) rfl (VH_ob hH).choose_spec mt_60 (Nat.le_of_ble_eq_true rfl) (Nat.le_of_ble_eq_true rfl) (V_st _ hH (at_ := 4) (wd := 4) (by omega) (by omega) (by omega) (by omega) (fun i _ _ => by (repeat rw [putK_at, if_neg (by omega)]); rfl)) ?_
    rintro _ _ ⟨rfl, hH⟩
    refine ⟨none, rfl, ?_⟩
    refine w_aload_n rfl rfl ?_
    refine w_getfield rfl (VH_at hH oR (by decide) (by decide) (by decide)) rfl ?_
    rw [r1]
    refine w_bipush rfl rfl ?_
    refine w_iconst rfl ?_
    refine w_aload_n rfl rfl ?_
    refine w_getfield rfl (VH_at hH oD (by decide) (by decide) (by decide)) rfl ?_
    rw [h1]
    refine w_ifnonnull_n rfl ?_
    refine w_iconst rfl ?_
    refine w_goto rfl ?_
    refine w_cv rfl (by decide) (by first | omega | (simp only [Int.toNat_natCast, upF_2] at *; omega)) rfl (VH_ob hH).choose_spec mt_60 (Nat.le_of_ble_eq_true rfl) (Nat.le_of_ble_eq_true rfl) (V_st _ hH (at_ := 8) (wd := 2) (by omega) (by omega) (by omega) (by omega) (fun i _ _ => by (repeat rw [putK_at, if_neg (by omega)]); rfl)) ?_
    rintro _ _ ⟨rfl, hH⟩
    refine ⟨none, rfl, ?_⟩
    refine w_aload_n rfl rfl ?_
    refine w_getfield rfl (VH_at hH oR (by decide) (by decide) (by decide)) rfl ?_
    rw [r1]
    refine w_bipush rfl rfl ?_
    refine w_iconst rfl ?_
    refine w_aload_n rfl rfl ?_
    refine w_getfield rfl (VH_at hH oD (by decide) (by decide) (by decide)) rfl ?_
    rw [d5]
    refine w_cv rfl (by decide) (by first | omega | (simp only [Int.toNat_natCast, upF_2] at *; omega)) rfl (VH_ob hH).choose_spec mt_60 (Nat.le_of_ble_eq_true rfl) (Nat.le_of_ble_eq_true rfl) (V_st _ hH (at_ := 10) (wd := 2) (by omega) (by omega) (by omega) (by omega) (fun i _ _ => by (repeat rw [putK_at, if_neg (by omega)]); rfl)) ?_
    rintro _ _ ⟨rfl, hH⟩
    refine ⟨none, rfl, ?_⟩
    refine w_return rfl rfl ?_
    exact ⟨rfl, hH⟩
  · refine w_aload_n rfl rfl ?_
    refine w_getfield rfl (VH_at hH oR (by decide) (by decide) (by decide)) rfl ?_
    rw [r1]
    refine w_cv rfl (by decide) (by first | omega | (simp only [Int.toNat_natCast, upF_2] at *; omega)) rfl (VH_ob hH).choose_spec mt_56 (Nat.le_of_ble_eq_true rfl) (Nat.le_of_ble_eq_true rfl) (V_app _ (by omega) hH (by omega)) ?_
    rintro _ _ ⟨rfl, hH⟩
    refine ⟨none, rfl, ?_⟩
    refine w_aload_n rfl rfl ?_
    refine w_getfield rfl (VH_at hH oR (by decide) (by decide) (by decide)) rfl ?_
    rw [r1]
    refine w_iconst rfl ?_
    refine w_iconst rfl ?_
    refine w_bipush rfl rfl ?_
    refine w_cv rfl (by decide) (by first | omega | (simp only [Int.toNat_natCast, upF_2] at *; omega)) rfl (VH_ob hH).choose_spec mt_60 (Nat.le_of_ble_eq_true rfl) (Nat.le_of_ble_eq_true rfl) (V_st _ hH (at_ := 0) (wd := 1) (by omega) (by omega) (by omega) (by omega) (fun i _ _ => by (repeat rw [putK_at, if_neg (by omega)]); rfl)) ?_
    rintro _ _ ⟨rfl, hH⟩
    refine ⟨none, rfl, ?_⟩
    refine w_aload_n rfl rfl ?_
    refine w_getfield rfl (VH_at hH oR (by decide) (by decide) (by decide)) rfl ?_
    rw [r1]
    refine w_iconst rfl ?_
    refine w_iconst rfl ?_
    refine w_aload_n rfl rfl ?_
    refine w_getfield rfl (VH_at hH oD (by decide) (by decide) (by decide)) rfl ?_
    rw [d1]
    refine w_cv rfl (by decide) (by first | omega | (simp only [Int.toNat_natCast, upF_2] at *; omega)) rfl (VH_ob hH).choose_spec mt_60 (Nat.le_of_ble_eq_true rfl) (Nat.le_of_ble_eq_true rfl) (V_st _ hH (at_ := 1) (wd := 1) (by omega) (by omega) (by omega) (by omega) (fun i _ _ => by (repeat rw [putK_at, if_neg (by omega)]); rfl)) ?_
    rintro _ _ ⟨rfl, hH⟩
    refine ⟨none, rfl, ?_⟩
    refine w_aload_n rfl rfl ?_
    refine w_getfield rfl (VH_at hH oR (by decide) (by decide) (by decide)) rfl ?_
    rw [r1]
    refine w_iconst rfl ?_
    refine w_iconst rfl ?_
    refine w_aload_n rfl rfl ?_
    refine w_getfield rfl (VH_at hH oD (by decide) (by decide) (by decide)) rfl ?_
    rw [d0]
    refine w_cv rfl (by decide) (by first | omega | (simp only [Int.toNat_natCast, upF_2] at *; omega)) rfl (VH_ob hH).choose_spec mt_60 (Nat.le_of_ble_eq_true rfl) (Nat.le_of_ble_eq_true rfl) (V_st _ hH (at_ := 2) (wd := 2) (by omega) (by omega) (by omega) (by omega) (fun i _ _ => by (repeat rw [putK_at, if_neg (by omega)]); rfl)) ?_
    rintro _ _ ⟨rfl, hH⟩
    refine ⟨none, rfl, ?_⟩
    refine w_aload_n rfl rfl ?_
    refine w_getfield rfl (VH_at hH oR (by decide) (by decide) (by decide)) rfl ?_
    rw [r1]
    refine w_iconst rfl ?_
    refine w_iconst rfl ?_
    refine w_aload_n rfl rfl ?_
    refine w_getfield rfl (VH_at hH oD (by decide) (by decide) (by decide)) rfl ?_
    rw [d2]
    refine w_cv rfl (by decide) (by first | omega | (simp only [Int.toNat_natCast, upF_2] at *; omega)) rfl (VH_ob hH).choose_spec mt_60 (Nat.le_of_ble_eq_true rfl) (Nat.le_of_ble_eq_true rfl) (V_st _ hH (at_ := 4) (wd := 4) (by omega) (by omega) (by omega) (by omega) (fun i _ _ => by (repeat rw [putK_at, if_neg (by omega)]); rfl)) ?_
    rintro _ _ ⟨rfl, hH⟩
    refine ⟨none, rfl, ?_⟩
    refine w_aload_n rfl rfl ?_
    refine w_getfield rfl (VH_at hH oR (by decide) (by decide) (by decide)) rfl ?_
    rw [r1]
    refine w_bipush rfl rfl ?_
    refine w_iconst rfl ?_
    refine w_aload_n rfl rfl ?_
    refine w_getfield rfl (VH_at hH oD (by decide) (by decide) (by decide)) rfl ?_
    rw [h1]
    refine w_ifnonnull_r rfl ?_
    refine w_aload_n rfl rfl ?_
    refine w_getfield rfl (VH_at hH oD (by decide) (by decide) (by decide)) rfl ?_
    rw [h1]
    refine w_getfield rfl (VH_at hH o1 (by decide) (by decide) (by decide)) rfl ?_
    rw [h2]
    refine w_iconst rfl ?_
    refine w_iadd rfl ?_
    refine w_cv rfl (by decide) (by first | omega | (simp only [Int.toNat_natCast, upF_2] at *; omega)) rfl (VH_ob hH).choose_spec mt_60 (Nat.le_of_ble_eq_true rfl) (Nat.le_of_ble_eq_true rfl) (V_st _ hH (at_ := 8) (wd := 2) (by omega) (by omega) (by omega) (by omega) (fun i _ _ => by (repeat rw [putK_at, if_neg (by omega)]); rfl)) ?_
    rintro _ _ ⟨rfl, hH⟩
    refine ⟨none, rfl, ?_⟩
    refine w_aload_n rfl rfl ?_
    refine w_getfield rfl (VH_at hH oR (by decide) (by decide) (by decide)) rfl ?_
    rw [r1]
    refine w_bipush rfl rfl ?_
    refine w_iconst rfl ?_
    refine w_aload_n rfl rfl ?_
    refine w_getfield rfl (VH_at hH oD (by decide) (by decide) (by decide)) rfl ?_
    rw [d5]
    refine w_cv rfl (by decide) (by first | omega | (simp only [Int.toNat_natCast, upF_2] at *; omega)) rfl (VH_ob hH).choose_spec mt_60 (Nat.le_of_ble_eq_true rfl) (Nat.le_of_ble_eq_true rfl) (V_st _ hH (at_ := 10) (wd := 2) (by omega) (by omega) (by omega) (by omega) (fun i _ _ => by (repeat rw [putK_at, if_neg (by omega)]); rfl)) ?_
    rintro _ _ ⟨rfl, hH⟩
    refine ⟨none, rfl, ?_⟩
    refine w_return rfl rfl ?_
    exact ⟨rfl, hH⟩
theorem V_map_l (d : Nat) (hd : 5 ≤ d) (hP : TP T0 N0 c ρ na) (oR : c.1 R0 = some (6, 0)) (r0 : c.2.1 6 0 0 = .ref T0) (r1 : c.2.1 6 0 1 = .ref V0) : ∀ (m k : Nat) (H : AH), k + m = 256 → VH b V0 Z g c nc ns cap (fi + 1) (bset bl fi (mpB (fun n => ρ.2 1 0 n ≠ 0) (putK zB 0 77 1) 0 k)) sp ls H → Wp b L xs d mi_61 20 [some (.ref R0), some (vI k)] [] H (fun h' o => o = .inl none ∧ VH b V0 Z g c nc ns cap (fi + 1) (bset bl fi (mpB (fun n => ρ.2 1 0 n ≠ 0) (putK zB 0 77 1) 0 256)) sp ls h') := by
  have oT := hP.1
  intro m
  induction m with
  | zero =>
    intro k H hk hH
    obtain rfl : k = 256 := hk
    refine w_iload_n rfl rfl ?_
    refine w_sipush rfl rfl ?_
    refine w_icge_t rfl (by omega) (by omega) (by omega) (by omega) (by first | omega | (simp only [Int.toNat_natCast, upF_2] at *; omega)) ?_
    refine w_return rfl rfl ?_
    exact ⟨rfl, hH⟩
  | succ m ih =>
    intro k H hk hH
    rcases V_node (L := L) (xs := xs) hH hP (d - 1) (by omega) (n := k) (by omega) with ⟨hc, x, w⟩ | ⟨hc, w⟩
    · have e1 : (7 - (k : Int) % 8).toNat = 7 - k % 8 := by omega
      have e2 : (1 : Int) + (k : Int) / 8 = ((1 + k / 8 : Nat) : Int) := by omega
      have pw : 0 ≤ (1 : Int) * 2 ^ (7 - k % 8) ∧ (1 : Int) * 2 ^ (7 - k % 8) < 256 := by
        have : k % 8 < 8 := by omega
        generalize k % 8 = z at this ⊢
        obtain rfl | rfl | rfl | rfl | rfl | rfl | rfl | rfl : z = 0 ∨ z = 1 ∨ z = 2 ∨ z = 3 ∨ z = 4 ∨ z = 5 ∨ z = 6 ∨ z = 7 := by omega
        all_goals exact ⟨by decide, by decide⟩
      refine w_iload_n rfl rfl ?_
      refine w_sipush rfl rfl ?_
      refine w_icge_f rfl (by omega) (by omega) (by omega) (by omega) (by first | omega | (simp only [Int.toNat_natCast, upF_2] at *; omega)) ?_
      refine w_aload_n rfl rfl ?_
      refine w_getfield rfl (VH_at hH oR (by decide) (by decide) (by decide)) rfl ?_
      rw [r0]
      refine w_iload_n rfl rfl ?_
      refine w_cvV rfl (by decide) (by first | omega | (simp only [Int.toNat_natCast, upF_2] at *; omega)) rfl (VH_at hH oT (by decide) (by decide) (by decide)) mt_17 (Nat.le_of_ble_eq_true rfl) (Nat.le_of_ble_eq_true rfl) w ?_
      refine w_ifnull_r rfl ?_
      refine w_aload_n rfl rfl ?_
      refine w_getfield rfl (VH_at hH oR (by decide) (by decide) (by decide)) rfl ?_
      rw [r1]
      refine w_iconst rfl ?_
      refine w_iload_n rfl rfl ?_
      refine w_bipush rfl rfl ?_
      refine w_idiv rfl (by first | omega | (simp only [Int.toNat_natCast, upF_2] at *; omega)) (by first | omega | (simp only [Int.toNat_natCast, upF_2] at *; omega)) (by first | omega | (simp only [Int.toNat_natCast, upF_2] at *; omega)) (by first | omega | (simp only [Int.toNat_natCast, upF_2] at *; omega)) ?_
      refine w_iadd rfl ?_
      refine w_iconst rfl ?_
      refine w_iconst rfl ?_
      refine w_bipush rfl rfl ?_
      refine w_iload_n rfl rfl ?_
      refine w_bipush rfl rfl ?_
      refine w_irem rfl (by first | omega | (simp only [Int.toNat_natCast, upF_2] at *; omega)) (by first | omega | (simp only [Int.toNat_natCast, upF_2] at *; omega)) (by first | omega | (simp only [Int.toNat_natCast, upF_2] at *; omega)) (by first | omega | (simp only [Int.toNat_natCast, upF_2] at *; omega)) ?_
      refine w_isub rfl ?_
      refine w_ishl rfl (by decide) (by omega) (by omega) (by rw [e1]; omega) ?_
      rw [e1, e2]
      refine w_cv rfl (by decide) (by first | omega | (simp only [Int.toNat_natCast, upF_2] at *; omega)) rfl (VH_ob hH).choose_spec mt_60 (Nat.le_of_ble_eq_true rfl) (Nat.le_of_ble_eq_true rfl) (V_store _ hH (at_ := 1 + k / 8) (wd := 1) pw.1 (by omega) (by omega) (by omega)) ?_
      rintro _ _ ⟨rfl, hH⟩
      refine ⟨none, rfl, ?_⟩
      refine w_iinc rfl rfl (by decide) ?_
      refine w_goto rfl ?_
      refine ih (k + 1) _ (by omega) ?_
      rw [bset_2, bset_eq] at hH
      rw [mpB_s, if_pos (by rw [Nat.zero_add]; exact hc), Nat.zero_add]
      have e3 : (1 : Int) * 2 ^ (7 - k % 8) / 2 ^ (8 * 0) % 256 = 2 ^ (7 - k % 8) := by
        rw [Nat.mul_zero, Int.pow_zero, Int.ediv_one, Int.one_mul] at *
        exact Int.emod_eq_of_lt pw.1 pw.2
      have e4 : ∀ B : Nat → Int, stK B (1 + k / 8) ((1 : Int) * 2 ^ (7 - k % 8)) 1 = upB B (1 + k / 8) (orI (B (1 + k / 8)) (2 ^ (7 - k % 8))) := fun B => by
        show orB B (1 + k / 8) ((1 : Int) * 2 ^ (7 - k % 8) / 2 ^ (8 * 0) % 256) = _
        rw [e3]
        rfl
      rw [e4] at hH
      exact hH
    · refine w_iload_n rfl rfl ?_
      refine w_sipush rfl rfl ?_
      refine w_icge_f rfl (by omega) (by omega) (by omega) (by omega) (by first | omega | (simp only [Int.toNat_natCast, upF_2] at *; omega)) ?_
      refine w_aload_n rfl rfl ?_
      refine w_getfield rfl (VH_at hH oR (by decide) (by decide) (by decide)) rfl ?_
      rw [r0]
      refine w_iload_n rfl rfl ?_
      refine w_cvV rfl (by decide) (by first | omega | (simp only [Int.toNat_natCast, upF_2] at *; omega)) rfl (VH_at hH oT (by decide) (by decide) (by decide)) mt_17 (Nat.le_of_ble_eq_true rfl) (Nat.le_of_ble_eq_true rfl) w ?_
      refine w_ifnull_n rfl ?_
      refine w_iinc rfl rfl (by decide) ?_
      refine w_goto rfl ?_
      refine ih (k + 1) _ (by omega) ?_
      rw [mpB_s, if_neg (by rw [Nat.zero_add]; exact fun z => z hc)]
      exact hH
theorem V_map (hH : VH b V0 Z g c nc ns cap fi bl sp ls H) (d : Nat) (hd : 5 ≤ d) (hw : wrO cap (fi + 1) ≤ 4000) (hP : TP T0 N0 c ρ na) (oR : c.1 R0 = some (6, 0)) (r0 : c.2.1 6 0 0 = .ref T0) (r1 : c.2.1 6 0 1 = .ref V0) : Wp b L xs d mi_61 0 (ent (mL mi_61) [.ref R0]) [] H (fun h' o => o = .inl none ∧ VH b V0 Z g c nc ns cap (fi + 1) (bset bl fi (mpB (fun n => ρ.2 1 0 n ≠ 0) (putK zB 0 77 1) 0 256)) sp ls h') := by
  refine w_aload_n rfl rfl ?_
  refine w_getfield rfl (VH_at hH oR (by decide) (by decide) (by decide)) rfl ?_
  rw [r1]
  refine w_cv rfl (by decide) (by first | omega | (simp only [Int.toNat_natCast, upF_2] at *; omega)) rfl (VH_ob hH).choose_spec mt_56 (Nat.le_of_ble_eq_true rfl) (Nat.le_of_ble_eq_true rfl) (V_app _ (by omega) hH (by omega)) ?_
  rintro _ _ ⟨rfl, hH⟩
  refine ⟨none, rfl, ?_⟩
  refine w_aload_n rfl rfl ?_
  refine w_getfield rfl (VH_at hH oR (by decide) (by decide) (by decide)) rfl ?_
  rw [r1]
  refine w_iconst rfl ?_
  refine w_iconst rfl ?_
  refine w_bipush rfl rfl ?_
  refine w_cv rfl (by decide) (by first | omega | (simp only [Int.toNat_natCast, upF_2] at *; omega)) rfl (VH_ob hH).choose_spec mt_60 (Nat.le_of_ble_eq_true rfl) (Nat.le_of_ble_eq_true rfl) (V_st _ hH (at_ := 0) (wd := 1) (by omega) (by omega) (by omega) (by omega) (fun i _ _ => by (repeat rw [putK_at, if_neg (by omega)]); rfl)) ?_
  rintro _ _ ⟨rfl, hH⟩
  refine ⟨none, rfl, ?_⟩
  refine w_iconst rfl ?_
  refine w_istore_n rfl (by decide) ?_
  exact V_map_l d hd hP oR r0 r1 256 0 _ rfl hH
set_option maxRecDepth 50000 in
theorem V_facts (hH : VH b V0 Z g c nc ns cap fi bl sp ls H) (d : Nat) (hd : 5 ≤ d) (hw : wrO cap (fi + 1) ≤ 4000) (oR : c.1 R0 = some (6, 0)) (r0 : c.2.1 6 0 0 = .ref T0) (r1 : c.2.1 6 0 1 = .ref V0) (hP : TP T0 N0 c ρ na) (hT : TreeOk ρ) {n a : Nat} (hn2 : n < 256) (hn : NdIs c ρ na n a) (hr : n = 0 → ρ.2 2 0 n = 0) (hp : n ≠ 0 → ρ.2 1 0 (ρ.2 2 0 n).toNat ≠ 0) : Wp b L xs d mi_63 0 (ent (mL mi_63) [.ref R0, .ref a]) [] H (fun h' o => o = .inl none ∧ VH b V0 Z g c nc ns cap (fi + 1) (bset bl fi (fcT n (ρ.2 1 0 n) (ρ.2 3 0 n) (ρ.2 2 0 n) (szv ρ n) (ρ.2 5 0 n))) sp ls h') := by
  have t1 := hT n hn2
  have t2 : rEnt ρ n ≤ 255 := cnt_le _ _ _
  have t3 : 0 ≤ szv ρ n ∧ szv ρ n ≤ 512 := by
    unfold szv
    split <;> omega
  have hn0 := hn
  obtain ⟨i1, i2, oA, i4, f0, f1, f2, f3, f4, f5⟩ := hn
  refine w_aload_n rfl rfl ?_
  refine w_getfield rfl (VH_at hH oR (by decide) (by decide) (by decide)) rfl ?_
  rw [r1]
  refine w_cv rfl (by decide) (by first | omega | (simp only [Int.toNat_natCast, upF_2] at *; omega)) rfl (VH_ob hH).choose_spec mt_56 (Nat.le_of_ble_eq_true rfl) (Nat.le_of_ble_eq_true rfl) (V_app _ (by omega) hH (by omega)) ?_
  rintro _ _ ⟨rfl, hH⟩
  refine ⟨none, rfl, ?_⟩
  refine w_aload_n rfl rfl ?_
  refine w_getfield rfl (VH_at hH oR (by decide) (by decide) (by decide)) rfl ?_
  rw [r1]
  refine w_iconst rfl ?_
  refine w_iconst rfl ?_
  refine w_bipush rfl rfl ?_
  refine w_cv rfl (by decide) (by first | omega | (simp only [Int.toNat_natCast, upF_2] at *; omega)) rfl (VH_ob hH).choose_spec mt_60 (Nat.le_of_ble_eq_true rfl) (Nat.le_of_ble_eq_true rfl) (V_st _ hH (at_ := 0) (wd := 1) (by omega) (by omega) (by omega) (by omega) (fun i _ _ => by (repeat rw [putK_at, if_neg (by omega)]); rfl)) ?_
  rintro _ _ ⟨rfl, hH⟩
  refine ⟨none, rfl, ?_⟩
  refine w_aload_n rfl rfl ?_
  refine w_getfield rfl (VH_at hH oR (by decide) (by decide) (by decide)) rfl ?_
  rw [r1]
  refine w_iconst rfl ?_
  refine w_iconst rfl ?_
  refine w_aload_n rfl rfl ?_
  refine w_getfield rfl (VH_at hH oA (by decide) (by decide) (by decide)) rfl ?_
  rw [f0]
  refine w_cv rfl (by decide) (by first | omega | (simp only [Int.toNat_natCast, upF_2] at *; omega)) rfl (VH_ob hH).choose_spec mt_60 (Nat.le_of_ble_eq_true rfl) (Nat.le_of_ble_eq_true rfl) (V_st _ hH (at_ := 1) (wd := 1) (by omega) (by omega) (by omega) (by omega) (fun i _ _ => by (repeat rw [putK_at, if_neg (by omega)]); rfl)) ?_
  rintro _ _ ⟨rfl, hH⟩
  refine ⟨none, rfl, ?_⟩
  refine w_aload_n rfl rfl ?_
  refine w_getfield rfl (VH_at hH oR (by decide) (by decide) (by decide)) rfl ?_
  rw [r1]
  refine w_iconst rfl ?_
  refine w_iconst rfl ?_
  refine w_aload_n rfl rfl ?_
  refine w_getfield rfl (VH_at hH oA (by decide) (by decide) (by decide)) rfl ?_
  rw [f1]
  refine w_cv rfl (by decide) (by first | omega | (simp only [Int.toNat_natCast, upF_2] at *; omega)) rfl (VH_ob hH).choose_spec mt_60 (Nat.le_of_ble_eq_true rfl) (Nat.le_of_ble_eq_true rfl) (V_st _ hH (at_ := 2) (wd := 1) (by omega) (by omega) (by omega) (by omega) (fun i _ _ => by (repeat rw [putK_at, if_neg (by omega)]); rfl)) ?_
  rintro _ _ ⟨rfl, hH⟩
  refine ⟨none, rfl, ?_⟩
  refine w_aload_n rfl rfl ?_
  refine w_getfield rfl (VH_at hH oR (by decide) (by decide) (by decide)) rfl ?_
  rw [r1]
  refine w_iconst rfl ?_
  refine w_iconst rfl ?_
  refine w_aload_n rfl rfl ?_
  refine w_getfield rfl (VH_at hH oA (by decide) (by decide) (by decide)) rfl ?_
  rw [f3]
  refine w_cv rfl (by decide) (by first | omega | (simp only [Int.toNat_natCast, upF_2] at *; omega)) rfl (VH_ob hH).choose_spec mt_60 (Nat.le_of_ble_eq_true rfl) (Nat.le_of_ble_eq_true rfl) (V_st _ hH (at_ := 3) (wd := 2) (by omega) (by omega) (by omega) (by omega) (fun i _ _ => by (repeat rw [putK_at, if_neg (by omega)]); rfl)) ?_
  rintro _ _ ⟨rfl, hH⟩
  refine ⟨none, rfl, ?_⟩
  refine w_aload_n rfl rfl ?_
  refine w_getfield rfl (VH_at hH oR (by decide) (by decide) (by decide)) rfl ?_
  rw [r1]
  refine w_iconst rfl ?_
  refine w_iconst rfl ?_
  refine w_aload_n rfl rfl ?_
  refine w_cvV rfl (by decide) (by first | omega | (simp only [Int.toNat_natCast, upF_2] at *; omega)) rfl (VH_at hH oA (by decide) (by decide) (by decide)) mt_64 (Nat.le_of_ble_eq_true rfl) (Nat.le_of_ble_eq_true rfl) (V_pn hH hP hT _ hn2 hn0 hr hp) ?_
  refine w_cv rfl (by decide) (by first | omega | (simp only [Int.toNat_natCast, upF_2] at *; omega)) rfl (VH_ob hH).choose_spec mt_60 (Nat.le_of_ble_eq_true rfl) (Nat.le_of_ble_eq_true rfl) (V_st _ hH (at_ := 5) (wd := 1) (by omega) (by omega) (by omega) (by omega) (fun i _ _ => by (repeat rw [putK_at, if_neg (by omega)]); rfl)) ?_
  rintro _ _ ⟨rfl, hH⟩
  refine ⟨none, rfl, ?_⟩
  refine w_aload_n rfl rfl ?_
  refine w_getfield rfl (VH_at hH oR (by decide) (by decide) (by decide)) rfl ?_
  rw [r1]
  refine w_bipush rfl rfl ?_
  refine w_iconst rfl ?_
  refine w_aload_n rfl rfl ?_
  refine w_getfield rfl (VH_at hH oA (by decide) (by decide) (by decide)) rfl ?_
  rw [f4]
  refine w_cv rfl (by decide) (by first | omega | (simp only [Int.toNat_natCast, upF_2] at *; omega)) rfl (VH_ob hH).choose_spec mt_60 (Nat.le_of_ble_eq_true rfl) (Nat.le_of_ble_eq_true rfl) (V_st _ hH (at_ := 6) (wd := 2) (by omega) (by omega) (by omega) (by omega) (fun i _ _ => by (repeat rw [putK_at, if_neg (by omega)]); rfl)) ?_
  rintro _ _ ⟨rfl, hH⟩
  refine ⟨none, rfl, ?_⟩
  refine w_aload_n rfl rfl ?_
  refine w_getfield rfl (VH_at hH oR (by decide) (by decide) (by decide)) rfl ?_
  rw [r1]
  refine w_bipush rfl rfl ?_
  refine w_iconst rfl ?_
  refine w_aload_n rfl rfl ?_
  refine w_getfield rfl (VH_at hH oA (by decide) (by decide) (by decide)) rfl ?_
  rw [f5]
  refine w_cv rfl (by decide) (by first | omega | (simp only [Int.toNat_natCast, upF_2] at *; omega)) rfl (VH_ob hH).choose_spec mt_60 (Nat.le_of_ble_eq_true rfl) (Nat.le_of_ble_eq_true rfl) (V_st _ hH (at_ := 8) (wd := 4) (by omega) (by omega) (by omega) (by omega) (fun i _ _ => by (repeat rw [putK_at, if_neg (by omega)]); rfl)) ?_
  rintro _ _ ⟨rfl, hH⟩
  refine ⟨none, rfl, ?_⟩
  refine w_return rfl rfl ?_
  exact ⟨rfl, hH⟩
end Cw1
