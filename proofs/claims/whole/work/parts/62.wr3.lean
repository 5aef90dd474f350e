/-! the writer: entries, and all of it -/
section Cw3
variable {b L V0 : Nat} {xs : Nat → Int32} {Z : Nat → Prop} {g : Nat → Option AO} {c : CS} {nc ns cap fi : Nat} {bl : Nat → Nat → Int} {sp ls : Nat → Int} {H : AH} {ρ : RS} {na : Nat → Option Nat} {T0 N0 R0 D0 : Nat}
theorem V_en27 (d : Nat) (hd : 5 ≤ d) (oR : c.1 R0 = some (6, 0)) (r0 : c.2.1 6 0 0 = .ref T0) (r1 : c.2.1 6 0 1 = .ref V0) {p q : Nat} {cs ad : Nat → Nat} (hC : Chn c p cs ad (fun i => ρ.2 3 0 (cs i)) q) (hv : ∀ i, i < q → c.2.1 12 (cs i) 0 = vI (cs i) ∧ cs i < 256) {k a : Nat} (hk : k < q) {Q : AH → RO → Prop} (hH : VH b V0 Z g c nc ns cap (fi + k / 21 + 1) (bset (wBl 21 (fun s m => enB (fun i => ρ.2 3 0 (cs i)) (fun i => (cs i : Int)) zB 0 s m) bl fi k) (fi + k / 21) (enB (fun i => ρ.2 3 0 (cs i)) (fun i => (cs i : Int)) zB 0 (21 * (k / 21)) (k % 21))) sp ls H) (kk : ∀ H, VH b V0 Z g c nc ns cap (fi + wN 21 (k + 1)) (wBl 21 (fun s m => enB (fun i => ρ.2 3 0 (cs i)) (fun i => (cs i : Int)) zB 0 s m) bl fi (k + 1)) sp ls H → Wp b L xs d mi_67 8 [some (.ref R0), some (.ref a), some (vI ((k % 21 : Nat) + 1 : Int)), some (va_rf (ptr ad (k + 1) q))] [] H Q) : Wp b L xs d mi_67 27 [some (.ref R0), some (.ref a), some (vI ((k % 21 : Nat) : Int)), some (.ref (ad k))] [] H Q := by
  obtain ⟨o1, o2, o3, o4, o5⟩ := hC.2 k hk
  have o2 : c.2.1 12 (cs k) 3 = vI (ρ.2 3 0 (cs k)) := o2
  have o4 : 0 ≤ ρ.2 3 0 (cs k) := o4
  have o5 : ρ.2 3 0 (cs k) ≤ 100000 := o5
  obtain ⟨v1, v2⟩ := hv k hk
  have e1 : (3 : Int) * ((k % 21 : Nat) : Int) = ((3 * (k % 21) : Nat) : Int) := by omega
  have e2 : (3 : Int) * ((k % 21 : Nat) : Int) + 2 = ((3 * (k % 21) + 2 : Nat) : Int) := by omega
  have z1 : ∀ i, 3 * (k % 21) ≤ i → enB (fun i => ρ.2 3 0 (cs i)) (fun i => (cs i : Int)) zB 0 (21 * (k / 21)) (k % 21) i = 0 := fun i hi => by
    rw [enB_z _ _ _ _ _ _ _ (by omega)]
    rfl
  refine w_aload_n rfl rfl ?_
  refine w_getfield rfl (VH_at hH oR (by decide) (by decide) (by decide)) rfl ?_
  rw [r1]
  refine w_iconst rfl ?_
  refine w_iload_n rfl rfl ?_
  refine w_imul rfl ?_
  refine w_iconst rfl ?_
  refine w_aload_n rfl rfl ?_
  refine w_getfield rfl (VH_at hH o1 (by decide) (by decide) (by decide)) rfl ?_
  rw [o2]
  rw [e1]
  refine w_cv rfl (by decide) (by first | omega | (simp only [Int.toNat_natCast, upF_2] at *; omega)) rfl (VH_ob hH).choose_spec mt_60 (Nat.le_of_ble_eq_true rfl) (Nat.le_of_ble_eq_true rfl) (V_st _ hH (at_ := 3 * (k % 21)) (wd := 2) o4 (by omega) (by omega) (by omega) (fun i h1 _ => z1 i h1)) ?_
  rintro _ _ ⟨rfl, hH⟩
  refine ⟨none, rfl, ?_⟩
  refine w_aload_n rfl rfl ?_
  refine w_getfield rfl (VH_at hH oR (by decide) (by decide) (by decide)) rfl ?_
  rw [r1]
  refine w_iconst rfl ?_
  refine w_iload_n rfl rfl ?_
  refine w_imul rfl ?_
  refine w_iconst rfl ?_
  refine w_iadd rfl ?_
  refine w_iconst rfl ?_
  refine w_aload_n rfl rfl ?_
  refine w_getfield rfl (VH_at hH o1 (by decide) (by decide) (by decide)) rfl ?_
  rw [v1]
  rw [e2]
  refine w_cv rfl (by decide) (by first | omega | (simp only [Int.toNat_natCast, upF_2] at *; omega)) rfl (VH_ob hH).choose_spec mt_60 (Nat.le_of_ble_eq_true rfl) (Nat.le_of_ble_eq_true rfl) (V_st _ hH (at_ := 3 * (k % 21) + 2) (wd := 1) (by omega) (by omega) (by omega) (by omega) (fun i h1 _ => by rw [putK_at, if_neg (by omega)]; exact z1 i (by omega))) ?_
  rintro _ _ ⟨rfl, hH⟩
  refine ⟨none, rfl, ?_⟩
  refine w_iinc rfl rfl (by decide) ?_
  refine w_aload_n rfl rfl ?_
  refine w_getfield rfl (VH_at hH o1 (by decide) (by decide) (by decide)) rfl ?_
  rw [o3]
  refine w_astore_nQ rfl (by decide) ?_
  refine w_goto rfl ?_
  refine kk _ ?_
  rw [show putK (putK (enB (fun i => ρ.2 3 0 (cs i)) (fun i => (cs i : Int)) zB 0 (21 * (k / 21)) (k % 21)) (3 * (k % 21)) (ρ.2 3 0 (cs k)) 2) (3 * (k % 21) + 2) (cs k) 1 = (fun s m => enB (fun i => ρ.2 3 0 (cs i)) (fun i => (cs i : Int)) zB 0 s m) (21 * (k / 21)) (k % 21 + 1) from by
    dsimp only
    rw [enB_s, Nat.zero_add, show 21 * (k / 21) + k % 21 = k by omega], wBl_s (by decide)] at hH
  rw [wN_s (by decide), ← Nat.add_assoc]
  exact hH
theorem V_en_l (d : Nat) (hd : 5 ≤ d) (oR : c.1 R0 = some (6, 0)) (r0 : c.2.1 6 0 0 = .ref T0) (r1 : c.2.1 6 0 1 = .ref V0) {p q : Nat} {cs ad : Nat → Nat} (hC : Chn c p cs ad (fun i => ρ.2 3 0 (cs i)) q) (hv : ∀ i, i < q → c.2.1 12 (cs i) 0 = vI (cs i) ∧ cs i < 256) (hq : q ≤ 256) {a : Nat} (hw : wrO cap (fi + wN 21 q) ≤ 4000) : ∀ (m k : Nat) (ib : Int) (H : AH), k + m = q → ib = (if k % 21 = 0 then 21 else ((k % 21 : Nat) : Int)) → VH b V0 Z g c nc ns cap (fi + wN 21 k) (wBl 21 (fun s m => enB (fun i => ρ.2 3 0 (cs i)) (fun i => (cs i : Int)) zB 0 s m) bl fi k) sp ls H → Wp b L xs d mi_67 8 [some (.ref R0), some (.ref a), some (vI ib), some (va_rf (ptr ad k q))] [] H (fun h' o => o = .inl none ∧ VH b V0 Z g c nc ns cap (fi + wN 21 q) (wBl 21 (fun s m => enB (fun i => ρ.2 3 0 (cs i)) (fun i => (cs i : Int)) zB 0 s m) bl fi q) sp ls h') := by
  intro m
  induction m with
  | zero =>
    intro k ib H hk hib hH
    obtain rfl : k = q := hk
    rw [show ptr ad k k = none from if_neg (Nat.lt_irrefl _)]
    refine w_aload_nQ (x := none) rfl rfl ?_
    refine w_ifnull_n rfl ?_
    refine w_return rfl rfl ?_
    exact ⟨rfl, hH⟩
  | succ m ih =>
    intro k ib H hk hib hH
    have hc4 := (VH_cap hH).1
    have wl : wrO cap (fi + k / 21 + 1) ≤ 4000 := Nat.le_trans (wrO_le hc4 (by show _ ≤ fi + (q + 20) / 21; omega)) hw
    rw [show ptr ad k q = some (ad k) from if_pos (by omega)]
    by_cases e0 : k % 21 = 0
    · have e1 : wN 21 k = k / 21 := wN_0 (by decide) e0
      rw [e1] at hH
      rw [if_pos e0] at hib
      subst hib
      refine w_aload_n rfl rfl ?_
      refine w_ifnull_r rfl ?_
      refine w_iload_n rfl rfl ?_
      refine w_bipush rfl rfl ?_
      refine w_icne_f rfl (by omega) (by omega) (by omega) (by omega) (by first | omega | (simp only [Int.toNat_natCast, upF_2] at *; omega)) ?_
      refine w_aload_n rfl rfl ?_
      refine w_getfield rfl (VH_at hH oR (by decide) (by decide) (by decide)) rfl ?_
      rw [r1]
      refine w_cv rfl (by decide) (by first | omega | (simp only [Int.toNat_natCast, upF_2] at *; omega)) rfl (VH_ob hH).choose_spec mt_56 (Nat.le_of_ble_eq_true rfl) (Nat.le_of_ble_eq_true rfl) (V_app _ (by omega) hH wl) ?_
      rintro H1 _ ⟨rfl, hH⟩
      refine ⟨none, rfl, ?_⟩
      refine w_iconst rfl ?_
      refine w_istore_n rfl (by decide) ?_
      refine (show vI ((k % 21 : Nat) : Int) = vI 0 from by rw [e0]; rfl) ▸ V_en27 d hd oR r0 r1 hC hv (by omega) ?_ (fun H hH => ih (k + 1) _ H (by omega) (by split <;> omega) hH)
      rw [e0]
      exact hH
    · have e1 : wN 21 k = k / 21 + 1 := wN_1 (by decide) e0
      rw [if_neg e0] at hib
      subst hib
      refine w_aload_n rfl rfl ?_
      refine w_ifnull_r rfl ?_
      refine w_iload_n rfl rfl ?_
      refine w_bipush rfl rfl ?_
      refine w_icne_t rfl (by omega) (by omega) (by omega) (by omega) (by first | omega | (simp only [Int.toNat_natCast, upF_2] at *; omega)) ?_
      refine V_en27 d hd oR r0 r1 hC hv (by omega) ?_ (fun H hH => ih (k + 1) _ H (by omega) (by split <;> omega) hH)
      have e2 := wBl_last (n := 21) (by decide) (fun s m => enB (fun i => ρ.2 3 0 (cs i)) (fun i => (cs i : Int)) zB 0 s m) bl fi k e0
      rw [← e2, bset_self]
      rw [e1, ← Nat.add_assoc] at hH
      exact hH
theorem V_ens (hH : VH b V0 Z g c nc ns cap fi bl sp ls H) (d : Nat) (hd : 5 ≤ d) (oR : c.1 R0 = some (6, 0)) (r0 : c.2.1 6 0 0 = .ref T0) (r1 : c.2.1 6 0 1 = .ref V0) {p q : Nat} {cs ad : Nat → Nat} (hC : Chn c p cs ad (fun i => ρ.2 3 0 (cs i)) q) (hv : ∀ i, i < q → c.2.1 12 (cs i) 0 = vI (cs i) ∧ cs i < 256) (hq : q ≤ 256) {a : Nat} (oA : c.1 a = some (12, p)) (hw : wrO cap (fi + wN 21 q) ≤ 4000) : Wp b L xs d mi_67 0 (ent (mL mi_67) [.ref R0, .ref a]) [] H (fun h' o => o = .inl none ∧ VH b V0 Z g c nc ns cap (fi + wN 21 q) (wBl 21 (fun s m => enB (fun i => ρ.2 3 0 (cs i)) (fun i => (cs i : Int)) zB 0 s m) bl fi q) sp ls h') := by
  refine w_bipush rfl rfl ?_
  refine w_istore_n rfl (by decide) ?_
  refine w_aload_n rfl rfl ?_
  refine w_getfield rfl (VH_at hH oA (by decide) (by decide) (by decide)) rfl ?_
  rw [hC.1]
  refine w_astore_nQ rfl (by decide) ?_
  refine V_en_l d hd oR r0 r1 hC hv hq hw q 0 21 H (Nat.zero_add _) rfl ?_
  rw [wBl_0]
  exact hH
end Cw3
