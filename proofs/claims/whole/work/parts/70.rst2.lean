/-! what is restored: the walk -/
theorem cnt_pos_s (p : Nat → Prop) [DecidablePred p] (k m : Nat) : cnt p k (m + 1) = (if p k then 1 else 0) + cnt p (k + 1) m := rfl
section Cq2
variable {b L V0 : Nat} {xs : Nat → Int32} {Z : Nat → Prop} {g : Nat → Option AO} {c : CS} {nc ns cap fi : Nat} {bl : Nat → Nat → Int} {ls : Nat → Int} {H : AH} {ρ : RS} {Q0 F0 M0 L0 : Nat} {th cl lc rc : Int} {fa ms lo : Nat → Int} {da cn : Nat → Nat}
theorem V_rd_l (d : Nat) (hd : 3 ≤ d) (hH : VH b V0 Z g (mkQ c th cl lc rc fa ms lo) nc ns cap fi bl (ρ.2 30 0) ls H) (hQ : QI b c V0 Q0 F0 M0 L0) {e : Nat} (hDo : DumpOk ρ e) (f2 : ρ.2 13 0 (e + 1) ≤ 4000) (f3 : ρ.2 13 0 (e + 1) ≤ fi) (hsp : ∀ i, ρ.2 30 0 i = 0 ∨ ρ.2 30 0 i = 1) (hD : DmIs c ρ da cn e) (hb : ρ.2 13 0 e + (2 + nix ρ e) ≤ ρ.2 13 0 (e + 1)) {r : Int} : ∀ (m k : Nat), k + m = (2 + nix ρ e).toNat → r = (if 0 < cnt (fun j => ρ.2 30 0 ((ρ.2 13 0 e).toNat + j) ≠ 0) k m then 0 else 1) → Wp b L xs d mi_80 2 [some (.ref Q0), some (.ref (da e)), some (vI k)] [] H (Rt H (vI r)) := by
  have hD0 := hD
  have hDo0 := hDo
  obtain ⟨w1, w2, w3, w4, w5, w6, u0, u1, u2, u3, u4, u5⟩ := hDo
  obtain ⟨oQ, q0, q1, q2, q3, oF, oM, oL, hFb, hMb⟩ := hQ
  have p0 : ∀ th cl lc rc fa ms lo, (mkQ c th cl lc rc fa ms lo).2.1 7 0 0 = .ref V0 := fun _ _ _ _ _ _ _ => q0
  have p1 : ∀ th cl lc rc fa ms lo, (mkQ c th cl lc rc fa ms lo).2.1 7 0 1 = .ref F0 := fun _ _ _ _ _ _ _ => q1
  have p2 : ∀ th cl lc rc fa ms lo, (mkQ c th cl lc rc fa ms lo).2.1 7 0 2 = .ref M0 := fun _ _ _ _ _ _ _ => q2
  have p3 : ∀ th cl lc rc fa ms lo, (mkQ c th cl lc rc fa ms lo).2.1 7 0 3 = .ref L0 := fun _ _ _ _ _ _ _ => q3
  have p5 : ∀ th cl lc rc fa ms lo, (mkQ c th cl lc rc fa ms lo).2.1 7 0 5 = vI cl := fun _ _ _ _ _ _ _ => rfl
  have p6 : ∀ th cl lc rc fa ms lo, (mkQ c th cl lc rc fa ms lo).2.1 7 0 6 = vI lc := fun _ _ _ _ _ _ _ => rfl
  have p7 : ∀ th cl lc rc fa ms lo, (mkQ c th cl lc rc fa ms lo).2.1 7 0 7 = vI rc := fun _ _ _ _ _ _ _ => rfl
  obtain ⟨oD, d0, d1, d2, d3, d4, d5, d6, d7⟩ := hD
  have x3 : ∀ th cl lc rc fa ms lo, (mkQ c th cl lc rc fa ms lo).2.1 14 e 3 = va_rf (if ρ.2 12 0 e < 0 then none else some (da (ρ.2 12 0 e).toNat)) := fun _ _ _ _ _ _ _ => d3
  have x4 : ∀ th cl lc rc fa ms lo, (mkQ c th cl lc rc fa ms lo).2.1 14 e 4 = vI (cn e) := fun _ _ _ _ _ _ _ => d4
  have x5 : ∀ th cl lc rc fa ms lo, (mkQ c th cl lc rc fa ms lo).2.1 14 e 5 = vI (ρ.2 14 0 (e + 1) - ρ.2 14 0 e) := fun _ _ _ _ _ _ _ => d5
  have x6 : ∀ th cl lc rc fa ms lo, (mkQ c th cl lc rc fa ms lo).2.1 14 e 6 = vI (ρ.2 13 0 e) := fun _ _ _ _ _ _ _ => d6
  have x7 : ∀ th cl lc rc fa ms lo, (mkQ c th cl lc rc fa ms lo).2.1 14 e 7 = vI (ρ.2 13 0 (e + 1) - ρ.2 13 0 e) := fun _ _ _ _ _ _ _ => d7
  have n1 : 0 ≤ nix ρ e := Int.ediv_nonneg (by omega) (by decide)
  intro m
  induction m with
  | zero =>
    intro k hk hr
    have hr : r = 1 := hr
    subst hr
    refine w_iload_n rfl rfl ?_
    refine w_aload_n rfl rfl ?_
    refine w_cvV rfl (by decide) (by first | omega | (simp only [Int.toNat_natCast, upF_2] at *; omega)) rfl (VH_at hH oD (by decide) (by decide) (by decide)) mt_49 (Nat.le_of_ble_eq_true rfl) (Nat.le_of_ble_eq_true rfl) (V_bbn hH _ (by omega) hDo0 f2 hD0) ?_
    refine w_icge_t rfl (by omega) (by omega) (by omega) (by omega) (by first | omega | (simp only [Int.toNat_natCast, upF_2] at *; omega)) ?_
    refine w_iconst rfl ?_
    refine w_zreturn rfl rfl (by first | omega | (simp only [Int.toNat_natCast, upF_2] at *; omega)) ?_
    exact ⟨rfl, rfl⟩
  | succ m ih =>
    intro k hk hr
    rw [cnt_pos_s] at hr
    have e1 : ρ.2 13 0 e + (k : Int) = (((ρ.2 13 0 e).toNat + k : Nat) : Int) := by omega
    have s1 := hsp ((ρ.2 13 0 e).toNat + k)
    by_cases q : ρ.2 30 0 ((ρ.2 13 0 e).toNat + k) = 0
    · rw [if_neg (show ¬ (ρ.2 30 0 ((ρ.2 13 0 e).toNat + k) ≠ 0) from fun z => z q), Nat.zero_add] at hr
      refine w_iload_n rfl rfl ?_
      refine w_aload_n rfl rfl ?_
      refine w_cvV rfl (by decide) (by first | omega | (simp only [Int.toNat_natCast, upF_2] at *; omega)) rfl (VH_at hH oD (by decide) (by decide) (by decide)) mt_49 (Nat.le_of_ble_eq_true rfl) (Nat.le_of_ble_eq_true rfl) (V_bbn hH _ (by omega) hDo0 f2 hD0) ?_
      refine w_icge_f rfl (by omega) (by omega) (by omega) (by omega) (by first | omega | (simp only [Int.toNat_natCast, upF_2] at *; omega)) ?_
      refine w_aload_n rfl rfl ?_
      refine w_getfield rfl (VH_at hH oQ (by decide) (by decide) (by decide)) rfl ?_
      rw [p0]
      refine w_aload_n rfl rfl ?_
      refine w_getfield rfl (VH_at hH oD (by decide) (by decide) (by decide)) rfl ?_
      rw [x6]
      refine w_iload_n rfl rfl ?_
      refine w_iadd rfl ?_
      rw [e1]
      refine w_cvV rfl (by decide) (by first | omega | (simp only [Int.toNat_natCast, upF_2] at *; omega)) rfl (VH_ob hH).choose_spec mt_81 (Nat.le_of_ble_eq_true rfl) (Nat.le_of_ble_eq_true rfl) (V_isSp hH _ (by omega) (by omega)) ?_
      refine w_ifeq_t rfl (by omega) (by omega) (by first | omega | (simp only [Int.toNat_natCast, upF_2] at *; omega)) ?_
      refine w_iinc rfl rfl (by decide) ?_
      refine w_goto rfl ?_
      exact ih (k + 1) (by omega) hr
    · rw [if_pos q, if_pos (by omega)] at hr
      subst hr
      refine w_iload_n rfl rfl ?_
      refine w_aload_n rfl rfl ?_
      refine w_cvV rfl (by decide) (by first | omega | (simp only [Int.toNat_natCast, upF_2] at *; omega)) rfl (VH_at hH oD (by decide) (by decide) (by decide)) mt_49 (Nat.le_of_ble_eq_true rfl) (Nat.le_of_ble_eq_true rfl) (V_bbn hH _ (by omega) hDo0 f2 hD0) ?_
      refine w_icge_f rfl (by omega) (by omega) (by omega) (by omega) (by first | omega | (simp only [Int.toNat_natCast, upF_2] at *; omega)) ?_
      refine w_aload_n rfl rfl ?_
      refine w_getfield rfl (VH_at hH oQ (by decide) (by decide) (by decide)) rfl ?_
      rw [p0]
      refine w_aload_n rfl rfl ?_
      refine w_getfield rfl (VH_at hH oD (by decide) (by decide) (by decide)) rfl ?_
      rw [x6]
      refine w_iload_n rfl rfl ?_
      refine w_iadd rfl ?_
      rw [e1]
      refine w_cvV rfl (by decide) (by first | omega | (simp only [Int.toNat_natCast, upF_2] at *; omega)) rfl (VH_ob hH).choose_spec mt_81 (Nat.le_of_ble_eq_true rfl) (Nat.le_of_ble_eq_true rfl) (V_isSp hH _ (by omega) (by omega)) ?_
      refine w_ifeq_f rfl (by omega) (by omega) (by first | omega | (simp only [Int.toNat_natCast, upF_2] at *; omega)) ?_
      refine w_iconst rfl ?_
      refine w_zreturn rfl rfl (by first | omega | (simp only [Int.toNat_natCast, upF_2] at *; omega)) ?_
      exact ⟨rfl, rfl⟩
theorem V_rd (d : Nat) (hd : 3 ≤ d) (hH : VH b V0 Z g (mkQ c th cl lc rc fa ms lo) nc ns cap fi bl (ρ.2 30 0) ls H) (hQ : QI b c V0 Q0 F0 M0 L0) {e : Nat} (hDo : DumpOk ρ e) (f2 : ρ.2 13 0 (e + 1) ≤ 4000) (f3 : ρ.2 13 0 (e + 1) ≤ fi) (hsp : ∀ i, ρ.2 30 0 i = 0 ∨ ρ.2 30 0 i = 1) (hD : DmIs c ρ da cn e) (hb : ρ.2 13 0 e + (2 + nix ρ e) ≤ ρ.2 13 0 (e + 1)) : Wp b L xs d mi_80 0 (ent (mL mi_80) [.ref Q0, .ref (da e)]) [] H (Rt H (vI (if hdBad ρ e then 0 else 1))) := by
  refine w_iconst rfl ?_
  refine w_istore_n rfl (by decide) ?_
  exact V_rd_l d hd hH hQ hDo f2 f3 hsp hD hb _ 0 (Nat.zero_add _) rfl
theorem V_wh_l (d : Nat) (hd : 3 ≤ d) (hH : VH b V0 Z g (mkQ c th cl lc rc fa ms lo) nc ns cap fi bl (ρ.2 30 0) ls H) (hQ : QI b c V0 Q0 F0 M0 L0) {e : Nat} (hDo : DumpOk ρ e) (f2 : ρ.2 13 0 (e + 1) ≤ 4000) (f3 : ρ.2 13 0 (e + 1) ≤ fi) (hsp : ∀ i, ρ.2 30 0 i = 0 ∨ ρ.2 30 0 i = 1) (hD : DmIs c ρ da cn e) (hm : ρ.2 13 0 e ≤ ρ.2 13 0 (e + 1)) {r : Int} : ∀ (m k a : Nat), k + m = (ρ.2 13 0 (e + 1) - ρ.2 13 0 e).toNat → r = a + cnt (fun k => ρ.2 30 0 k = 0) ((ρ.2 13 0 e).toNat + k) m → Wp b L xs d mi_89 4 [some (.ref Q0), some (.ref (da e)), some (vI a), some (vI k)] [] H (Rt H (vI r)) := by
  have hD0 := hD
  have hDo0 := hDo
  obtain ⟨w1, w2, w3, w4, w5, w6, u0, u1, u2, u3, u4, u5⟩ := hDo
  obtain ⟨oQ, q0, q1, q2, q3, oF, oM, oL, hFb, hMb⟩ := hQ
  have p0 : ∀ th cl lc rc fa ms lo, (mkQ c th cl lc rc fa ms lo).2.1 7 0 0 = .ref V0 := fun _ _ _ _ _ _ _ => q0
  have p1 : ∀ th cl lc rc fa ms lo, (mkQ c th cl lc rc fa ms lo).2.1 7 0 1 = .ref F0 := fun _ _ _ _ _ _ _ => q1
  have p2 : ∀ th cl lc rc fa ms lo, (mkQ c th cl lc rc fa ms lo).2.1 7 0 2 = .ref M0 := fun _ _ _ _ _ _ _ => q2
  have p3 : ∀ th cl lc rc fa ms lo, (mkQ c th cl lc rc fa ms lo).2.1 7 0 3 = .ref L0 := fun _ _ _ _ _ _ _ => q3
  have p5 : ∀ th cl lc rc fa ms lo, (mkQ c th cl lc rc fa ms lo).2.1 7 0 5 = vI cl := fun _ _ _ _ _ _ _ => rfl
  have p6 : ∀ th cl lc rc fa ms lo, (mkQ c th cl lc rc fa ms lo).2.1 7 0 6 = vI lc := fun _ _ _ _ _ _ _ => rfl
  have p7 : ∀ th cl lc rc fa ms lo, (mkQ c th cl lc rc fa ms lo).2.1 7 0 7 = vI rc := fun _ _ _ _ _ _ _ => rfl
  obtain ⟨oD, d0, d1, d2, d3, d4, d5, d6, d7⟩ := hD
  have x3 : ∀ th cl lc rc fa ms lo, (mkQ c th cl lc rc fa ms lo).2.1 14 e 3 = va_rf (if ρ.2 12 0 e < 0 then none else some (da (ρ.2 12 0 e).toNat)) := fun _ _ _ _ _ _ _ => d3
  have x4 : ∀ th cl lc rc fa ms lo, (mkQ c th cl lc rc fa ms lo).2.1 14 e 4 = vI (cn e) := fun _ _ _ _ _ _ _ => d4
  have x5 : ∀ th cl lc rc fa ms lo, (mkQ c th cl lc rc fa ms lo).2.1 14 e 5 = vI (ρ.2 14 0 (e + 1) - ρ.2 14 0 e) := fun _ _ _ _ _ _ _ => d5
  have x6 : ∀ th cl lc rc fa ms lo, (mkQ c th cl lc rc fa ms lo).2.1 14 e 6 = vI (ρ.2 13 0 e) := fun _ _ _ _ _ _ _ => d6
  have x7 : ∀ th cl lc rc fa ms lo, (mkQ c th cl lc rc fa ms lo).2.1 14 e 7 = vI (ρ.2 13 0 (e + 1) - ρ.2 13 0 e) := fun _ _ _ _ _ _ _ => d7
  intro m
  induction m with
  | zero =>
    intro k a hk hr
    have hr : r = a := hr.trans (Int.add_zero _)
    subst hr
    refine w_iload_n rfl rfl ?_
    refine w_aload_n rfl rfl ?_
    refine w_getfield rfl (VH_at hH oD (by decide) (by decide) (by decide)) rfl ?_
    rw [x7]
    refine w_icge_t rfl (by omega) (by omega) (by omega) (by omega) (by first | omega | (simp only [Int.toNat_natCast, upF_2] at *; omega)) ?_
    refine w_iload_n rfl rfl ?_
    refine w_ireturn rfl rfl ?_
    exact ⟨rfl, rfl⟩
  | succ m ih =>
    intro k a hk hr
    rw [cnt_pos_s] at hr
    have e1 : ρ.2 13 0 e + (k : Int) = (((ρ.2 13 0 e).toNat + k : Nat) : Int) := by omega
    have s1 := hsp ((ρ.2 13 0 e).toNat + k)
    by_cases q : ρ.2 30 0 ((ρ.2 13 0 e).toNat + k) = 0
    · rw [if_pos q] at hr
      refine w_iload_n rfl rfl ?_
      refine w_aload_n rfl rfl ?_
      refine w_getfield rfl (VH_at hH oD (by decide) (by decide) (by decide)) rfl ?_
      rw [x7]
      refine w_icge_f rfl (by omega) (by omega) (by omega) (by omega) (by first | omega | (simp only [Int.toNat_natCast, upF_2] at *; omega)) ?_
      refine w_aload_n rfl rfl ?_
      refine w_getfield rfl (VH_at hH oQ (by decide) (by decide) (by decide)) rfl ?_
      rw [p0]
      refine w_aload_n rfl rfl ?_
      refine w_getfield rfl (VH_at hH oD (by decide) (by decide) (by decide)) rfl ?_
      rw [x6]
      refine w_iload_n rfl rfl ?_
      refine w_iadd rfl ?_
      rw [e1]
      refine w_cvV rfl (by decide) (by first | omega | (simp only [Int.toNat_natCast, upF_2] at *; omega)) rfl (VH_ob hH).choose_spec mt_81 (Nat.le_of_ble_eq_true rfl) (Nat.le_of_ble_eq_true rfl) (V_isSp hH _ (by omega) (by omega)) ?_
      refine w_ifne_f rfl (by omega) (by omega) (by first | omega | (simp only [Int.toNat_natCast, upF_2] at *; omega)) ?_
      refine w_iinc rfl rfl (by decide) ?_
      refine w_iinc rfl rfl (by decide) ?_
      refine w_goto rfl ?_
      exact ih (k + 1) (a + 1) (by omega) (by rw [← Nat.add_assoc]; omega)
    · rw [if_neg q] at hr
      refine w_iload_n rfl rfl ?_
      refine w_aload_n rfl rfl ?_
      refine w_getfield rfl (VH_at hH oD (by decide) (by decide) (by decide)) rfl ?_
      rw [x7]
      refine w_icge_f rfl (by omega) (by omega) (by omega) (by omega) (by first | omega | (simp only [Int.toNat_natCast, upF_2] at *; omega)) ?_
      refine w_aload_n rfl rfl ?_
      refine w_getfield rfl (VH_at hH oQ (by decide) (by decide) (by decide)) rfl ?_
      rw [p0]
      refine w_aload_n rfl rfl ?_
      refine w_getfield rfl (VH_at hH oD (by decide) (by decide) (by decide)) rfl ?_
      rw [x6]
      refine w_iload_n rfl rfl ?_
      refine w_iadd rfl ?_
      rw [e1]
      refine w_cvV rfl (by decide) (by first | omega | (simp only [Int.toNat_natCast, upF_2] at *; omega)) rfl (VH_ob hH).choose_spec mt_81 (Nat.le_of_ble_eq_true rfl) (Nat.le_of_ble_eq_true rfl) (V_isSp hH _ (by omega) (by omega)) ?_
      refine w_ifne_t rfl (by omega) (by omega) (by first | omega | (simp only [Int.toNat_natCast, upF_2] at *; omega)) ?_
      refine w_iinc rfl rfl (by decide) ?_
      refine w_goto rfl ?_
      exact ih (k + 1) a (by omega) (by rw [← Nat.add_assoc]; omega)
theorem V_wh (d : Nat) (hd : 3 ≤ d) (hH : VH b V0 Z g (mkQ c th cl lc rc fa ms lo) nc ns cap fi bl (ρ.2 30 0) ls H) (hQ : QI b c V0 Q0 F0 M0 L0) {e : Nat} (hDo : DumpOk ρ e) (f2 : ρ.2 13 0 (e + 1) ≤ 4000) (f3 : ρ.2 13 0 (e + 1) ≤ fi) (hsp : ∀ i, ρ.2 30 0 i = 0 ∨ ρ.2 30 0 i = 1) (hD : DmIs c ρ da cn e) (hm : ρ.2 13 0 e ≤ ρ.2 13 0 (e + 1)) : Wp b L xs d mi_89 0 (ent (mL mi_89) [.ref Q0, .ref (da e)]) [] H (Rt H (vI (rdN ρ e))) := by
  refine w_iconst rfl ?_
  refine w_istore_n rfl (by decide) ?_
  refine w_iconst rfl ?_
  refine w_istore_n rfl (by decide) ?_
  exact V_wh_l d hd hH hQ hDo f2 f3 hsp hD hm _ 0 0 (Nat.zero_add _) (by unfold rdN; simp)
theorem V_chd_l (d : Nat) (hH : VH b V0 Z g (mkQ c th cl lc rc fa ms lo) nc ns cap fi bl (ρ.2 30 0) ls H) {E e : Nat} (hDs : ∀ e, e < E → DmIs c ρ da cn e) (hbs : ∀ e, e < E → ρ.2 12 0 e < e) {s : Nat} (s2 : s ≤ 100) : ∀ (m j : Nat) (k : Int), j + m = s → 0 ≤ k → k < E → (∀ i, i < m → 0 ≤ bsN ρ (i + 1) k) → Wp b L xs d mi_79 4 [some (.ref (da e)), some (vI s), some (.ref (da k.toNat)), some (vI j)] [] H (Rt H (.ref (da (bsN ρ m k).toNat))) := by
  intro m
  induction m with
  | zero =>
    intro j k hj k1 k2 hi
    obtain rfl : j = s := hj
    refine w_iload_n rfl rfl ?_
    refine w_iload_n rfl rfl ?_
    refine w_icge_t rfl (by omega) (by omega) (by omega) (by omega) (by omega) ?_
    refine w_aload_n rfl rfl ?_
    refine w_areturn rfl rfl ?_
    exact ⟨rfl, rfl⟩
  | succ m ih =>
    intro j k hj k1 k2 hi
    have hD := hDs k.toNat (by omega)
    have hb := hbs k.toNat (by omega)
    have i0 : 0 ≤ ρ.2 12 0 k.toNat := hi 0 (by omega)
    obtain ⟨oD, d0, d1, d2, d3, -⟩ := hD
    have x3 : (mkQ c th cl lc rc fa ms lo).2.1 14 k.toNat 3 = .ref (da (ρ.2 12 0 k.toNat).toNat) := d3.trans (by rw [if_neg (by omega)]; rfl)
    refine w_iload_n rfl rfl ?_
    refine w_iload_n rfl rfl ?_
    refine w_icge_f rfl (by omega) (by omega) (by omega) (by omega) (by omega) ?_
    refine w_aload_n rfl rfl ?_
    refine w_getfield rfl (VH_at hH oD (by decide) (by decide) (by decide)) rfl ?_
    rw [x3]
    refine w_ifnull_r rfl ?_
    refine w_aload_n rfl rfl ?_
    refine w_getfield rfl (VH_at hH oD (by decide) (by decide) (by decide)) rfl ?_
    rw [x3]
    refine w_astore_n rfl (by decide) ?_
    refine w_iinc rfl rfl (by decide) ?_
    refine w_goto rfl ?_
    exact ih (j + 1) (ρ.2 12 0 k.toNat) (by omega) i0 (by omega) (fun i h1 => hi (i + 1) (by omega))
theorem V_chd (d : Nat) (hH : VH b V0 Z g (mkQ c th cl lc rc fa ms lo) nc ns cap fi bl (ρ.2 30 0) ls H) {E e : Nat} (he : e < E) (hDs : ∀ e, e < E → DmIs c ρ da cn e) (hbs : ∀ e, e < E → ρ.2 12 0 e < e) {s : Nat} (s2 : s ≤ 100) (hs : ∀ i, i ≤ s → 0 ≤ bsN ρ i e) : Wp b L xs d mi_79 0 (ent (mL mi_79) [.ref (da e), vI s]) [] H (Rt H (.ref (da (bsN ρ s e).toNat))) := by
  refine w_aload_n rfl rfl ?_
  refine w_astore_n rfl (by decide) ?_
  refine w_iconst rfl ?_
  refine w_istore_n rfl (by decide) ?_
  exact V_chd_l d hH hDs hbs s2 s 0 (e : Int) (Nat.zero_add _) (by omega) (by omega) (fun i h1 => hs (i + 1) (by omega))
theorem V_cl2_l (d : Nat) (hH : VH b V0 Z g (mkQ c th cl lc rc fa ms lo) nc ns cap fi bl (ρ.2 30 0) ls H) (hQ : QI b c V0 Q0 F0 M0 L0) {Y : YS} (hY : QY ρ fa ms lo Y) {r : Int} : ∀ (m k a : Nat), k + m = 256 → r = a + cnt (fun n => (Y n).2 = true) k m → Wp b L xs d mi_90 4 [some (.ref Q0), some (vI a), some (vI k)] [] H (Rt H (vI r)) := by
  obtain ⟨oQ, q0, q1, q2, q3, oF, oM, oL, hFb, hMb⟩ := hQ
  have p0 : ∀ th cl lc rc fa ms lo, (mkQ c th cl lc rc fa ms lo).2.1 7 0 0 = .ref V0 := fun _ _ _ _ _ _ _ => q0
  have p1 : ∀ th cl lc rc fa ms lo, (mkQ c th cl lc rc fa ms lo).2.1 7 0 1 = .ref F0 := fun _ _ _ _ _ _ _ => q1
  have p2 : ∀ th cl lc rc fa ms lo, (mkQ c th cl lc rc fa ms lo).2.1 7 0 2 = .ref M0 := fun _ _ _ _ _ _ _ => q2
  have p3 : ∀ th cl lc rc fa ms lo, (mkQ c th cl lc rc fa ms lo).2.1 7 0 3 = .ref L0 := fun _ _ _ _ _ _ _ => q3
  have p5 : ∀ th cl lc rc fa ms lo, (mkQ c th cl lc rc fa ms lo).2.1 7 0 5 = vI cl := fun _ _ _ _ _ _ _ => rfl
  have p6 : ∀ th cl lc rc fa ms lo, (mkQ c th cl lc rc fa ms lo).2.1 7 0 6 = vI lc := fun _ _ _ _ _ _ _ => rfl
  have p7 : ∀ th cl lc rc fa ms lo, (mkQ c th cl lc rc fa ms lo).2.1 7 0 7 = vI rc := fun _ _ _ _ _ _ _ => rfl
  have pl : ∀ k : Nat, (mkQ c th cl lc rc fa ms lo).2.1 10 0 (k : Int).toNat = vI (lo k) := fun k => by rw [Int.toNat_natCast]; rfl
  intro m
  induction m with
  | zero =>
    intro k a hk hr
    have hr : r = a := hr.trans (Int.add_zero _)
    subst hr
    refine w_iload_n rfl rfl ?_
    refine w_sipush rfl rfl ?_
    refine w_icge_t rfl (by omega) (by omega) (by omega) (by omega) (by first | omega | (simp only [Int.toNat_natCast, upF_2] at *; omega)) ?_
    refine w_iload_n rfl rfl ?_
    refine w_ireturn rfl rfl ?_
    exact ⟨rfl, rfl⟩
  | succ m ih =>
    intro k a hk hr
    rw [cnt_pos_s] at hr
    have y1 := (hY k (by omega)).1
    by_cases q : (Y k).2 = true
    · rw [if_pos q] at hr y1
      refine w_iload_n rfl rfl ?_
      refine w_sipush rfl rfl ?_
      refine w_icge_f rfl (by omega) (by omega) (by omega) (by omega) (by first | omega | (simp only [Int.toNat_natCast, upF_2] at *; omega)) ?_
      refine w_aload_n rfl rfl ?_
      refine w_getfield rfl (VH_at hH oQ (by decide) (by decide) (by decide)) rfl ?_
      rw [p3]
      refine w_iload_n rfl rfl ?_
      refine v_baload hH rfl oL (by decide) (by decide) (by decide) rfl (by decide) (by first | omega | (simp only [Int.toNat_natCast, upF_2] at *; omega)) (by first | omega | (simp only [Int.toNat_natCast, upF_2] at *; omega)) (by decide) (pl k) ?_
      refine w_ifeq_f rfl (by omega) (by omega) (by first | omega | (simp only [Int.toNat_natCast, upF_2] at *; omega)) ?_
      refine w_iinc rfl rfl (by decide) ?_
      refine w_iinc rfl rfl (by decide) ?_
      refine w_goto rfl ?_
      exact ih (k + 1) (a + 1) (by omega) (by omega)
    · rw [if_neg q] at hr y1
      refine w_iload_n rfl rfl ?_
      refine w_sipush rfl rfl ?_
      refine w_icge_f rfl (by omega) (by omega) (by omega) (by omega) (by first | omega | (simp only [Int.toNat_natCast, upF_2] at *; omega)) ?_
      refine w_aload_n rfl rfl ?_
      refine w_getfield rfl (VH_at hH oQ (by decide) (by decide) (by decide)) rfl ?_
      rw [p3]
      refine w_iload_n rfl rfl ?_
      refine v_baload hH rfl oL (by decide) (by decide) (by decide) rfl (by decide) (by first | omega | (simp only [Int.toNat_natCast, upF_2] at *; omega)) (by first | omega | (simp only [Int.toNat_natCast, upF_2] at *; omega)) (by decide) (pl k) ?_
      refine w_ifeq_t rfl (by omega) (by omega) (by first | omega | (simp only [Int.toNat_natCast, upF_2] at *; omega)) ?_
      refine w_iinc rfl rfl (by decide) ?_
      refine w_goto rfl ?_
      exact ih (k + 1) a (by omega) (by omega)
theorem V_cl2 (d : Nat) (hH : VH b V0 Z g (mkQ c th cl lc rc fa ms lo) nc ns cap fi bl (ρ.2 30 0) ls H) (hQ : QI b c V0 Q0 F0 M0 L0) {Y : YS} (hY : QY ρ fa ms lo Y) : Wp b L xs d mi_90 0 (ent (mL mi_90) [.ref Q0]) [] H (Rt H (vI (lostN Y))) := by
  refine w_iconst rfl ?_
  refine w_istore_n rfl (by decide) ?_
  refine w_iconst rfl ?_
  refine w_istore_n rfl (by decide) ?_
  exact V_cl2_l d hH hQ hY 256 0 0 rfl (by unfold lostN; omega)
end Cq2
