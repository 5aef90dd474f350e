/-! what is restored: all of it -/
theorem ix_read {ρ : RS} {E e : Nat} {bl : Nat → Nat → Int} (hK : KB ρ E bl) (he : e < E) (hDo : DumpOk ρ e) {i : Nat} (hi : (i : Int) < ρ.2 14 0 (e + 1) - ρ.2 14 0 e) : bl ((ρ.2 13 0 e).toNat + (2 + i / 31)) (2 + 2 * (i % 31)) = ρ.2 17 0 ((ρ.2 14 0 e).toNat + i) ∧ bl ((ρ.2 13 0 e).toNat + (2 + i / 31)) (2 + 2 * (i % 31) + 1) = 1 + cont ρ ((ρ.2 14 0 e).toNat + i) := by
  obtain ⟨w1, w2, w3, w4, w5, w6, u0, u1, u2, u3, u4, u5⟩ := hDo
  have hR := u5 ((ρ.2 14 0 e).toNat + i) (by omega) (by omega)
  have hc := cont_ok hR
  obtain ⟨r1, r2, -⟩ := hR
  have hB : BlkIs ρ e ((2 + i / 31 : Nat) : Int) _ := Or.inr (Or.inr (Or.inl ⟨i / 31, by omega, by unfold nix pts; omega, rfl⟩))
  have g := ixG_at (ρ.2 17 0) (fun r => 1 + cont ρ r) (putK (putK zB 0 73 1) 1 ((min ((ρ.2 14 0 e).toNat + 31 * (i / 31) + 31) (ρ.2 14 0 (e + 1)).toNat - ((ρ.2 14 0 e).toNat + 31 * (i / 31)) : Nat) : Int) 1) 2 ((ρ.2 14 0 e).toNat + 31 * (i / 31)) (min ((ρ.2 14 0 e).toNat + 31 * (i / 31) + 31) (ρ.2 14 0 (e + 1)).toNat - ((ρ.2 14 0 e).toNat + 31 * (i / 31))) (i % 31) (by omega)
  rw [← ixB_G, show (ρ.2 14 0 e).toNat + 31 * (i / 31) + i % 31 = (ρ.2 14 0 e).toNat + i by omega] at g
  refine ⟨(hK e _ _ he hB _ (by omega)).trans (g.1.trans ?_), (hK e _ _ he hB _ (by omega)).trans (g.2.trans ?_)⟩
  · omega
  · show (1 + cont ρ ((ρ.2 14 0 e).toNat + i)) % 256 = _
    omega
theorem bsN_s (ρ : RS) : ∀ (s : Nat) (k : Int), bsN ρ (s + 1) k = ρ.2 12 0 (bsN ρ s k).toNat
  | 0, _ => rfl
  | s + 1, k => bsN_s ρ s (ρ.2 12 0 k.toNat)
section Cq4
variable {b L V0 : Nat} {xs : Nat → Int32} {Z : Nat → Prop} {g : Nat → Option AO} {c : CS} {nc ns cap fi : Nat} {bl : Nat → Nat → Int} {ls : Nat → Int} {H : AH} {ρ : RS} {Q0 F0 M0 L0 : Nat} {th cl lc rc : Int} {fa ms lo : Nat → Int} {da cn : Nat → Nat}
variable {E : Nat}
theorem V_tc_l (d : Nat) (hd : 4 ≤ d) (hQ : QI b c V0 Q0 F0 M0 L0) {e : Nat} (hDo : DumpOk ρ e) (f2 : ρ.2 13 0 (e + 1) ≤ 4000) (f3 : ρ.2 13 0 (e + 1) ≤ fi) (hD : DmIs c ρ da cn e) (hK : KB ρ E bl) (he : e < E) (hsp : ∀ i, ρ.2 30 0 i = 0 ∨ ρ.2 30 0 i = 1) (hb : ρ.2 13 0 e + (2 + nix ρ e) ≤ ρ.2 13 0 (e + 1)) : ∀ (m i a : Nat) (H : AH) (Y : YS) (fa ms lo : Nat → Int) (v4 v5 v6 : Option Value), (i : Int) + m = ρ.2 14 0 (e + 1) - ρ.2 14 0 e → (a : Int) + sumC ρ ((ρ.2 14 0 e).toNat + i) m ≤ ρ.2 13 0 (e + 1) → a ≤ 8000 → QY ρ fa ms lo Y →  VH b V0 Z g (mkQ c th cl lc rc fa ms lo) nc ns cap fi bl (ρ.2 30 0) ls H → Wp b L xs d mi_86 12 [some (.ref Q0), some (.ref (da e)), some (vI a), some (vI i), v4, v5, v6] [] H (fun h' o => o = .inl none ∧ ∃ fa ms lo, QY ρ fa ms lo (yrecs ρ a ((ρ.2 14 0 e).toNat + i) m Y) ∧ VH b V0 Z g (mkQ c th cl lc rc fa ms lo) nc ns cap fi bl (ρ.2 30 0) ls h') := by
  have hQ0 := hQ
  have hD0 := hD
  have hDo0 := hDo
  obtain ⟨w1, w2, w3, w4, w5, w6, u0, u1, u2, u3, u4, u5⟩ := hDo
  obtain ⟨oQ, q0, q1, q2, q3, oF, oM, oL, hFb, hMb⟩ := hQ
  have p0 : ∀ th cl lc rc fa ms lo, (mkQ c th cl lc rc fa ms lo).2.1 7 0 0 = .ref V0 := fun _ _ _ _ _ _ _ => q0
  have p1 : ∀ th cl lc rc fa ms lo, (mkQ c th cl lc rc fa ms lo).2.1 7 0 1 = .ref F0 := fun _ _ _ _ _ _ _ => q1
  have p2 : ∀ th cl lc rc fa ms lo, (mkQ c th cl lc rc fa ms lo).2.1 7 0 2 = .ref M0 := fun _ _ _ _ _ _ _ => q2
  have p3 : ∀ th cl lc rc fa ms lo, (mkQ c th cl lc rc fa ms lo).2.1 7 0 3 = .ref L0 := fun _ _ _ _ _ _ _ => q3
  have p5 : ∀ th cl lc rc fa ms lo, (mkQ c th cl lc rc fa ms lo).2.1 7 0 5 = vI cl := fun _ _ _ _ _ _ _ => rfl
  have p6 : ∀ th cl lc rc fa ms lo, (mkQ c th cl lc rc fa ms lo).2.1 7 0 6 = vI lc := fun _ _ _ _ _ _ _ => rfl
  have p7 : ∀ th cl lc rc fa ms lo, (mkQ c th cl lc rc fa ms lo).2.1 7 0 7 = vI rc := fun _ _ _ _ _ _ _ => rfl
  obtain ⟨oD, d0, d1, d2, d3, d4, d5, d6, d7⟩ := hD
  have x3 : ∀ th cl lc rc fa ms lo, (mkQ c th cl lc rc fa ms lo).2.1 14 e 3 = va_rf (if ρ.2 12 0 e < 0 then none else some (da (ρ.2 12 0 e).toNat)) := fun _ _ _ _ _ _ _ => d3
  have x4 : ∀ th cl lc rc fa ms lo, (mkQ c th cl lc rc fa ms lo).2.1 14 e 4 = vI (cn e) := fun _ _ _ _ _ _ _ => d4
  have x5 : ∀ th cl lc rc fa ms lo, (mkQ c th cl lc rc fa ms lo).2.1 14 e 5 = vI (ρ.2 14 0 (e + 1) - ρ.2 14 0 e) := fun _ _ _ _ _ _ _ => d5
  have x6 : ∀ th cl lc rc fa ms lo, (mkQ c th cl lc rc fa ms lo).2.1 14 e 6 = vI (ρ.2 13 0 e) := fun _ _ _ _ _ _ _ => d6
  have x7 : ∀ th cl lc rc fa ms lo, (mkQ c th cl lc rc fa ms lo).2.1 14 e 7 = vI (ρ.2 13 0 (e + 1) - ρ.2 13 0 e) := fun _ _ _ _ _ _ _ => d7
  have n1 : 0 ≤ nix ρ e := Int.ediv_nonneg (by omega) (by decide)
  have nx1 : nix ρ e = (ρ.2 14 0 (e + 1) - ρ.2 14 0 e + 30) / 31 := by unfold nix pts; omega
  intro m
  induction m with
  | zero =>
    intro i a H Y fa ms lo v4 v5 v6 hi ha ha2 hY hH
    refine w_iload_n rfl rfl ?_
    refine w_aload_n rfl rfl ?_
    refine w_getfield rfl (VH_at hH oD (by decide) (by decide) (by decide)) rfl ?_
    rw [x5]
    refine w_icge_t rfl (by omega) (by omega) (by omega) (by omega) (by first | omega | (simp only [Int.toNat_natCast, upF_2] at *; omega)) ?_
    refine w_return rfl rfl ?_
    exact ⟨rfl, fa, ms, lo, hY, hH⟩
  | succ m ih =>
    intro i a H Y fa ms lo v4 v5 v6 hi ha ha2 hY hH
    have hR := u5 ((ρ.2 14 0 e).toNat + i) (by omega) (by omega)
    have hc := cont_ok hR
    obtain ⟨k1, k2⟩ := ix_read hK he hDo0 (i := i) (by omega)
    have ha : (a : Int) + (1 + cont ρ ((ρ.2 14 0 e).toNat + i) + sumC ρ ((ρ.2 14 0 e).toNat + i + 1) m) ≤ ρ.2 13 0 (e + 1) := ha
    have sp := (sumC_pos m ((ρ.2 14 0 e).toNat + i + 1) (fun j j1 j2 => u5 j (by omega) (by omega))).1
    obtain ⟨nd, hnd⟩ : ∃ nd : Nat, ρ.2 17 0 ((ρ.2 14 0 e).toNat + i) = nd := ⟨(ρ.2 17 0 ((ρ.2 14 0 e).toNat + i)).toNat, by have := hR.1; omega⟩
    have hnd2 := hR.2.1
    refine w_iload_n rfl rfl ?_
    refine w_aload_n rfl rfl ?_
    refine w_getfield rfl (VH_at hH oD (by decide) (by decide) (by decide)) rfl ?_
    rw [x5]
    refine w_icge_f rfl (by omega) (by omega) (by omega) (by omega) (by first | omega | (simp only [Int.toNat_natCast, upF_2] at *; omega)) ?_
    refine w_aload_n rfl rfl ?_
    refine w_cvV rfl (by decide) (by first | omega | (simp only [Int.toNat_natCast, upF_2] at *; omega)) rfl (VH_at hH oD (by decide) (by decide) (by decide)) mt_87 (Nat.le_of_ble_eq_true rfl) (Nat.le_of_ble_eq_true rfl) (V_fib hH _ hD0) ?_
    refine w_iload_n rfl rfl ?_
    refine w_bipush rfl rfl ?_
    refine w_idiv rfl (by first | omega | (simp only [Int.toNat_natCast, upF_2] at *; omega)) (by first | omega | (simp only [Int.toNat_natCast, upF_2] at *; omega)) (by first | omega | (simp only [Int.toNat_natCast, upF_2] at *; omega)) (by first | omega | (simp only [Int.toNat_natCast, upF_2] at *; omega)) ?_
    refine w_iadd rfl ?_
    refine w_istore rfl (by decide) ?_
    refine w_iconst rfl ?_
    refine w_iconst rfl ?_
    refine w_iload_n rfl rfl ?_
    refine w_bipush rfl rfl ?_
    refine w_irem rfl (by first | omega | (simp only [Int.toNat_natCast, upF_2] at *; omega)) (by first | omega | (simp only [Int.toNat_natCast, upF_2] at *; omega)) (by first | omega | (simp only [Int.toNat_natCast, upF_2] at *; omega)) (by first | omega | (simp only [Int.toNat_natCast, upF_2] at *; omega)) ?_
    refine w_imul rfl ?_
    refine w_iadd rfl ?_
    refine w_istore rfl (by decide) ?_
    refine w_aload_n rfl rfl ?_
    refine w_getfield rfl (VH_at hH oQ (by decide) (by decide) (by decide)) rfl ?_
    rw [p0]
    refine w_iload rfl rfl ?_
    refine w_iload rfl rfl ?_
    refine w_iconst rfl ?_
    refine w_iadd rfl ?_
    refine w_iconst rfl ?_
    refine w_cvV rfl (by decide) (by first | omega | (simp only [Int.toNat_natCast, upF_2] at *; omega)) rfl (VH_ob hH).choose_spec mt_85 (Nat.le_of_ble_eq_true rfl) (Nat.le_of_ble_eq_true rfl) (V_num1 hH _ (by omega) (k := (ρ.2 13 0 e).toNat + (2 + i / 31)) (at_ := 2 + 2 * (i % 31) + 1) (by omega) (by omega) (by omega) (by omega)) ?_
    rw [k2]
    refine w_istore rfl (by decide) ?_
    refine w_aload_n rfl rfl ?_
    refine w_aload_n rfl rfl ?_
    refine w_getfield rfl (VH_at hH oQ (by decide) (by decide) (by decide)) rfl ?_
    rw [p0]
    refine w_iload rfl rfl ?_
    refine w_iload rfl rfl ?_
    refine w_iconst rfl ?_
    refine w_cvV rfl (by decide) (by first | omega | (simp only [Int.toNat_natCast, upF_2] at *; omega)) rfl (VH_ob hH).choose_spec mt_85 (Nat.le_of_ble_eq_true rfl) (Nat.le_of_ble_eq_true rfl) (V_num1 hH _ (by omega) (k := (ρ.2 13 0 e).toNat + (2 + i / 31)) (at_ := 2 + 2 * (i % 31)) (by omega) (by omega) (by omega) (by omega)) ?_
    rw [k1, hnd]
    refine w_iload_n rfl rfl ?_
    refine w_iload rfl rfl ?_
    refine w_cv rfl (by decide) (by first | omega | (simp only [Int.toNat_natCast, upF_2] at *; omega)) rfl (VH_at hH oQ (by decide) (by decide) (by decide)) mt_88 (Nat.le_of_ble_eq_true rfl) (Nat.le_of_ble_eq_true rfl) (V_tn _ (by omega) hH hQ0 hY (by omega) hnd hR (by omega) ha2 hsp) ?_
    rintro _ _ ⟨rfl, fa, ms, lo, hY, hH⟩
    refine ⟨none, rfl, ?_⟩
    refine w_iload_n rfl rfl ?_
    refine w_iload rfl rfl ?_
    refine w_iadd rfl ?_
    refine w_istore_n rfl (by decide) ?_
    refine w_iinc rfl rfl (by decide) ?_
    refine w_goto rfl ?_
    have ea : (a : Int) + (1 + cont ρ ((ρ.2 14 0 e).toNat + i)) = ((a + 1 + (cont ρ ((ρ.2 14 0 e).toNat + i)).toNat : Nat) : Int) := by omega
    rw [ea]
    exact ih (i + 1) _ _ _ _ _ _ _ _ _ (by omega) (by rw [← Nat.add_assoc]; omega) (by omega) hY hH
theorem V_tc (d : Nat) (hd : 4 ≤ d) (hH : VH b V0 Z g (mkQ c th cl lc rc fa ms lo) nc ns cap fi bl (ρ.2 30 0) ls H) (hQ : QI b c V0 Q0 F0 M0 L0) {e : Nat} (hDo : DumpOk ρ e) (f2 : ρ.2 13 0 (e + 1) ≤ 4000) (f3 : ρ.2 13 0 (e + 1) ≤ fi) (hD : DmIs c ρ da cn e) (hK : KB ρ E bl) (he : e < E) (hsp : ∀ i, ρ.2 30 0 i = 0 ∨ ρ.2 30 0 i = 1) {Y : YS} (hY : QY ρ fa ms lo Y) (hb : ρ.2 13 0 e + (2 + nix ρ e) + sumC ρ (ρ.2 14 0 e).toNat (ρ.2 14 0 (e + 1) - ρ.2 14 0 e).toNat = ρ.2 13 0 (e + 1)) : Wp b L xs d mi_86 0 (ent (mL mi_86) [.ref Q0, .ref (da e)]) [] H (fun h' o => o = .inl none ∧ ∃ fa ms lo, QY ρ fa ms lo (yrecs ρ (ρ.2 13 0 e + (2 + nix ρ e)).toNat (ρ.2 14 0 e).toNat (ρ.2 14 0 (e + 1) - ρ.2 14 0 e).toNat Y) ∧ VH b V0 Z g (mkQ c th cl lc rc fa ms lo) nc ns cap fi bl (ρ.2 30 0) ls h') := by
  have hQ0 := hQ
  have hD0 := hD
  have hDo0 := hDo
  obtain ⟨w1, w2, w3, w4, w5, w6, u0, u1, u2, u3, u4, u5⟩ := hDo
  obtain ⟨oQ, q0, q1, q2, q3, oF, oM, oL, hFb, hMb⟩ := hQ
  have p0 : ∀ th cl lc rc fa ms lo, (mkQ c th cl lc rc fa ms lo).2.1 7 0 0 = .ref V0 := fun _ _ _ _ _ _ _ => q0
  have p1 : ∀ th cl lc rc fa ms lo, (mkQ c th cl lc rc fa ms lo).2.1 7 0 1 = .ref F0 := fun _ _ _ _ _ _ _ => q1
  have p2 : ∀ th cl lc rc fa ms lo, (mkQ c th cl lc rc fa ms lo).2.1 7 0 2 = .ref M0 := fun _ _ _ _ _ _ _ => q2
  have p3 : ∀ th cl lc rc fa ms lo, (mkQ c th cl lc rc fa ms lo).2.1 7 0 3 = .ref L0 := fun _ _ _ _ _ _ _ => q3
  have p5 : ∀ th cl lc rc fa ms lo, (mkQ c th cl lc rc fa ms lo).2.1 7 0 5 = vI cl := fun _ _ _ _ _ _ _ => rfl
  have p6 : ∀ th cl lc rc fa ms lo, (mkQ c th cl lc rc fa ms lo).2.1 7 0 6 = vI lc := fun _ _ _ _ _ _ _ => rfl
  have p7 : ∀ th cl lc rc fa ms lo, (mkQ c th cl lc rc fa ms lo).2.1 7 0 7 = vI rc := fun _ _ _ _ _ _ _ => rfl
  obtain ⟨oD, d0, d1, d2, d3, d4, d5, d6, d7⟩ := hD
  have x3 : ∀ th cl lc rc fa ms lo, (mkQ c th cl lc rc fa ms lo).2.1 14 e 3 = va_rf (if ρ.2 12 0 e < 0 then none else some (da (ρ.2 12 0 e).toNat)) := fun _ _ _ _ _ _ _ => d3
  have x4 : ∀ th cl lc rc fa ms lo, (mkQ c th cl lc rc fa ms lo).2.1 14 e 4 = vI (cn e) := fun _ _ _ _ _ _ _ => d4
  have x5 : ∀ th cl lc rc fa ms lo, (mkQ c th cl lc rc fa ms lo).2.1 14 e 5 = vI (ρ.2 14 0 (e + 1) - ρ.2 14 0 e) := fun _ _ _ _ _ _ _ => d5
  have x6 : ∀ th cl lc rc fa ms lo, (mkQ c th cl lc rc fa ms lo).2.1 14 e 6 = vI (ρ.2 13 0 e) := fun _ _ _ _ _ _ _ => d6
  have x7 : ∀ th cl lc rc fa ms lo, (mkQ c th cl lc rc fa ms lo).2.1 14 e 7 = vI (ρ.2 13 0 (e + 1) - ρ.2 13 0 e) := fun _ _ _ _ _ _ _ => d7
  have n1 : 0 ≤ nix ρ e := Int.ediv_nonneg (by omega) (by decide)
  have sp := (sumC_pos (ρ.2 14 0 (e + 1) - ρ.2 14 0 e).toNat (ρ.2 14 0 e).toNat (fun j j1 j2 => u5 j (by omega) (by omega))).1
  have e1 : ρ.2 13 0 e + (2 + nix ρ e) = (((ρ.2 13 0 e + (2 + nix ρ e)).toNat : Nat) : Int) := by omega
  refine w_aload_n rfl rfl ?_
  refine w_getfield rfl (VH_at hH oD (by decide) (by decide) (by decide)) rfl ?_
  rw [x6]
  refine w_aload_n rfl rfl ?_
  refine w_cvV rfl (by decide) (by first | omega | (simp only [Int.toNat_natCast, upF_2] at *; omega)) rfl (VH_at hH oD (by decide) (by decide) (by decide)) mt_49 (Nat.le_of_ble_eq_true rfl) (Nat.le_of_ble_eq_true rfl) (V_bbn hH _ (by omega) hDo0 f2 hD0) ?_
  refine w_iadd rfl ?_
  rw [e1]
  refine w_istore_n rfl (by decide) ?_
  refine w_iconst rfl ?_
  refine w_istore_n rfl (by decide) ?_
  have := V_tc_l (L := L) (xs := xs) d hd hQ0 hDo0 f2 f3 hD0 hK he hsp (by omega) (ρ.2 14 0 (e + 1) - ρ.2 14 0 e).toNat 0 (ρ.2 13 0 e + (2 + nix ρ e)).toNat H Y fa ms lo none none none (by omega) (by rw [Nat.add_zero]; omega) (by omega) hY hH
  exact this
theorem DK {e : Nat} (hDk : DumpsOk ρ E) (he : e < E) : ρ.2 12 0 e < e ∧ 0 ≤ nix ρ e ∧ 0 ≤ sumC ρ (ρ.2 14 0 e).toNat (ρ.2 14 0 (e + 1) - ρ.2 14 0 e).toNat := by
  obtain ⟨w1, w2, w3, w4, w5, w6, u0, u1, u2, u3, u4, u5⟩ := (hDk e he).1
  exact ⟨w6, Int.ediv_nonneg (by omega) (by decide), (sumC_pos _ _ (fun j j1 j2 => u5 j (by omega) (by omega))).1⟩
theorem V_bb1 (d : Nat) (hd : 5 ≤ d) (hQ : QI b c V0 Q0 F0 M0 L0) (hDs : ∀ e, e < E → DmIs c ρ da cn e) (hDk : DumpsOk ρ E) (hK : KB ρ E bl) (hsp : ∀ i, ρ.2 30 0 i = 0 ∨ ρ.2 30 0 i = 1) (hf : ∀ e, e < E → ρ.2 13 0 (e + 1) ≤ fi) {k : Nat} (hk : k < E) {C : Nat} (hC : C ≤ 100) (hcl : cl = C) (hb1 : ∀ s, s < C → 0 ≤ bsN ρ s k) (hb3 : ∀ s, s < C → bsN ρ s k < E) (hH : VH b V0 Z g (mkQ c th cl lc rc fa ms lo) nc ns cap fi bl (ρ.2 30 0) ls H) {Qt : AH → RO → Prop} (k1 : whl ρ C k → ∀ s, Wp b L xs d mi_78 42 [some (.ref Q0), some (.ref (da k)), some (vI s), none] [] H Qt) (k2 : ¬ whl ρ C k → Qt H (.inl (some (vI 2)))) : ∀ (m s : Nat), s + m = C → (whl ρ C k ↔ whl ρ m (bsN ρ s k)) → Wp b L xs d mi_78 14 [some (.ref Q0), some (.ref (da k)), some (vI s), none] [] H Qt := by
  have hQ0 := hQ
  obtain ⟨oQ, q0, q1, q2, q3, oF, oM, oL, hFb, hMb⟩ := hQ
  have p0 : ∀ th cl lc rc fa ms lo, (mkQ c th cl lc rc fa ms lo).2.1 7 0 0 = .ref V0 := fun _ _ _ _ _ _ _ => q0
  have p1 : ∀ th cl lc rc fa ms lo, (mkQ c th cl lc rc fa ms lo).2.1 7 0 1 = .ref F0 := fun _ _ _ _ _ _ _ => q1
  have p2 : ∀ th cl lc rc fa ms lo, (mkQ c th cl lc rc fa ms lo).2.1 7 0 2 = .ref M0 := fun _ _ _ _ _ _ _ => q2
  have p3 : ∀ th cl lc rc fa ms lo, (mkQ c th cl lc rc fa ms lo).2.1 7 0 3 = .ref L0 := fun _ _ _ _ _ _ _ => q3
  have p5 : ∀ th cl lc rc fa ms lo, (mkQ c th cl lc rc fa ms lo).2.1 7 0 5 = vI cl := fun _ _ _ _ _ _ _ => rfl
  have p6 : ∀ th cl lc rc fa ms lo, (mkQ c th cl lc rc fa ms lo).2.1 7 0 6 = vI lc := fun _ _ _ _ _ _ _ => rfl
  have p7 : ∀ th cl lc rc fa ms lo, (mkQ c th cl lc rc fa ms lo).2.1 7 0 7 = vI rc := fun _ _ _ _ _ _ _ => rfl
  subst hcl
  have oD := (hDs k hk).1
  intro m
  induction m with
  | zero =>
    intro s hs hw
    refine w_iload_n rfl rfl ?_
    refine w_aload_n rfl rfl ?_
    refine w_getfield rfl (VH_at hH oQ (by decide) (by decide) (by decide)) rfl ?_
    rw [p5]
    refine w_icge_t rfl (by omega) (by omega) (by omega) (by omega) (by first | omega | (simp only [Int.toNat_natCast, upF_2] at *; omega)) ?_
    exact k1 (hw.mpr trivial) _
  | succ m ih =>
    intro s hs hw
    have p1 := hb1 s (by omega)
    have p2 := hb3 s (by omega)
    have hw2 : whl ρ C k ↔ (¬ hdBad ρ (bsN ρ s k).toNat ∧ whl ρ m (ρ.2 12 0 (bsN ρ s k).toNat)) := hw
    have oX := (hDs (bsN ρ s k).toNat (by omega)).1
    have dk := hDk (bsN ρ s k).toNat (by omega)
    have dk2 := DK hDk (e := (bsN ρ s k).toNat) (by omega)
    have fk := hf (bsN ρ s k).toNat (by omega)
    by_cases q : hdBad ρ (bsN ρ s k).toNat
    · refine w_iload_n rfl rfl ?_
      refine w_aload_n rfl rfl ?_
      refine w_getfield rfl (VH_at hH oQ (by decide) (by decide) (by decide)) rfl ?_
      rw [p5]
      refine w_icge_f rfl (by omega) (by omega) (by omega) (by omega) (by first | omega | (simp only [Int.toNat_natCast, upF_2] at *; omega)) ?_
      refine w_aload_n rfl rfl ?_
      refine w_aload_n rfl rfl ?_
      refine w_iload_n rfl rfl ?_
      refine w_cvV rfl (by decide) (by first | omega | (simp only [Int.toNat_natCast, upF_2] at *; omega)) rfl (VH_at hH oD (by decide) (by decide) (by decide)) mt_79 (Nat.le_of_ble_eq_true rfl) (Nat.le_of_ble_eq_true rfl) (V_chd _ hH hk hDs (fun e he => (DK hDk he).1) (by omega) (fun i hi => hb1 i (by omega))) ?_
      refine w_cvV rfl (by decide) (by first | omega | (simp only [Int.toNat_natCast, upF_2] at *; omega)) rfl (VH_at hH oQ (by decide) (by decide) (by decide)) mt_80 (Nat.le_of_ble_eq_true rfl) (Nat.le_of_ble_eq_true rfl) (V_rd _ (by omega) hH hQ0 dk.1 dk.2.2.1 fk hsp (hDs _ (by omega)) (by omega)) ?_
      rw [if_pos q]
      refine w_ifne_f rfl (by omega) (by omega) (by first | omega | (simp only [Int.toNat_natCast, upF_2] at *; omega)) ?_
      refine w_iconst rfl ?_
      refine w_ireturn rfl rfl ?_
      exact k2 (fun z => (hw2.mp z).1 q)
    · refine w_iload_n rfl rfl ?_
      refine w_aload_n rfl rfl ?_
      refine w_getfield rfl (VH_at hH oQ (by decide) (by decide) (by decide)) rfl ?_
      rw [p5]
      refine w_icge_f rfl (by omega) (by omega) (by omega) (by omega) (by first | omega | (simp only [Int.toNat_natCast, upF_2] at *; omega)) ?_
      refine w_aload_n rfl rfl ?_
      refine w_aload_n rfl rfl ?_
      refine w_iload_n rfl rfl ?_
      refine w_cvV rfl (by decide) (by first | omega | (simp only [Int.toNat_natCast, upF_2] at *; omega)) rfl (VH_at hH oD (by decide) (by decide) (by decide)) mt_79 (Nat.le_of_ble_eq_true rfl) (Nat.le_of_ble_eq_true rfl) (V_chd _ hH hk hDs (fun e he => (DK hDk he).1) (by omega) (fun i hi => hb1 i (by omega))) ?_
      refine w_cvV rfl (by decide) (by first | omega | (simp only [Int.toNat_natCast, upF_2] at *; omega)) rfl (VH_at hH oQ (by decide) (by decide) (by decide)) mt_80 (Nat.le_of_ble_eq_true rfl) (Nat.le_of_ble_eq_true rfl) (V_rd _ (by omega) hH hQ0 dk.1 dk.2.2.1 fk hsp (hDs _ (by omega)) (by omega)) ?_
      rw [if_neg q]
      refine w_ifne_t rfl (by omega) (by omega) (by first | omega | (simp only [Int.toNat_natCast, upF_2] at *; omega)) ?_
      refine w_iinc rfl rfl (by decide) ?_
      refine w_goto rfl ?_
      exact ih (s + 1) (by omega) (hw2.trans ⟨fun z => by rw [bsN_s]; exact z.2, fun z => ⟨q, by rw [bsN_s] at z; exact z⟩⟩)
theorem V_bb2 (d : Nat) (hd : 5 ≤ d) (hQ : QI b c V0 Q0 F0 M0 L0) (hDs : ∀ e, e < E → DmIs c ρ da cn e) (hDk : DumpsOk ρ E) (hK : KB ρ E bl) (hsp : ∀ i, ρ.2 30 0 i = 0 ∨ ρ.2 30 0 i = 1) (hf : ∀ e, e < E → ρ.2 13 0 (e + 1) ≤ fi) {k : Nat} (hk : k < E) {C : Nat} (hC : C ≤ 100) (hb1 : ∀ s, s < C → 0 ≤ bsN ρ s k) (hb3 : ∀ s, s < C → bsN ρ s k < E) {Qt : AH → RO → Prop} {Yf : YS} {rf : Int} (k1 : ∀ H fa ms lo u2 u3, QY ρ fa ms lo Yf → VH b V0 Z g (mkQ c th cl lc rf fa ms lo) nc ns cap fi bl (ρ.2 30 0) ls H → Wp b L xs d mi_78 89 [some (.ref Q0), some (.ref (da k)), u2, u3] [] H Qt) : ∀ (m : Nat) (H : AH) (Y : YS) (rc : Int) (fa ms lo : Nat → Int) (u3 : Option Value), m ≤ C → Yf = yst ρ k m Y → rf = rc + rdS ρ k m → QY ρ fa ms lo Y → VH b V0 Z g (mkQ c th cl lc rc fa ms lo) nc ns cap fi bl (ρ.2 30 0) ls H → Wp b L xs d mi_78 49 [some (.ref Q0), some (.ref (da k)), some (vI ((m : Int) - 1)), u3] [] H Qt := by
  have hQ0 := hQ
  obtain ⟨oQ, q0, q1, q2, q3, oF, oM, oL, hFb, hMb⟩ := hQ
  have p0 : ∀ th cl lc rc fa ms lo, (mkQ c th cl lc rc fa ms lo).2.1 7 0 0 = .ref V0 := fun _ _ _ _ _ _ _ => q0
  have p1 : ∀ th cl lc rc fa ms lo, (mkQ c th cl lc rc fa ms lo).2.1 7 0 1 = .ref F0 := fun _ _ _ _ _ _ _ => q1
  have p2 : ∀ th cl lc rc fa ms lo, (mkQ c th cl lc rc fa ms lo).2.1 7 0 2 = .ref M0 := fun _ _ _ _ _ _ _ => q2
  have p3 : ∀ th cl lc rc fa ms lo, (mkQ c th cl lc rc fa ms lo).2.1 7 0 3 = .ref L0 := fun _ _ _ _ _ _ _ => q3
  have p5 : ∀ th cl lc rc fa ms lo, (mkQ c th cl lc rc fa ms lo).2.1 7 0 5 = vI cl := fun _ _ _ _ _ _ _ => rfl
  have p6 : ∀ th cl lc rc fa ms lo, (mkQ c th cl lc rc fa ms lo).2.1 7 0 6 = vI lc := fun _ _ _ _ _ _ _ => rfl
  have p7 : ∀ th cl lc rc fa ms lo, (mkQ c th cl lc rc fa ms lo).2.1 7 0 7 = vI rc := fun _ _ _ _ _ _ _ => rfl
  have oD := (hDs k hk).1
  intro m
  induction m with
  | zero =>
    intro H Y rc fa ms lo u3 hm hYf hrf hY hH
    have hYf : Yf = Y := hYf
    have hrf : rf = rc := hrf.trans (Int.add_zero _)
    subst hYf hrf
    refine w_iload_n rfl rfl ?_
    refine w_iflt_t rfl (by omega) (by omega) (by first | omega | (simp only [Int.toNat_natCast, upF_2] at *; omega)) ?_
    exact k1 H fa ms lo _ _ hY hH
  | succ m ih =>
    intro H Y rc fa ms lo u3 hm hYf hrf hY hH
    have hYf : Yf = yst ρ k m (yone ρ (bsN ρ m k).toNat Y) := hYf
    have hrf : rf = rc + (rdN ρ (bsN ρ m k).toNat + rdS ρ k m) := hrf
    have p1 := hb1 m (by omega)
    have p2 := hb3 m (by omega)
    have em : ((m + 1 : Nat) : Int) - 1 = (m : Int) := by omega
    rw [em]
    have oX := (hDs (bsN ρ m k).toNat (by omega)).1
    have dk := hDk (bsN ρ m k).toNat (by omega)
    have dk2 := DK hDk (e := (bsN ρ m k).toNat) (by omega)
    have fk := hf (bsN ρ m k).toNat (by omega)
    refine w_iload_n rfl rfl ?_
    refine w_iflt_f rfl (by omega) (by omega) (by first | omega | (simp only [Int.toNat_natCast, upF_2] at *; omega)) ?_
    refine w_aload_n rfl rfl ?_
    refine w_iload_n rfl rfl ?_
    refine w_cvV rfl (by decide) (by first | omega | (simp only [Int.toNat_natCast, upF_2] at *; omega)) rfl (VH_at hH oD (by decide) (by decide) (by decide)) mt_79 (Nat.le_of_ble_eq_true rfl) (Nat.le_of_ble_eq_true rfl) (V_chd _ hH hk hDs (fun e he => (DK hDk he).1) (by omega) (fun i hi => hb1 i (by omega))) ?_
    refine w_astore_n rfl (by decide) ?_
    refine w_aload_n rfl rfl ?_
    refine w_aload_n rfl rfl ?_
    refine w_cv rfl (by decide) (by first | omega | (simp only [Int.toNat_natCast, upF_2] at *; omega)) rfl (VH_at hH oQ (by decide) (by decide) (by decide)) mt_83 (Nat.le_of_ble_eq_true rfl) (Nat.le_of_ble_eq_true rfl) (V_dru _ (by omega) hH hQ0 dk.1 dk.2.2.1 fk (hDs _ (by omega)) hK (by omega) (by omega)) ?_
    rintro _ _ ⟨rfl, hH⟩
    refine ⟨none, rfl, ?_⟩
    refine w_aload_n rfl rfl ?_
    refine w_aload_n rfl rfl ?_
    refine w_cv rfl (by decide) (by first | omega | (simp only [Int.toNat_natCast, upF_2] at *; omega)) rfl (VH_at hH oQ (by decide) (by decide) (by decide)) mt_86 (Nat.le_of_ble_eq_true rfl) (Nat.le_of_ble_eq_true rfl) (V_tc _ (by omega) hH hQ0 dk.1 dk.2.2.1 fk (hDs _ (by omega)) hK (by omega) hsp (QY_dr hY _) dk.2.2.2) ?_
    rintro _ _ ⟨rfl, fa, ms, lo, hY, hH⟩
    refine ⟨none, rfl, ?_⟩
    refine w_aload_n rfl rfl ?_
    refine w_dupR rfl ?_
    refine w_getfield rfl (VH_at hH oQ (by decide) (by decide) (by decide)) rfl ?_
    rw [p7]
    refine w_aload_n rfl rfl ?_
    refine w_aload_n rfl rfl ?_
    refine w_cvV rfl (by decide) (by first | omega | (simp only [Int.toNat_natCast, upF_2] at *; omega)) rfl (VH_at hH oQ (by decide) (by decide) (by decide)) mt_89 (Nat.le_of_ble_eq_true rfl) (Nat.le_of_ble_eq_true rfl) (V_wh _ (by omega) hH hQ0 dk.1 dk.2.2.1 fk hsp (hDs _ (by omega)) (by omega)) ?_
    refine w_iadd rfl ?_
    refine v_put hH rfl oQ (by decide) (by decide) (by decide) rfl rfl rfl rfl ?_
    intro H eH hH
    rw [mkQ_7 _ _ _ _ _ _ _ _ (qfl_7 _ _ _ _ _ _)] at hH
    refine w_iinc rfl rfl (by decide) ?_
    refine w_goto rfl ?_
    exact ih _ _ _ _ _ _ _ (by omega) hYf (by omega) hY hH
theorem V_bb (d : Nat) (hd : 6 ≤ d) (hH : VH b V0 Z g (mkQ c th cl lc rc fa ms lo) nc ns cap fi bl (ρ.2 30 0) ls H) (hQ : QI b c V0 Q0 F0 M0 L0) (hDs : ∀ e, e < E → DmIs c ρ da cn e) (hDk : DumpsOk ρ E) (hK : KB ρ E bl) (hsp : ∀ i, ρ.2 30 0 i = 0 ∨ ρ.2 30 0 i = 1) (hf : ∀ e, e < E → ρ.2 13 0 (e + 1) ≤ fi) {k : Nat} (hk : k < E) (hC : cn k ≤ 100) (hb1 : ∀ s, s < cn k → 0 ≤ bsN ρ s k) (hb3 : ∀ s, s < cn k → bsN ρ s k < E) : Wp b L xs d mi_78 0 (ent (mL mi_78) [.ref Q0, .ref (da k)]) [] H (fun h' o => (¬ whl ρ (cn k) k ∧ o = .inl (some (vI 2)) ∧ ∃ fa ms lo, VH b V0 Z g (mkQ c 0 (cn k) 0 0 fa ms lo) nc ns cap fi bl (ρ.2 30 0) ls h') ∨ (whl ρ (cn k) k ∧ o = .inl (some (vI (if 0 < lostN (yst ρ k (cn k) (fun _ => yNo)) then 1 else 0))) ∧ ∃ fa ms lo, QY ρ fa ms lo (yst ρ k (cn k) (fun _ => yNo)) ∧ VH b V0 Z g (mkQ c 1 (cn k) (lostN (yst ρ k (cn k) (fun _ => yNo))) (rdS ρ k (cn k)) fa ms lo) nc ns cap fi bl (ρ.2 30 0) ls h')) := by
  have hQ0 := hQ
  obtain ⟨oQ, q0, q1, q2, q3, oF, oM, oL, hFb, hMb⟩ := hQ
  have p0 : ∀ th cl lc rc fa ms lo, (mkQ c th cl lc rc fa ms lo).2.1 7 0 0 = .ref V0 := fun _ _ _ _ _ _ _ => q0
  have p1 : ∀ th cl lc rc fa ms lo, (mkQ c th cl lc rc fa ms lo).2.1 7 0 1 = .ref F0 := fun _ _ _ _ _ _ _ => q1
  have p2 : ∀ th cl lc rc fa ms lo, (mkQ c th cl lc rc fa ms lo).2.1 7 0 2 = .ref M0 := fun _ _ _ _ _ _ _ => q2
  have p3 : ∀ th cl lc rc fa ms lo, (mkQ c th cl lc rc fa ms lo).2.1 7 0 3 = .ref L0 := fun _ _ _ _ _ _ _ => q3
  have p5 : ∀ th cl lc rc fa ms lo, (mkQ c th cl lc rc fa ms lo).2.1 7 0 5 = vI cl := fun _ _ _ _ _ _ _ => rfl
  have p6 : ∀ th cl lc rc fa ms lo, (mkQ c th cl lc rc fa ms lo).2.1 7 0 6 = vI lc := fun _ _ _ _ _ _ _ => rfl
  have p7 : ∀ th cl lc rc fa ms lo, (mkQ c th cl lc rc fa ms lo).2.1 7 0 7 = vI rc := fun _ _ _ _ _ _ _ => rfl
  have oD := (hDs k hk).1
  have x4 : ∀ th cl lc rc fa ms lo, (mkQ c th cl lc rc fa ms lo).2.1 14 k 4 = vI (cn k) := fun _ _ _ _ _ _ _ => (hDs k hk).2.2.2.2.2.1
  have ln : lostN (yst ρ k (cn k) (fun _ => yNo)) ≤ 256 := cnt_le _ _ _
  refine w_aload_n rfl rfl ?_
  refine w_cv rfl (by decide) (by first | omega | (simp only [Int.toNat_natCast, upF_2] at *; omega)) rfl (VH_at hH oQ (by decide) (by decide) (by decide)) mt_10 (Nat.le_of_ble_eq_true rfl) (Nat.le_of_ble_eq_true rfl) (V_qclr hH _ (by omega) hQ0) ?_
  rintro _ _ ⟨rfl, hH⟩
  refine ⟨none, rfl, ?_⟩
  refine w_aload_n rfl rfl ?_
  refine w_aload_n rfl rfl ?_
  refine w_getfield rfl (VH_at hH oD (by decide) (by decide) (by decide)) rfl ?_
  rw [x4]
  refine v_put hH rfl oQ (by decide) (by decide) (by decide) rfl rfl rfl rfl ?_
  intro H eH hH
  rw [mkQ_7 _ _ _ _ _ _ _ _ (qfl_5 _ _ _ _ _ _)] at hH
  refine w_iconst rfl ?_
  refine w_istore_n rfl (by decide) ?_
  refine V_bb1 d (by omega) hQ0 hDs hDk hK hsp hf hk hC rfl hb1 hb3 hH (fun hw s => ?_) (fun hw => Or.inl ⟨hw, rfl, _, _, _, hH⟩) (cn k) 0 (Nat.zero_add _) Iff.rfl
  refine w_aload_n rfl rfl ?_
  refine w_getfield rfl (VH_at hH oQ (by decide) (by decide) (by decide)) rfl ?_
  rw [p5]
  refine w_iconst rfl ?_
  refine w_isub rfl ?_
  refine w_istore_n rfl (by decide) ?_
  refine V_bb2 (rf := rdS ρ k (cn k)) d (by omega) hQ0 hDs hDk hK hsp hf hk hC hb1 hb3 (fun H fa ms lo u2 u3 hY hH => ?_) (cn k) H (fun _ => yNo) 0 _ _ _ _ (Nat.le_refl _) rfl (by omega) (fun n hn => ⟨?_, ?_⟩) hH
  rotate_left
  · show (if n < 256 then (0 : Int) else lo n) = _
    rw [if_pos hn]
    rfl
  · show (if n < 256 then (-1 : Int) else fa n) = -1
    rw [if_pos hn]
  refine w_aload_n rfl rfl ?_
  refine w_iconst rfl ?_
  refine v_put hH rfl oQ (by decide) (by decide) (by decide) rfl rfl rfl rfl ?_
  intro H eH hH
  rw [mkQ_7 _ _ _ _ _ _ _ _ (qfl_4 _ _ _ _ _ _)] at hH
  refine w_aload_n rfl rfl ?_
  refine w_aload_n rfl rfl ?_
  refine w_cvV rfl (by decide) (by first | omega | (simp only [Int.toNat_natCast, upF_2] at *; omega)) rfl (VH_at hH oQ (by decide) (by decide) (by decide)) mt_90 (Nat.le_of_ble_eq_true rfl) (Nat.le_of_ble_eq_true rfl) (V_cl2 _ hH hQ0 hY) ?_
  refine v_put hH rfl oQ (by decide) (by decide) (by decide) rfl rfl rfl rfl ?_
  intro H eH hH
  rw [mkQ_7 _ _ _ _ _ _ _ _ (qfl_6 _ _ _ _ _ _)] at hH
  refine w_aload_n rfl rfl ?_
  refine w_getfield rfl (VH_at hH oQ (by decide) (by decide) (by decide)) rfl ?_
  rw [p6]
  by_cases q : 0 < lostN (yst ρ k (cn k) (fun _ => yNo))
  · refine w_ifne_t rfl (by omega) (by omega) (by omega) ?_
    refine w_iconst rfl ?_
    refine w_ireturn rfl rfl ?_
    exact Or.inr ⟨hw, by rw [if_pos q], fa, ms, lo, hY, hH⟩
  · refine w_ifne_f rfl (by omega) (by omega) (by omega) ?_
    refine w_iconst rfl ?_
    refine w_goto rfl ?_
    refine w_ireturn rfl rfl ?_
    exact Or.inr ⟨hw, by rw [if_neg q], fa, ms, lo, hY, hH⟩
end Cq4
