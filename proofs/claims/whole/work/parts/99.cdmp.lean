/-! dump: the class's -/
theorem lsB_s (ρ : RS) (l : Int) : ∀ (m k : Nat) (cur : Int), lsB ρ l k (m + 1) cur = if ρ.2 10 0 (k + m) < l then ((k + m : Nat) : Int) else lsB ρ l k m cur
  | 0, k, cur => rfl
  | m + 1, k, cur => by
    show lsB ρ l (k + 1) (m + 1) (if ρ.2 10 0 k < l then (k : Int) else cur) = _
    rw [lsB_s ρ l m (k + 1), show k + 1 + m = k + (m + 1) by omega]
    rfl
def dm0 : Nat → Value := fun f => if f = 3 then .null else vI 0
def dmB (c : CS) (a E : Nat) : CS := nwC c a 14 E dm0 c.2.2
def dmI (c : CS) (a E : Nat) (l T : Int) (bo : Value) (n : Int) : CS := upC (upC (upC (upC (upC (dmB c a E) 14 E 0 (vI E)) 14 E 1 (vI l)) 14 E 2 (vI T)) 14 E 3 bo) 14 E 4 (vI n)
def dmC (c : CS) (a E : Nat) (l T : Int) (bo : Value) (n N F K : Int) : CS := upC (upC (upC (dmI c a E l T bo n) 14 E 5 (vI N)) 14 E 6 (vI F)) 14 E 7 (vI K)
theorem dmC_k {c : CS} {a E : Nat} {l T n N F K : Int} {bo : Value} {k i f : Nat} (h : ¬ (k = 14 ∧ i = E)) : (dmC c a E l T bo n N F K).2.1 k i f = c.2.1 k i f := by
  unfold dmC dmI dmB
  rw [upC_ne (by omega), upC_ne (by omega), upC_ne (by omega), upC_ne (by omega), upC_ne (by omega), upC_ne (by omega), upC_ne (by omega), upC_ne (by omega), nw_v h]
theorem dmC_f {c : CS} {a E : Nat} {l T n N F K : Int} {bo : Value} : (dmC c a E l T bo n N F K).2.1 14 E 0 = vI E ∧ (dmC c a E l T bo n N F K).2.1 14 E 1 = vI l ∧ (dmC c a E l T bo n N F K).2.1 14 E 2 = vI T ∧ (dmC c a E l T bo n N F K).2.1 14 E 3 = bo ∧ (dmC c a E l T bo n N F K).2.1 14 E 4 = vI n ∧ (dmC c a E l T bo n N F K).2.1 14 E 5 = vI N ∧ (dmC c a E l T bo n N F K).2.1 14 E 6 = vI F ∧ (dmC c a E l T bo n N F K).2.1 14 E 7 = vI K := by
  unfold dmC dmI
  refine ⟨?_, ?_, ?_, ?_, ?_, ?_, ?_, ?_⟩
  · rw [upC_ne (by omega), upC_ne (by omega), upC_ne (by omega), upC_ne (by omega), upC_ne (by omega), upC_ne (by omega), upC_ne (by omega), upC_eq]
  · rw [upC_ne (by omega), upC_ne (by omega), upC_ne (by omega), upC_ne (by omega), upC_ne (by omega), upC_ne (by omega), upC_eq]
  · rw [upC_ne (by omega), upC_ne (by omega), upC_ne (by omega), upC_ne (by omega), upC_ne (by omega), upC_eq]
  · rw [upC_ne (by omega), upC_ne (by omega), upC_ne (by omega), upC_ne (by omega), upC_eq]
  · rw [upC_ne (by omega), upC_ne (by omega), upC_ne (by omega), upC_eq]
  · rw [upC_ne (by omega), upC_ne (by omega), upC_eq]
  · rw [upC_ne (by omega), upC_eq]
  · rw [upC_eq]
theorem dmC_1 (c : CS) (a E : Nat) (l T : Int) (bo : Value) (n N F K : Int) (x : Nat) : (dmC c a E l T bo n N F K).1 x = if x = a then some (14, E) else c.1 x := rfl
section Vdm
variable {L : Nat} {xs : Nat → Int32} {b m0 tm nc ns : Nat} {ρ : RS} {of : Nat → Value} {H : AH} {A : Nat → Nat} {c : CS} {g : Nat → Option AO} {na : Nat → Option Nat} {cs ad : Nat → Nat → Nat} {qs : Nat → Nat} {oc : Nat → Option Nat} {dt : Nat → Nat → Int} {da cn : Nat → Nat} {bl : Nat → Nat → Int} {E : Nat} {fa ms lo : Nat → Int} {Y : YS}
theorem V_lb_l {V0 cap fi : Nat} {Z : Nat → Prop} {sp ls : Nat → Int} (hH : VH b V0 Z g c nc ns cap fi bl sp ls H) (d : Nat) (oV : c.1 (A 0) = some (0, 0)) (v4 : c.2.1 0 0 4 = .ref (A 11)) (oDs : c.1 (A 11) = some (11, 0)) (hE : E ≤ 100) (hD : ∀ e, e < E → c.2.1 11 0 e = .ref (da e) ∧ c.1 (da e) = some (14, e) ∧ c.2.1 14 e 1 = vI (ρ.2 10 0 e) ∧ 0 ≤ ρ.2 10 0 e ∧ ρ.2 10 0 e ≤ 9) {l : Int} (l1 : 0 ≤ l) (l2 : l ≤ 9) : ∀ (m : Nat) (u : Option Value), m ≤ E → Wp b L xs d mi_44 7 [some (.ref (A 0)), some (vI l), some (vI ((m : Int) - 1)), u] [] H (Rt H (va_rf (if lsB ρ l 0 m (-1) < 0 then none else some (da (lsB ρ l 0 m (-1)).toNat)))) := by
  intro m
  induction m with
  | zero =>
    intro u hm
    refine w_iload_n rfl rfl ?_
    refine w_iflt_t rfl (by omega) (by omega) (by omega) ?_
    refine w_aconst_null rfl ?_
    refine w_areturnN rfl rfl ?_
    exact ⟨rfl, rfl⟩
  | succ m ih =>
    intro u hm
    obtain ⟨g1, g2, g3, g4, g5⟩ := hD m (by omega)
    have em : ((m + 1 : Nat) : Int) - 1 = (m : Int) := by omega
    rw [em, lsB_s, Nat.zero_add]
    refine w_iload_n rfl rfl ?_
    refine w_iflt_f rfl (by omega) (by omega) (by omega) ?_
    refine w_aload_n rfl rfl ?_
    refine w_getfield rfl (VH_at hH oV (by decide) (by decide) (by decide)) rfl ?_
    rw [v4]
    refine w_iload_n rfl rfl ?_
    refine v_aaload hH rfl oDs (by decide) (by decide) (by decide) rfl (by omega) (by omega) (by decide) (show c.2.1 11 0 (m : Int).toNat = .ref (da m) from by rw [Int.toNat_natCast]; exact g1) ?_
    refine w_astore_n rfl (by decide) ?_
    refine w_aload_n rfl rfl ?_
    refine w_ifnull_r rfl ?_
    refine w_aload_n rfl rfl ?_
    refine w_getfield rfl (VH_at hH g2 (by decide) (by decide) (by decide)) rfl ?_
    rw [g3]
    refine w_iload_n rfl rfl ?_
    by_cases q : ρ.2 10 0 m < l
    · rw [if_pos q, if_neg (by omega), Int.toNat_natCast]
      refine w_icge_f rfl (by omega) (by omega) (by omega) (by omega) (by omega) ?_
      refine w_aload_n rfl rfl ?_
      refine w_areturn rfl rfl ?_
      exact ⟨rfl, rfl⟩
    · rw [if_neg q]
      refine w_icge_t rfl (by omega) (by omega) (by omega) (by omega) (by omega) ?_
      refine w_iinc rfl rfl (by decide) ?_
      refine w_goto rfl ?_
      exact ih _ (by omega)
theorem len5 (a : Nat) (x l T : Int) (bo : Option Nat) : ((.ref a :: [vI x, vI l, vI T, va_rf bo]).flatMap ent1).length ≤ mL mi_45 := by cases bo <;> exact Nat.le_of_ble_eq_true rfl
theorem V_dinit {V0 cap fi : Nat} {Z : Nat → Prop} {sp ls : Nat → Int} {a : Nat} (hH : VH b V0 Z g c nc ns cap fi bl sp ls H) (d : Nat) (hd : 1 ≤ d) (oA : c.1 a = some (14, E)) {x l T : Int} {bo : Option Nat} {n : Int} (hb : (bo = none ∧ n = 1) ∨ ∃ D e m, bo = some D ∧ c.1 D = some (14, e) ∧ e ≠ E ∧ c.2.1 14 e 4 = vI m ∧ n = m + 1) : Wp b L xs d mi_45 0 (ent (mL mi_45) [.ref a, vI x, vI l, vI T, va_rf bo]) [] H (fun h' o => o = .inl none ∧ h'.1 = H.1 ∧ VH b V0 Z g (upC (upC (upC (upC (upC c 14 E 0 (vI x)) 14 E 1 (vI l)) 14 E 2 (vI T)) 14 E 3 (va_rf bo)) 14 E 4 (vI n)) nc ns cap fi bl sp ls h') := by
  rw [show ent (mL mi_45) [.ref a, vI x, vI l, vI T, va_rf bo] = [some (.ref a), some (vI x), some (vI l), some (vI T), some (va_rf bo)] from by cases bo <;> rfl]
  refine w_aload_n rfl rfl ?_
  refine w_obj rfl hd (Nat.le_of_ble_eq_true rfl) ?_
  refine w_aload_n rfl rfl ?_
  refine w_iload_n rfl rfl ?_
  refine v_put hH rfl oA (by decide) (by decide) (by decide) rfl rfl rfl rfl ?_
  intro H1 eH1 hH
  refine w_aload_n rfl rfl ?_
  refine w_iload_n rfl rfl ?_
  refine v_put hH rfl oA (by decide) (by decide) (by decide) rfl rfl rfl rfl ?_
  intro H2 eH2 hH
  refine w_aload_n rfl rfl ?_
  refine w_iload_n rfl rfl ?_
  refine v_put hH rfl oA (by decide) (by decide) (by decide) rfl rfl rfl rfl ?_
  intro H3 eH3 hH
  refine w_aload_n rfl rfl ?_
  refine w_aloadQ (x := bo) rfl rfl ?_
  refine v_put hH rfl oA (by decide) (by decide) (by decide) rfl rfl (by cases bo <;> rfl) rfl ?_
  intro H4 eH4 hH
  rcases hb with ⟨rfl, rfl⟩ | ⟨D, e, m, rfl, oD, ne, f4, rfl⟩
  · refine w_aload_n rfl rfl ?_
    refine w_aloadQ (x := none) rfl rfl ?_
    refine w_ifnonnull_n rfl ?_
    refine w_iconst rfl ?_
    refine w_goto rfl ?_
    refine v_put hH rfl oA (by decide) (by decide) (by decide) rfl rfl rfl rfl ?_
    intro H5 eH5 hH
    refine w_return rfl rfl ?_
    exact ⟨rfl, by omega, hH⟩
  · refine w_aload_n rfl rfl ?_
    refine w_aload rfl rfl ?_
    refine w_ifnonnull_r rfl ?_
    refine w_aload rfl rfl ?_
    refine w_getfield rfl (VH_at hH oD (by decide) (by decide) (by decide)) rfl ?_
    rw [upC_ne (by omega), upC_ne (by omega), upC_ne (by omega), upC_ne (by omega), f4]
    refine w_iconst rfl ?_
    refine w_iadd rfl ?_
    refine v_put hH rfl oA (by decide) (by decide) (by decide) rfl rfl rfl rfl ?_
    intro H5 eH5 hH
    refine w_return rfl rfl ?_
    exact ⟨rfl, by omega, hH⟩
theorem T_dump_1 (hI : IW b m0 tm nc ns ρ of H A c g na cs ad qs oc dt da cn bl E fa ms lo Y) {l : Int} (l1 : -2147483648 ≤ l) (l2 : l ≤ 2147483647) (hc : l < 0 ∨ 9 < l) : Wp b L xs 8 mi_43 0 (ent (mL mi_43) [.ref (A 0), vI l]) [] H (fun h' o => h' = hskip H 6 ∧ o = .inr 0) := by
  by_cases q : l < 0
  · refine w_iload_n rfl rfl ?_
    refine w_iflt_t rfl (by omega) (by omega) (by first | omega | (simp only [Int.toNat_natCast, upF_2] at *; omega)) ?_
    refine w_throw rfl (by first | omega | (simp only [Int.toNat_natCast, upF_2] at *; omega)) (Nat.le_of_ble_eq_true rfl) ?_
    exact ⟨rfl, rfl⟩
  · refine w_iload_n rfl rfl ?_
    refine w_iflt_f rfl (by omega) (by omega) (by first | omega | (simp only [Int.toNat_natCast, upF_2] at *; omega)) ?_
    refine w_iload_n rfl rfl ?_
    refine w_bipush rfl rfl ?_
    refine w_icle_f rfl (by omega) (by omega) (by omega) (by omega) (by first | omega | (simp only [Int.toNat_natCast, upF_2] at *; omega)) ?_
    refine w_throw rfl (by first | omega | (simp only [Int.toNat_natCast, upF_2] at *; omega)) (Nat.le_of_ble_eq_true rfl) ?_
    exact ⟨rfl, rfl⟩
/-- up to the room's question -/
theorem T_dump_89 (hI : IW b m0 tm nc ns ρ of H A c g na cs ad qs oc dt da cn bl E fa ms lo Y) {l tb n : Int} (l1 : 0 ≤ l) (l2 : l ≤ 9) (htb : tb = if lsB ρ l 0 E (-1) < 0 then -1 else ρ.2 11 0 (lsB ρ l 0 E (-1)).toNat) (hn : n = if lsB ρ l 0 E (-1) < 0 then 1 else (cn (lsB ρ l 0 E (-1)).toNat : Int) + 1) {Q : AH → RO → Prop} (kk : ∀ H1, H1.1 = H.1 + 1 → VH b (A 3) (Zr b m0) g (dmC c H.1 E l (ρ.1 7) (va_rf (if lsB ρ l 0 E (-1) < 0 then none else some (da (lsB ρ l 0 E (-1)).toNat))) n (cnt (chS ρ tb) 0 256 : Nat) (ρ.1 9) (2 + pts (cnt (chS ρ tb) 0 256 : Nat) 31 + sm (chS ρ tb) (nb ρ) 0 256)) (nc + 1) (ns + 8) (ρ.1 8).toNat (ρ.1 9).toNat bl (ρ.2 30 0) (ρ.2 31 0) H1 → Wp b L xs 8 mi_43 89 [some (.ref (A 0)), some (vI l), some (.ref H.1)] [] H1 Q) : Wp b L xs 8 mi_43 0 (ent (mL mi_43) [.ref (A 0), vI l]) [] H Q := by
  have hI0 := hI
  obtain ⟨hH, hZ, hga, hgo, hSI, hTr, hTF, hAU, hHI, hRI, hRQ⟩ := hI
  obtain ⟨oV, oT, oN, oR, oDs, hQI, v0, v1, v2, v3, v4, vT, vw0, vw1, nNb, nDb⟩ := hSI
  obtain ⟨rg, hEn, r16, rE, c8a, c8b, c9a, c9b, r27a, r27b, r28a, r28b, r29a, r29b, t7a, t7b, z46, z47, sp30, sp31, z42⟩ := hRI
  obtain ⟨h1, h2, h3, h4, h5, h6, h7, h8⟩ := hHI
  have fr := (VH_fr hH).1 H.1 (Nat.le_refl _)
  have ls := lsB_ok (ρ := ρ) (l := l) E 0 (-1) (by omega) (by omega)
  rw [Nat.zero_add] at ls
  have dd : ∀ e, e < E → c.2.1 11 0 e = .ref (da e) ∧ c.1 (da e) = some (14, e) ∧ c.2.1 14 e 1 = vI (ρ.2 10 0 e) ∧ 0 ≤ ρ.2 10 0 e ∧ ρ.2 10 0 e ≤ 9 := fun e he => ⟨by rw [h2 e (by omega), if_pos he]; rfl, (h4 e he).1, (h4 e he).2.2.1, (h5 e he).1.1, (h5 e he).1.2.1⟩
  have tbr : -1 ≤ tb ∧ tb ≤ 1000000 := by
    rw [htb]
    split
    · omega
    · have := (h5 (lsB ρ l 0 E (-1)).toNat (by omega)).1
      have a1 := this.2.2.1
      have a2 := this.2.2.2.1
      omega
  have no : ∀ x q, c.1 x = some q → (dmB c H.1 E).1 x = some q := fun x q hx => nw_o fr.2 hx
  have nv : ∀ k i f, ¬ (k = 14 ∧ i = E) → (dmB c H.1 E).2.1 k i f = c.2.1 k i f := fun k i f h => by unfold dmB; rw [nw_v h]
  have oX : (dmB c H.1 E).1 H.1 = some (14, E) := nw_a _ _ _ _ _ _
  have hbo : ((if lsB ρ l 0 E (-1) < 0 then none else some (da (lsB ρ l 0 E (-1)).toNat)) = none ∧ n = 1) ∨ ∃ D e m, (if lsB ρ l 0 E (-1) < 0 then none else some (da (lsB ρ l 0 E (-1)).toNat)) = some D ∧ (dmB c H.1 E).1 D = some (14, e) ∧ e ≠ E ∧ (dmB c H.1 E).2.1 14 e 4 = vI m ∧ n = m + 1 := by
    by_cases q : lsB ρ l 0 E (-1) < 0
    · rw [if_pos q] at hn ⊢
      exact Or.inl ⟨rfl, hn⟩
    · rw [if_neg q] at hn ⊢
      have hd := h4 (lsB ρ l 0 E (-1)).toNat (by omega)
      exact Or.inr ⟨_, _, _, rfl, no _ _ hd.1, by omega, (nv _ _ _ (by omega)).trans hd.2.2.2.2.2.1, hn⟩
  refine w_iload_n rfl rfl ?_
  refine w_iflt_f rfl (by omega) (by omega) (by omega) ?_
  refine w_iload_n rfl rfl ?_
  refine w_bipush rfl rfl ?_
  refine w_icle_t rfl (by omega) (by omega) (by omega) (by omega) (by omega) ?_
  refine v_new (v := dm0) (n := E) (k := 14) hH rfl rfl (by decide) (by decide) (by decide) (fun x => h3 E (Nat.le_refl _) x) rfl ?_
  intro H1 eH1 hH
  refine w_dupR rfl ?_
  refine w_aload_n rfl rfl ?_
  refine w_getfield rfl (VH_at hH (no _ _ oV) (by decide) (by decide) (by decide)) rfl ?_
  rw [show (nwC c H.1 14 E dm0 c.2.2).2.1 0 0 5 = vI E from (nv 0 0 5 (by omega)).trans h1]
  refine w_iload_n rfl rfl ?_
  refine w_aload_n rfl rfl ?_
  refine w_getfield rfl (VH_at hH (no _ _ oV) (by decide) (by decide) (by decide)) rfl ?_
  rw [show (nwC c H.1 14 E dm0 c.2.2).2.1 0 0 0 = .ref (A 1) from (nv 0 0 0 (by omega)).trans v0]
  refine w_getfield rfl (VH_at hH (no _ _ oT) (by decide) (by decide) (by decide)) rfl ?_
  rw [show (nwC c H.1 14 E dm0 c.2.2).2.1 1 0 2 = vI (ρ.1 7) from (nv 1 0 2 (by omega)).trans hTr.1.2.2.2.2.1]
  refine w_aload_n rfl rfl ?_
  refine w_iload_n rfl rfl ?_
  have wl : Wp b L xs 7 mi_44 0 (ent (mL mi_44) [.ref (A 0), vI l]) [] H1 (Rt H1 (va_rf (if lsB ρ l 0 E (-1) < 0 then none else some (da (lsB ρ l 0 E (-1)).toNat)))) := by
    refine w_aload_n rfl rfl ?_
    refine w_getfield rfl (VH_at hH (no _ _ oV) (by decide) (by decide) (by decide)) rfl ?_
    rw [show (nwC c H.1 14 E dm0 c.2.2).2.1 0 0 5 = vI E from (nv 0 0 5 (by omega)).trans h1]
    refine w_iconst rfl ?_
    refine w_isub rfl ?_
    refine w_istore_n rfl (by decide) ?_
    exact V_lb_l (ρ := ρ) (da := da) (E := E) hH 7 (no _ _ oV) ((nv 0 0 4 (by omega)).trans v4) (no _ _ oDs) (by omega) (fun e he => ⟨(nv 11 0 e (by omega)).trans (dd e he).1, no _ _ (dd e he).2.1, (nv 14 e 1 (by omega)).trans (dd e he).2.2.1, (dd e he).2.2.2⟩) l1 l2 E none (Nat.le_refl _)
  refine w_cvV rfl (by decide) (by decide) rfl (VH_at hH (no _ _ oV) (by decide) (by decide) (by decide)) mt_44 (Nat.le_of_ble_eq_true rfl) (Nat.le_of_ble_eq_true rfl) wl ?_
  refine w_ci rfl (by decide) (by decide) rfl mt_45 (len5 _ _ _ _ _) (Nat.le_of_ble_eq_true rfl) (V_dinit hH _ (by decide) oX hbo) ?_
  rintro H2 _ ⟨rfl, eH2, hH⟩
  refine ⟨none, rfl, ?_⟩
  refine w_astore_n rfl (by decide) ?_
  have mv : ∀ k i f, ¬ (k = 14 ∧ i = E) → (dmI c H.1 E l (ρ.1 7) (va_rf (if lsB ρ l 0 E (-1) < 0 then none else some (da (lsB ρ l 0 E (-1)).toNat))) n).2.1 k i f = c.2.1 k i f := fun k i f h => by
    unfold dmI
    rw [upC_ne (by omega), upC_ne (by omega), upC_ne (by omega), upC_ne (by omega), upC_ne (by omega), nv k i f h]
  have m3 : (dmI c H.1 E l (ρ.1 7) (va_rf (if lsB ρ l 0 E (-1) < 0 then none else some (da (lsB ρ l 0 E (-1)).toNat))) n).2.1 14 E 3 = va_rf (if lsB ρ l 0 E (-1) < 0 then none else some (da (lsB ρ l 0 E (-1)).toNat)) := by
    unfold dmI
    rw [upC_ne (by omega), upC_eq]
  have trD : ∀ c', (∀ x q, (dmB c H.1 E).1 x = some q → c'.1 x = some q) → (∀ k i f, ¬ (k = 14 ∧ i = E) → c'.2.1 k i f = c.2.1 k i f) → TrOk b (A 1) (A 2) c' ρ na cs ad qs oc dt := fun c' ho hv => Tr_c hTr (fun x k i _ hx => ho _ _ (no _ _ hx)) (fun f => hv _ _ _ (by omega)) (fun f => hv _ _ _ (by omega)) (fun m f => hv _ _ _ (by omega)) (fun m f => hv _ _ _ (by omega)) (fun _ _ _ _ => rfl) rfl
  have sB : ∀ c' : CS, (∀ x q, (dmB c H.1 E).1 x = some q → c'.1 x = some q) → (∀ k i f, ¬ (k = 14 ∧ i = E) → c'.2.1 k i f = c.2.1 k i f) → c'.2.1 14 E 3 = va_rf (if lsB ρ l 0 E (-1) < 0 then none else some (da (lsB ρ l 0 E (-1)).toNat)) → (c'.2.1 14 E 3 = .null ∧ lsB ρ l 0 E (-1) = -1 ∧ tb = -1) ∨ ∃ D1 e1 : Nat, c'.2.1 14 E 3 = .ref D1 ∧ c'.1 D1 = some (14, e1) ∧ c'.2.1 14 e1 0 = vI e1 ∧ c'.2.1 14 e1 2 = vI tb ∧ lsB ρ l 0 E (-1) = e1 := fun c' ho hv h3' => by
    by_cases q : lsB ρ l 0 E (-1) < 0
    · rw [if_pos q] at h3' htb
      exact Or.inl ⟨h3', by omega, htb⟩
    · rw [if_neg q] at h3' htb
      have hd := h4 (lsB ρ l 0 E (-1)).toNat (by omega)
      exact Or.inr ⟨_, (lsB ρ l 0 E (-1)).toNat, h3', ho _ _ (no _ _ hd.1), (hv _ _ _ (by omega)).trans hd.2.1, by rw [hv _ _ _ (by omega), hd.2.2.2.1, htb], by omega⟩
  have qc : cnt (chS ρ tb) 0 256 ≤ 256 := cnt_le _ _ _
  have hv5 : ∀ k i f, ¬ (k = 14 ∧ i = E) → (upC (upC (dmI c H.1 E l (ρ.1 7) (va_rf (if lsB ρ l 0 E (-1) < 0 then none else some (da (lsB ρ l 0 E (-1)).toNat))) n) 14 E 5 (vI (cnt (chS ρ tb) 0 256 : Nat))) 14 E 6 (vI (ρ.1 9))).2.1 k i f = c.2.1 k i f := fun k i f h => by rw [upC_ne (by omega), upC_ne (by omega)]; exact mv k i f h
  refine w_aload_n rfl rfl ?_
  refine w_aload_n rfl rfl ?_
  refine w_getfield rfl (VH_at hH (no _ _ oV) (by decide) (by decide) (by decide)) rfl ?_
  rw [show (upC (upC (upC (upC (upC (nwC c H.1 14 E dm0 c.2.2) 14 E 0 (vI E)) 14 E 1 (vI l)) 14 E 2 (vI (ρ.1 7))) 14 E 3 (va_rf (if lsB ρ l 0 E (-1) < 0 then none else some (da (lsB ρ l 0 E (-1)).toNat)))) 14 E 4 (vI n)).2.1 0 0 0 = .ref (A 1) from (mv 0 0 0 (by omega)).trans v0]
  refine w_aload_n rfl rfl ?_
  have hHI1 : VH b (A 3) (Zr b m0) g (dmI c H.1 E l (ρ.1 7) (va_rf (if lsB ρ l 0 E (-1) < 0 then none else some (da (lsB ρ l 0 E (-1)).toNat))) n) (nc + 1) (ns + 8) (ρ.1 8).toNat (ρ.1 9).toNat bl (ρ.2 30 0) (ρ.2 31 0) H2 := hH
  refine w_cvV rfl (by decide) (by decide) rfl (VH_at hHI1 oX (by decide) (by decide) (by decide)) mt_46 (Nat.le_of_ble_eq_true rfl) (Nat.le_of_ble_eq_true rfl) (V_since hHI1 _ oX (sB _ (fun _ _ h => h) mv m3)) ?_
  have tr1 := trD (dmI c H.1 E l (ρ.1 7) (va_rf (if lsB ρ l 0 E (-1) < 0 then none else some (da (lsB ρ l 0 E (-1)).toNat))) n) (fun _ _ h => h) mv
  refine w_cvV rfl (by decide) (by decide) rfl (VH_at hHI1 (no _ _ oT) (by decide) (by decide) (by decide)) mt_47 (Nat.le_of_ble_eq_true rfl) (Nat.le_of_ble_eq_true rfl) (VH_lift hHI1 (fun h0 c' ho hv => k_chAf (ρ := ρ) (na := na) 7 (by decide) (Tr_c tr1 (fun x k i _ hx => ho _ _ hx) (fun f => hv _ _ _ (by decide) (by decide) (by decide)) (fun f => hv _ _ _ (by decide) (by decide) (by decide)) (fun m f => hv _ _ _ (by decide) (by decide) (by decide)) (fun m f => hv _ _ _ (by decide) (by decide) (by decide)) (fun _ _ _ _ => rfl) rfl).1 hTr.2.1 tbr.1 tbr.2)) ?_
  refine v_put hHI1 rfl oX (by decide) (by decide) (by decide) rfl rfl rfl rfl ?_
  intro H3 eH3 hH
  refine w_aload_n rfl rfl ?_
  refine w_aload_n rfl rfl ?_
  refine w_getfield rfl (VH_at hH (no _ _ oV) (by decide) (by decide) (by decide)) rfl ?_
  rw [upC_ne (by omega), mv 0 0 1 (by omega), v1]
  obtain ⟨W0, P0, hvf⟩ := VH_vf hH
  refine w_getfield rfl hvf rfl ?_
  rw [show vI (((ρ.1 9).toNat : Nat) : Int) = vI (ρ.1 9) from by rw [Int.toNat_of_nonneg c9a]]
  refine v_put hH rfl oX (by decide) (by decide) (by decide) rfl rfl rfl rfl ?_
  intro H4 eH4 hH
  refine w_aload_n rfl rfl ?_
  refine w_aload_n rfl rfl ?_
  have wb : Wp b L xs 7 mi_49 0 (ent (mL mi_49) [.ref H.1]) [] H4 (Rt H4 (vI (2 + pts (cnt (chS ρ tb) 0 256 : Nat) 31))) := by
    refine w_iconst rfl ?_
    refine w_aload_n rfl rfl ?_
    refine w_getfield rfl (VH_at hH oX (by decide) (by decide) (by decide)) rfl ?_
    rw [upC_ne (by omega), upC_eq]
    refine w_bipush rfl rfl ?_
    refine w_csV rfl (by decide) (by decide) rfl mt_50 (Nat.le_of_ble_eq_true rfl) (Nat.le_of_ble_eq_true rfl) (k_quo _ (by omega) (by omega) (by omega) (by omega)) ?_
    refine w_iadd rfl ?_
    refine w_ireturn rfl rfl ?_
    exact ⟨rfl, rfl⟩
  refine w_cvV rfl (by decide) (by decide) rfl (VH_at hH oX (by decide) (by decide) (by decide)) mt_49 (Nat.le_of_ble_eq_true rfl) (Nat.le_of_ble_eq_true rfl) wb ?_
  refine w_aload_n rfl rfl ?_
  refine w_getfield rfl (VH_at hH (no _ _ oV) (by decide) (by decide) (by decide)) rfl ?_
  rw [hv5 0 0 0 (by omega), v0]
  refine w_aload_n rfl rfl ?_
  refine w_cvV rfl (by decide) (by decide) rfl (VH_at hH oX (by decide) (by decide) (by decide)) mt_46 (Nat.le_of_ble_eq_true rfl) (Nat.le_of_ble_eq_true rfl) (V_since hH _ oX (sB _ (fun _ _ h => h) hv5 (by rw [upC_ne (by omega), upC_ne (by omega)]; exact m3))) ?_
  have tr2 := trD (upC (upC (dmI c H.1 E l (ρ.1 7) (va_rf (if lsB ρ l 0 E (-1) < 0 then none else some (da (lsB ρ l 0 E (-1)).toNat))) n) 14 E 5 (vI (cnt (chS ρ tb) 0 256 : Nat))) 14 E 6 (vI (ρ.1 9))) (fun _ _ h => h) hv5
  refine w_cvV rfl (by decide) (by decide) rfl (VH_at hH (no _ _ oT) (by decide) (by decide) (by decide)) mt_51 (Nat.le_of_ble_eq_true rfl) (Nat.le_of_ble_eq_true rfl) (VH_lift hH (fun h0 c' ho hv => k_blAf (ρ := ρ) (na := na) 7 (by decide) (Tr_c tr2 (fun x k i _ hx => ho _ _ hx) (fun f => hv _ _ _ (by decide) (by decide) (by decide)) (fun f => hv _ _ _ (by decide) (by decide) (by decide)) (fun m f => hv _ _ _ (by decide) (by decide) (by decide)) (fun m f => hv _ _ _ (by decide) (by decide) (by decide)) (fun _ _ _ _ => rfl) rfl).1 hTr.2.1 tbr.1 tbr.2)) ?_
  refine w_iadd rfl ?_
  refine v_put hH rfl oX (by decide) (by decide) (by decide) rfl rfl rfl rfl ?_
  intro H5 eH5 hH
  exact kk H5 (by omega) hH
end Vdm
