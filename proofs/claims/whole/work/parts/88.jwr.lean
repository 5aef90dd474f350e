/-! write, cut -/
section Tc
variable {L : Nat} {xs : Nat → Int32} {b m0 tm nc ns : Nat} {ρ : RS} {of : Nat → Value} {H : AH} {A : Nat → Nat} {c : CS} {g : Nat → Option AO} {na : Nat → Option Nat} {cs ad : Nat → Nat → Nat} {qs : Nat → Nat} {oc : Nat → Option Nat} {dt : Nat → Nat → Int} {da cn : Nat → Nat} {bl : Nat → Nat → Int} {E : Nat} {fa ms lo : Nat → Int} {Y : YS}
theorem T_cut_1 (hI : IW b m0 tm nc ns ρ of H A c g na cs ad qs oc dt da cn bl E fa ms lo Y) {p t : Int} (p1 : -2147483648 ≤ p) (p2 : p ≤ 2147483647) (hc : ¬ (0 ≤ p ∧ p < 256 ∧ ρ.2 1 0 p.toNat = 1)) : Wp b L xs 8 mi_30 0 (ent (mL mi_30) [.ref (A 0), vI p, vI t]) [] H (fun h' o => h' = hskip H 6 ∧ o = .inr 0) := by
  have w0 := w_f0 (L := L) (xs := xs) hI p1 p2 hc 7 (by decide)
  have hI0 := hI
  obtain ⟨hH, hZ, hga, hgo, hSI, hTr, hTF, hAU, hHI, hRI, hRQ⟩ := hI
  obtain ⟨oV, oT, oN, oR, oDs, hQI, v0, v1, v2, v3, v4, vT, vw0, vw1, nNb, nDb⟩ := hSI
  refine w_aload_n rfl rfl ?_
  refine w_getfield rfl (VH_at hH oV (by decide) (by decide) (by decide)) rfl ?_
  rw [v0]
  refine w_iload_n rfl rfl ?_
  refine w_cvV rfl (by decide) (by first | omega | (simp only [Int.toNat_natCast, upF_2] at *; omega)) rfl (VH_at hH oT (by decide) (by decide) (by decide)) mt_26 (Nat.le_of_ble_eq_true rfl) (Nat.le_of_ble_eq_true rfl) w0 ?_
  refine w_astore_nQ (x := none) rfl (by decide) ?_
  refine w_aload_nQ (x := none) rfl rfl ?_
  refine w_ifnonnull_n rfl ?_
  refine w_throw rfl (by decide) (Nat.le_of_ble_eq_true rfl) ?_
  exact ⟨rfl, rfl⟩
theorem T_cut_2 (hI : IW b m0 tm nc ns ρ of H A c g na cs ad qs oc dt da cn bl E fa ms lo Y) {n : Nat} {t : Int} (t1 : -2147483648 ≤ t) (t2 : t ≤ 2147483647) (hn : n < 256) (hk : ρ.2 1 0 n = 1) (hc : t < 0 ∨ ρ.2 4 0 n < t) : Wp b L xs 8 mi_30 0 (ent (mL mi_30) [.ref (A 0), vI n, vI t]) [] H (fun h' o => h' = hskip H 6 ∧ o = .inr 2) := by
  obtain ⟨a, hN, w0⟩ := w_f1 (L := L) (xs := xs) hI hn hk 7 (by decide)
  have hI0 := hI
  obtain ⟨hH, hZ, hga, hgo, hSI, hTr, hTF, hAU, hHI, hRI, hRQ⟩ := hI
  obtain ⟨oV, oT, oN, oR, oDs, hQI, v0, v1, v2, v3, v4, vT, vw0, vw1, nNb, nDb⟩ := hSI
  have oX := hN.2.2.1
  have tn := hTr.2.1 n hn
  have f4 : c.2.1 12 n 4 = vI (ρ.2 4 0 n) := by
    rw [hN.2.2.2.2.2.2.2.2.1]
    unfold szv
    rw [if_pos hk]
  by_cases q1 : t < 0
  · refine w_aload_n rfl rfl ?_
    refine w_getfield rfl (VH_at hH oV (by decide) (by decide) (by decide)) rfl ?_
    rw [v0]
    refine w_iload_n rfl rfl ?_
    refine w_cvV rfl (by decide) (by first | omega | (simp only [Int.toNat_natCast, upF_2] at *; omega)) rfl (VH_at hH oT (by decide) (by decide) (by decide)) mt_26 (Nat.le_of_ble_eq_true rfl) (Nat.le_of_ble_eq_true rfl) w0 ?_
    refine w_astore_n rfl (by decide) ?_
    refine w_aload_n rfl rfl ?_
    refine w_ifnonnull_r rfl ?_
    refine w_iload_n rfl rfl ?_
    refine w_iflt_t rfl (by omega) (by omega) (by first | omega | (simp only [Int.toNat_natCast, upF_2] at *; omega)) ?_
    refine w_throw rfl (by first | omega | (simp only [Int.toNat_natCast, upF_2] at *; omega)) (Nat.le_of_ble_eq_true rfl) ?_
    exact ⟨rfl, rfl⟩
  refine w_aload_n rfl rfl ?_
  refine w_getfield rfl (VH_at hH oV (by decide) (by decide) (by decide)) rfl ?_
  rw [v0]
  refine w_iload_n rfl rfl ?_
  refine w_cvV rfl (by decide) (by first | omega | (simp only [Int.toNat_natCast, upF_2] at *; omega)) rfl (VH_at hH oT (by decide) (by decide) (by decide)) mt_26 (Nat.le_of_ble_eq_true rfl) (Nat.le_of_ble_eq_true rfl) w0 ?_
  refine w_astore_n rfl (by decide) ?_
  refine w_aload_n rfl rfl ?_
  refine w_ifnonnull_r rfl ?_
  refine w_iload_n rfl rfl ?_
  refine w_iflt_f rfl (by omega) (by omega) (by first | omega | (simp only [Int.toNat_natCast, upF_2] at *; omega)) ?_
  refine w_iload_n rfl rfl ?_
  refine w_aload_n rfl rfl ?_
  refine w_getfield rfl (VH_at hH oX (by decide) (by decide) (by decide)) rfl ?_
  rw [f4]
  refine w_icle_f rfl (by omega) (by omega) (by omega) (by omega) (by first | omega | (simp only [Int.toNat_natCast, upF_2] at *; omega)) ?_
  refine w_throw rfl (by first | omega | (simp only [Int.toNat_natCast, upF_2] at *; omega)) (Nat.le_of_ble_eq_true rfl) ?_
  exact ⟨rfl, rfl⟩
theorem T_cut (hI : IW b m0 tm nc ns ρ of H A c g na cs ad qs oc dt da cn bl E fa ms lo Y) {n : Nat} {t : Int} (hn : n < 256) (hk : ρ.2 1 0 n = 1) (c1 : 0 ≤ t) (c2 : t ≤ ρ.2 4 0 n) : Wp b L xs 8 mi_30 0 (ent (mL mi_30) [.ref (A 0), vI n, vI t]) [] H (fun h' o => o = .inl none ∧ VH b (A 3) (Zr b m0) g (upC (upC (upC c 1 0 2 (vI (ρ.1 7 + 1))) 12 n 4 (vI t)) 12 n 5 (vI (ρ.1 7 + 1))) nc ns (ρ.1 8).toNat (ρ.1 9).toNat bl (ρ.2 30 0) (ρ.2 31 0) h') := by
  obtain ⟨a, hN, w0⟩ := w_f1 (L := L) (xs := xs) hI hn hk 7 (by decide)
  have hI0 := hI
  obtain ⟨hH, hZ, hga, hgo, hSI, hTr, hTF, hAU, hHI, hRI, hRQ⟩ := hI
  obtain ⟨oV, oT, oN, oR, oDs, hQI, v0, v1, v2, v3, v4, vT, vw0, vw1, nNb, nDb⟩ := hSI
  have oX := hN.2.2.1
  have tn := hTr.2.1 n hn
  have f4 : c.2.1 12 n 4 = vI (ρ.2 4 0 n) := by
    rw [hN.2.2.2.2.2.2.2.2.1]
    unfold szv
    rw [if_pos hk]
  refine w_aload_n rfl rfl ?_
  refine w_getfield rfl (VH_at hH oV (by decide) (by decide) (by decide)) rfl ?_
  rw [v0]
  refine w_iload_n rfl rfl ?_
  refine w_cvV rfl (by decide) (by first | omega | (simp only [Int.toNat_natCast, upF_2] at *; omega)) rfl (VH_at hH oT (by decide) (by decide) (by decide)) mt_26 (Nat.le_of_ble_eq_true rfl) (Nat.le_of_ble_eq_true rfl) w0 ?_
  refine w_astore_n rfl (by decide) ?_
  refine w_aload_n rfl rfl ?_
  refine w_ifnonnull_r rfl ?_
  refine w_iload_n rfl rfl ?_
  refine w_iflt_f rfl (by omega) (by omega) (by first | omega | (simp only [Int.toNat_natCast, upF_2] at *; omega)) ?_
  refine w_iload_n rfl rfl ?_
  refine w_aload_n rfl rfl ?_
  refine w_getfield rfl (VH_at hH oX (by decide) (by decide) (by decide)) rfl ?_
  rw [f4]
  refine w_icle_t rfl (by omega) (by omega) (by omega) (by omega) (by first | omega | (simp only [Int.toNat_natCast, upF_2] at *; omega)) ?_
  refine w_aload_n rfl rfl ?_
  refine w_getfield rfl (VH_at hH oV (by decide) (by decide) (by decide)) rfl ?_
  rw [v0]
  refine w_aload_n rfl rfl ?_
  refine w_iload_n rfl rfl ?_
  refine w_cv rfl (by decide) (by first | omega | (simp only [Int.toNat_natCast, upF_2] at *; omega)) rfl (VH_at hH oT (by decide) (by decide) (by decide)) mt_31 (Nat.le_of_ble_eq_true rfl) (Nat.le_of_ble_eq_true rfl) (V_short hH _ oX oT hTr.1.2.2.2.2.1) ?_
  rintro _ _ ⟨rfl, eH, hH⟩
  refine ⟨none, rfl, ?_⟩
  refine w_return rfl rfl ?_
  exact ⟨rfl, hH⟩
end Tc
theorem rWr_g {ρ : RS} (hg : Rg ρ) {n at_ : Nat} {v : Int64} (h4 : 0 ≤ ρ.2 4 0 n) (h42 : ρ.2 4 0 n ≤ 512) (ha : at_ ≤ 504) (t0 : 0 ≤ ρ.1 7) (t1 : ρ.1 7 ≤ 100000) : Rg (rWrite ρ n at_ v) := by
  unfold rWrite
  exact (((wr8_g (hg.upF 0 (by omega) (by omega)) n at_ v 8).upA 4 0 n (by omega) (by omega)).upF 7 (by omega) (by omega)).upA 5 0 n (by omega) (by omega)
theorem rCu_g {ρ : RS} (hg : Rg ρ) {n : Nat} {z : Int} (h4 : 0 ≤ z) (h42 : z ≤ 512) (t0 : 0 ≤ ρ.1 7) (t1 : ρ.1 7 ≤ 100000) : Rg (rCut ρ n z) := by
  unfold rCut
  exact (((hg.upF 0 (by omega) (by omega)).upA 4 0 n (by omega) (by omega)).upF 7 (by omega) (by omega)).upA 5 0 n (by omega) (by omega)
section Jw
variable {L : Nat} {xs : Nat → Int32} {b m0 A0 tm nc ns : Nat} {ρ : RS} {of : Nat → Value} {H : AH}
theorem J_write (hI : Iv b m0 A0 tm nc ns ρ of H) (hb : b < m0) (htm : tm ≤ 1000) {p t : Int} {v : Int64} (p1 : -2147483648 ≤ p) (p2 : p ≤ 2147483647) (t1 : -2147483648 ≤ t) (t2 : t ≤ 2147483647) : JV b m0 A0 tm nc ns L xs H mi_24 mi_117 [.ref A0, vI p, vI t, .long v, .ref (m0 + 1160)] [.ref m0, vI p, vI t, .long v] := by
  obtain ⟨A, c, g, na, cs, ad, qs, oc, dt, da, cn, bl, E, fa, ms, lo, Y, rfl, hI⟩ := hI
  obtain ⟨fs, ho⟩ := IW_ob hI
  have hI0 := hI
  obtain ⟨hH, hZ, hga, hgo, hSI, hTr, hTF, hAU, hHI, hRI, hRQ⟩ := hI
  obtain ⟨oV, oT, oN, oR, oDs, hQI, v0, v1x, v2x, v3, v4, vT, vw0, vw1, nNb, nDb⟩ := hSI
  obtain ⟨rg, hEn, r16, rE, c8a, c8b, c9a, c9b, r27a, r27b, r28a, r28b, r29a, r29b, t7a, t7b, z46, z47, sp30, sp31, z42⟩ := hRI
  by_cases h1 : 0 ≤ p ∧ p < 256 ∧ ρ.2 1 0 p.toNat = 1
  rotate_left
  · exact J_errV hI0 (k := 1) (by decide) (by decide) (hE_write_0 9 (by decide) ho (T_write_1 hI0 p1 p2 h1)) (fun h => r_write_1 hb rg 9 (by decide) p1 p2 t1 t2 h1)
  obtain ⟨n, rfl⟩ : ∃ n : Nat, p = n := ⟨p.toNat, by omega⟩
  have hn : n < 256 := by omega
  have h1b := h1
  obtain ⟨-, -, hk⟩ := h1
  rw [Int.toNat_natCast] at hk
  by_cases h2 : t < 0 ∨ ρ.2 4 0 n < t ∨ 504 < t
  · exact J_errV hI0 (k := 2) (by decide) (by decide) (hE_write_2 9 (by decide) ho (T_write_2 hI0 t1 t2 hn hk h2)) (fun h => r_write_2 hb rg 9 (by decide) p1 p2 t1 t2 h1b (by rw [Int.toNat_natCast]; exact h2))
  obtain ⟨at_, rfl⟩ : ∃ n : Nat, t = n := ⟨t.toNat, by omega⟩
  have tn := hTr.2.1 n hn
  have c1 : (at_ : Int) ≤ ρ.2 4 0 n := by omega
  have c2 : at_ ≤ 504 := by omega
  have rr2 : ∀ j r i, 10 ≤ j → (rWrite ρ n at_ v).2 j r i = ρ.2 j r i := fun j r i hj => rWr_o ρ n at_ v r i (by omega) (by omega) (by omega)
  have rr1 : ∀ i, i ≠ 0 → i ≠ 7 → (rWrite ρ n at_ v).1 i = ρ.1 i := fun i i1 i2 => by rw [rWr_F, if_neg i2, if_neg i1]
  have rgg := rWr_g rg (n := n) (v := v) tn.2.2.2.2.2.1 tn.2.2.2.2.2.2.1 c2 t7a (by omega)
  cases hoc : oc n with
  | some o =>
    have o0 : (upC (stC (upC c 1 0 2 (vI (ρ.1 7 + 1))) n at_ v (ρ.2 4 0 n)) 12 n 5 (vI (ρ.1 7 + 1))).1 = c.1 := soC_1 n at_ v 8 0 _
    have hZ' : CZ (Zr b m0) (upC (stC (upC c 1 0 2 (vI (ρ.1 7 + 1))) n at_ v (ρ.2 4 0 n)) 12 n 5 (vI (ρ.1 7 + 1))) := fun x q hx => hZ x q (by rw [o0] at hx; exact hx)
    have tr := Tr_wr1 (v := v) hTr hAU hTF hoc hn hk c1 c2 t7a (by omega)
    have so : ∀ x k i, k ≠ 12 → k ≠ 13 → c.1 x = some (k, i) → (upC (stC (upC c 1 0 2 (vI (ρ.1 7 + 1))) n at_ v (ρ.2 4 0 n)) 12 n 5 (vI (ρ.1 7 + 1))).1 x = some (k, i) := fun x k i _ _ hx => by rw [o0]; exact hx
    have so2 : ∀ x e, (upC (stC (upC c 1 0 2 (vI (ρ.1 7 + 1))) n at_ v (ρ.2 4 0 n)) 12 n 5 (vI (ρ.1 7 + 1))).1 x = some (14, e) → c.1 x = some (14, e) := fun x e hx => by rw [o0] at hx; exact hx
    have sv : ∀ k i f, k ≠ 12 → k ≠ 13 → ¬ (k = 1 ∧ f = 2) → (upC (stC (upC c 1 0 2 (vI (ρ.1 7 + 1))) n at_ v (ρ.2 4 0 n)) 12 n 5 (vI (ρ.1 7 + 1))).2.1 k i f = c.2.1 k i f := fun k i f k1 k2 k3 => by
      unfold stC
      rw [upC_ne (by omega), upC_ne (by omega), soC_k (by omega), upC_ne (by omega)]
    exact J_treeV hI0 (v := max (ρ.2 4 0 n) (at_ + 8)) (by omega) (by omega) hZ' so so2 (fun k i f k1 k2 k3 k4 => sv k i f k1 k2 (by omega)) (sv 1 0 0 (by decide) (by decide) (by decide)) rr2 rr1 rgg (by rw [rWr_F, if_pos rfl]) (by rw [rWr_F, if_neg (by decide), if_pos rfl]) tr.1 tr.2.2 tr.2.1 (hV_write 9 (by decide) ho (T_write hI0 hoc hn hk c1 c2) (fun h' hh => by rw [VH_g hh hZ' (nZ b m0)]; exact hgo)) (fun h => r_write hb rg 9 (by decide) hn hk c1 c2)
  | none =>
    have fr := (VH_fr hH).1 H.1 (Nat.le_refl _)
    have o0 : ∀ x, (upC (stC (nwO (upC c 1 0 2 (vI (ρ.1 7 + 1))) H.1 n) n at_ v (ρ.2 4 0 n)) 12 n 5 (vI (ρ.1 7 + 1))).1 x = if x = H.1 then some (13, n) else c.1 x := fun x => by
      rw [show (upC (stC (nwO (upC c 1 0 2 (vI (ρ.1 7 + 1))) H.1 n) n at_ v (ρ.2 4 0 n)) 12 n 5 (vI (ρ.1 7 + 1))).1 = (nwO (upC c 1 0 2 (vI (ρ.1 7 + 1))) H.1 n).1 from soC_1 n at_ v 8 0 _]
      rfl
    have hZ' : CZ (Zr b m0) (upC (stC (nwO (upC c 1 0 2 (vI (ρ.1 7 + 1))) H.1 n) n at_ v (ρ.2 4 0 n)) 12 n 5 (vI (ρ.1 7 + 1))) := fun x q hx => by
      rw [o0] at hx
      by_cases e : x = H.1
      · rw [e]; exact fr.1
      · rw [if_neg e] at hx
        exact hZ x q hx
    have tr := Tr_wr0 (v := v) hTr hAU hTF hoc fr.2 (by have := (VH_fr hH).2; omega) hn hk c1 c2 t7a (by omega)
    have so : ∀ x k i, k ≠ 12 → k ≠ 13 → c.1 x = some (k, i) → (upC (stC (nwO (upC c 1 0 2 (vI (ρ.1 7 + 1))) H.1 n) n at_ v (ρ.2 4 0 n)) 12 n 5 (vI (ρ.1 7 + 1))).1 x = some (k, i) := fun x k i _ _ hx => by
      rw [o0, if_neg (fun z => by rw [z, fr.2] at hx; cases hx)]
      exact hx
    have so2 : ∀ x e, (upC (stC (nwO (upC c 1 0 2 (vI (ρ.1 7 + 1))) H.1 n) n at_ v (ρ.2 4 0 n)) 12 n 5 (vI (ρ.1 7 + 1))).1 x = some (14, e) → c.1 x = some (14, e) := fun x e hx => by
      rw [o0] at hx
      by_cases e9 : x = H.1
      · rw [if_pos e9] at hx
        cases hx
      · rw [if_neg e9] at hx
        exact hx
    have sv : ∀ k i f, k ≠ 12 → k ≠ 13 → ¬ (k = 1 ∧ f = 2) → (upC (stC (nwO (upC c 1 0 2 (vI (ρ.1 7 + 1))) H.1 n) n at_ v (ρ.2 4 0 n)) 12 n 5 (vI (ρ.1 7 + 1))).2.1 k i f = c.2.1 k i f := fun k i f k1 k2 k3 => by
      unfold stC
      rw [upC_ne (by omega), upC_ne (by omega), soC_k (by omega)]
      unfold nwO
      rw [upC_ne (by omega), nw_v (by omega), upC_ne (by omega)]
    exact J_treeV hI0 (v := max (ρ.2 4 0 n) (at_ + 8)) (by omega) (by omega) hZ' so so2 (fun k i f k1 k2 k3 k4 => sv k i f k1 k2 (by omega)) (sv 1 0 0 (by decide) (by decide) (by decide)) rr2 rr1 rgg (by rw [rWr_F, if_pos rfl]) (by rw [rWr_F, if_neg (by decide), if_pos rfl]) tr.1 tr.2.2 tr.2.1 (hV_write 9 (by decide) ho (T_write0 hI0 hoc hn hk c1 c2) (fun h' hh => by rw [VH_g hh hZ' (nZ b m0)]; exact hgo)) (fun h => r_write hb rg 9 (by decide) hn hk c1 c2)
theorem J_cut (hI : Iv b m0 A0 tm nc ns ρ of H) (hb : b < m0) (htm : tm ≤ 1000) {p t : Int} (p1 : -2147483648 ≤ p) (p2 : p ≤ 2147483647) (t1 : -2147483648 ≤ t) (t2 : t ≤ 2147483647) : JN b m0 A0 tm nc ns L xs H mi_29 mi_118 [.ref A0, vI p, vI t] [.ref m0, vI p, vI t] := by
  obtain ⟨A, c, g, na, cs, ad, qs, oc, dt, da, cn, bl, E, fa, ms, lo, Y, rfl, hI⟩ := hI
  obtain ⟨fs, ho⟩ := IW_ob hI
  have hI0 := hI
  obtain ⟨hH, hZ, hga, hgo, hSI, hTr, hTF, hAU, hHI, hRI, hRQ⟩ := hI
  obtain ⟨oV, oT, oN, oR, oDs, hQI, v0, v1x, v2x, v3, v4, vT, vw0, vw1, nNb, nDb⟩ := hSI
  obtain ⟨rg, hEn, r16, rE, c8a, c8b, c9a, c9b, r27a, r27b, r28a, r28b, r29a, r29b, t7a, t7b, z46, z47, sp30, sp31, z42⟩ := hRI
  by_cases h1 : 0 ≤ p ∧ p < 256 ∧ ρ.2 1 0 p.toNat = 1
  rotate_left
  · exact J_errN hI0 (k := 1) (by decide) (by decide) (hE_cut_0 9 (by decide) ho (T_cut_1 hI0 p1 p2 h1)) (fun h => r_cut_1 hb rg 9 (by decide) p1 p2 t1 t2 h1)
  obtain ⟨n, rfl⟩ : ∃ n : Nat, p = n := ⟨p.toNat, by omega⟩
  have hn : n < 256 := by omega
  have h1b := h1
  obtain ⟨-, -, hk⟩ := h1
  rw [Int.toNat_natCast] at hk
  by_cases h2 : t < 0 ∨ ρ.2 4 0 n < t
  · exact J_errN hI0 (k := 2) (by decide) (by decide) (hE_cut_2 9 (by decide) ho (T_cut_2 hI0 t1 t2 hn hk h2)) (fun h => r_cut_2 hb rg 9 (by decide) p1 p2 t1 t2 h1b (by rw [Int.toNat_natCast]; exact h2))
  have tn := hTr.2.1 n hn
  have tr := Tr_cut hTr hAU hTF (z := t) hn hk (by omega) (by omega) t7a (by omega)
  refine J_treeN hI0 (c' := upC (upC (upC c 1 0 2 (vI (ρ.1 7 + 1))) 12 n 4 (vI t)) 12 n 5 (vI (ρ.1 7 + 1))) (ρ' := rCut ρ n t) (nc' := nc) (ns' := ns) (by omega) (by omega) hZ (fun x k i _ _ hx => hx) (fun x e hx => hx) (fun k i f k1 k2 k3 k4 => by rw [upC_ne (by omega), upC_ne (by omega), upC_ne (by omega)]) (by rw [upC_ne (by omega), upC_ne (by omega), upC_ne (by omega)]) (fun j r i hj => rCu_o ρ n t r i (by omega) (by omega)) (fun i i1 i2 => by rw [rCu_F, if_neg i2, if_neg i1]) (rCu_g rg (by omega) (by omega) t7a (by omega)) (by rw [rCu_F, if_pos rfl]) (by rw [rCu_F, if_neg (by decide), if_pos rfl]) tr.1 tr.2.2 tr.2.1 (hN_cut 9 (by decide) ho (T_cut hI0 hn hk (by omega) (by omega))) (fun h => ?_)
  have := r_cut (L := L) (xs := xs) (h := h) hb rg 9 (by decide) p1 p2 t1 t2 h1b (by omega) (by rw [Int.toNat_natCast]; omega)
  rw [Int.toNat_natCast] at this
  exact this
end Jw
