/-! write and cut, both together -/
theorem wr8_g {ρ : RS} (hg : Rg ρ) (n at_ : Nat) (v : Int64) (k : Nat) : Rg (wr8 ρ n at_ v k) := ⟨hg.1, fun j r i => by
  show -2147483648 ≤ (if j = 6 ∧ r = n ∧ at_ ≤ i ∧ i < at_ + k then lo8 v (i - at_) else ρ.2 j r i) ∧ (if j = 6 ∧ r = n ∧ at_ ≤ i ∧ i < at_ + k then lo8 v (i - at_) else ρ.2 j r i) ≤ 2147483647
  split
  · unfold lo8
    have h1 := Int.emod_nonneg (v.toInt / 2 ^ (56 - 8 * (i - at_))) (show (256 : Int) ≠ 0 by decide)
    have h2 := Int.emod_lt_of_pos (v.toInt / 2 ^ (56 - 8 * (i - at_))) (show (0 : Int) < 256 by decide)
    omega
  · exact hg.2 j r i⟩
section Tw
variable {L : Nat} {xs : Nat → Int32} {b m0 tm nc ns : Nat} {ρ : RS} {of : Nat → Value} {H : AH} {A : Nat → Nat} {c : CS} {g : Nat → Option AO} {na : Nat → Option Nat} {cs ad : Nat → Nat → Nat} {qs : Nat → Nat} {oc : Nat → Option Nat} {dt : Nat → Nat → Int} {da cn : Nat → Nat} {bl : Nat → Nat → Int} {E : Nat} {fa ms lo : Nat → Int} {Y : YS}
theorem w_f0 (hI : IW b m0 tm nc ns ρ of H A c g na cs ad qs oc dt da cn bl E fa ms lo Y) {p : Int} (p1 : -2147483648 ≤ p) (p2 : p ≤ 2147483647) (hc : ¬ (0 ≤ p ∧ p < 256 ∧ ρ.2 1 0 p.toNat = 1)) (d : Nat) (hd : 2 ≤ d) : Wp b L xs d mi_26 0 (ent (mL mi_26) [.ref (A 1), vI p]) [] H (Rt H .null) := by
  have hI0 := hI
  obtain ⟨hH, hZ, hga, hgo, hSI, hTr, hTF, hAU, hHI, hRI, hRQ⟩ := hI
  obtain ⟨oV, oT, oN, oR, oDs, hQI, v0, v1, v2, v3, v4, vT, vw0, vw1, nNb, nDb⟩ := hSI
  rcases V_file (L := L) (xs := xs) hH hTr.1 hTr.2.1 d hd p1 p2 with ⟨n, a, rfl, hn, hk, hN, w0⟩ | ⟨hn, w0⟩
  · exact absurd ⟨by omega, by omega, by rw [Int.toNat_natCast]; exact hk⟩ hc
  · exact w0
theorem w_f1 (hI : IW b m0 tm nc ns ρ of H A c g na cs ad qs oc dt da cn bl E fa ms lo Y) {n : Nat} (hn : n < 256) (hk : ρ.2 1 0 n = 1) (d : Nat) (hd : 2 ≤ d) : ∃ a, NdIs c ρ na n a ∧ Wp b L xs d mi_26 0 (ent (mL mi_26) [.ref (A 1), vI n]) [] H (Rt H (.ref a)) := by
  have hI0 := hI
  obtain ⟨hH, hZ, hga, hgo, hSI, hTr, hTF, hAU, hHI, hRI, hRQ⟩ := hI
  obtain ⟨oV, oT, oN, oR, oDs, hQI, v0, v1, v2, v3, v4, vT, vw0, vw1, nNb, nDb⟩ := hSI
  rcases V_file (L := L) (xs := xs) hH hTr.1 hTr.2.1 d hd (p := (n : Int)) (by omega) (by omega) with ⟨m, a, e, hm, hk, hN, w0⟩ | ⟨hz, w0⟩
  · obtain rfl : n = m := by omega
    exact ⟨a, hN, w0⟩
  · exact absurd ⟨by omega, by omega, by rw [Int.toNat_natCast]; exact hk⟩ hz
theorem T_write_1 (hI : IW b m0 tm nc ns ρ of H A c g na cs ad qs oc dt da cn bl E fa ms lo Y) {p t : Int} {v : Int64} (p1 : -2147483648 ≤ p) (p2 : p ≤ 2147483647) (hc : ¬ (0 ≤ p ∧ p < 256 ∧ ρ.2 1 0 p.toNat = 1)) : Wp b L xs 8 mi_25 0 (ent (mL mi_25) [.ref (A 0), vI p, vI t, .long v]) [] H (fun h' o => h' = hskip H 6 ∧ o = .inr 0) := by
  have w0 := w_f0 (L := L) (xs := xs) hI p1 p2 hc 7 (by decide)
  have hI0 := hI
  obtain ⟨hH, hZ, hga, hgo, hSI, hTr, hTF, hAU, hHI, hRI, hRQ⟩ := hI
  obtain ⟨oV, oT, oN, oR, oDs, hQI, v0, v1, v2, v3, v4, vT, vw0, vw1, nNb, nDb⟩ := hSI
  refine w_aload_n rfl rfl ?_
  refine w_getfield rfl (VH_at hH oV (by decide) (by decide) (by decide)) rfl ?_
  rw [v0]
  refine w_iload_n rfl rfl ?_
  refine w_cvV rfl (by decide) (by first | omega | (simp only [Int.toNat_natCast, upF_2] at *; omega)) rfl (VH_at hH oT (by decide) (by decide) (by decide)) mt_26 (Nat.le_of_ble_eq_true rfl) (Nat.le_of_ble_eq_true rfl) w0 ?_
  refine w_astoreQ (x := none) rfl (by decide) ?_
  refine w_aloadQ (x := none) rfl rfl ?_
  refine w_ifnonnull_n rfl ?_
  refine w_throw rfl (by decide) (Nat.le_of_ble_eq_true rfl) ?_
  exact ⟨rfl, rfl⟩
theorem T_write_2 (hI : IW b m0 tm nc ns ρ of H A c g na cs ad qs oc dt da cn bl E fa ms lo Y) {n : Nat} {t : Int} {v : Int64} (t1 : -2147483648 ≤ t) (t2 : t ≤ 2147483647) (hn : n < 256) (hk : ρ.2 1 0 n = 1) (hc : t < 0 ∨ ρ.2 4 0 n < t ∨ 504 < t) : Wp b L xs 8 mi_25 0 (ent (mL mi_25) [.ref (A 0), vI n, vI t, .long v]) [] H (fun h' o => h' = hskip H 6 ∧ o = .inr 2) := by
  obtain ⟨a, hN, w0⟩ := w_f1 (L := L) (xs := xs) hI hn hk 7 (by decide)
  have hI0 := hI
  obtain ⟨hH, hZ, hga, hgo, hSI, hTr, hTF, hAU, hHI, hRI, hRQ⟩ := hI
  obtain ⟨oV, oT, oN, oR, oDs, hQI, v0, v1, v2, v3, v4, vT, vw0, vw1, nNb, nDb⟩ := hSI
  have oX := hN.2.2.1
  have tn := hTr.2.1 n hn
  have f4 : c.2.1 12 n 4 = vI (ρ.2 4 0 n) := by
    rw [hN.2.2.2.2.2.2.2.2.1]
    unfold szv
    rw [if_pos hk]
  by_cases q1 : t < 0
  · refine w_aload_n rfl rfl ?_
    refine w_getfield rfl (VH_at hH oV (by decide) (by decide) (by decide)) rfl ?_
    rw [v0]
    refine w_iload_n rfl rfl ?_
    refine w_cvV rfl (by decide) (by first | omega | (simp only [Int.toNat_natCast, upF_2] at *; omega)) rfl (VH_at hH oT (by decide) (by decide) (by decide)) mt_26 (Nat.le_of_ble_eq_true rfl) (Nat.le_of_ble_eq_true rfl) w0 ?_
    refine w_astore rfl (by decide) ?_
    refine w_aload rfl rfl ?_
    refine w_ifnonnull_r rfl ?_
    refine w_iload_n rfl rfl ?_
    refine w_iflt_t rfl (by omega) (by omega) (by first | omega | (simp only [Int.toNat_natCast, upF_2] at *; omega)) ?_
    refine w_throw rfl (by first | omega | (simp only [Int.toNat_natCast, upF_2] at *; omega)) (Nat.le_of_ble_eq_true rfl) ?_
    exact ⟨rfl, rfl⟩
  by_cases q2 : ρ.2 4 0 n < t
  · refine w_aload_n rfl rfl ?_
    refine w_getfield rfl (VH_at hH oV (by decide) (by decide) (by decide)) rfl ?_
    rw [v0]
    refine w_iload_n rfl rfl ?_
    refine w_cvV rfl (by decide) (by first | omega | (simp only [Int.toNat_natCast, upF_2] at *; omega)) rfl (VH_at hH oT (by decide) (by decide) (by decide)) mt_26 (Nat.le_of_ble_eq_true rfl) (Nat.le_of_ble_eq_true rfl) w0 ?_
    refine w_astore rfl (by decide) ?_
    refine w_aload rfl rfl ?_
    refine w_ifnonnull_r rfl ?_
    refine w_iload_n rfl rfl ?_
    refine w_iflt_f rfl (by omega) (by omega) (by first | omega | (simp only [Int.toNat_natCast, upF_2] at *; omega)) ?_
    refine w_iload_n rfl rfl ?_
    refine w_aload rfl rfl ?_
    refine w_getfield rfl (VH_at hH oX (by decide) (by decide) (by decide)) rfl ?_
    rw [f4]
    refine w_icgt_t rfl (by omega) (by omega) (by omega) (by omega) (by first | omega | (simp only [Int.toNat_natCast, upF_2] at *; omega)) ?_
    refine w_throw rfl (by first | omega | (simp only [Int.toNat_natCast, upF_2] at *; omega)) (Nat.le_of_ble_eq_true rfl) ?_
    exact ⟨rfl, rfl⟩
  refine w_aload_n rfl rfl ?_
  refine w_getfield rfl (VH_at hH oV (by decide) (by decide) (by decide)) rfl ?_
  rw [v0]
  refine w_iload_n rfl rfl ?_
  refine w_cvV rfl (by decide) (by first | omega | (simp only [Int.toNat_natCast, upF_2] at *; omega)) rfl (VH_at hH oT (by decide) (by decide) (by decide)) mt_26 (Nat.le_of_ble_eq_true rfl) (Nat.le_of_ble_eq_true rfl) w0 ?_
  refine w_astore rfl (by decide) ?_
  refine w_aload rfl rfl ?_
  refine w_ifnonnull_r rfl ?_
  refine w_iload_n rfl rfl ?_
  refine w_iflt_f rfl (by omega) (by omega) (by first | omega | (simp only [Int.toNat_natCast, upF_2] at *; omega)) ?_
  refine w_iload_n rfl rfl ?_
  refine w_aload rfl rfl ?_
  refine w_getfield rfl (VH_at hH oX (by decide) (by decide) (by decide)) rfl ?_
  rw [f4]
  refine w_icgt_f rfl (by omega) (by omega) (by omega) (by omega) (by first | omega | (simp only [Int.toNat_natCast, upF_2] at *; omega)) ?_
  refine w_iload_n rfl rfl ?_
  refine w_sipush rfl rfl ?_
  refine w_icle_f rfl (by omega) (by omega) (by omega) (by omega) (by first | omega | (simp only [Int.toNat_natCast, upF_2] at *; omega)) ?_
  refine w_throw rfl (by first | omega | (simp only [Int.toNat_natCast, upF_2] at *; omega)) (Nat.le_of_ble_eq_true rfl) ?_
  exact ⟨rfl, rfl⟩
theorem T_write (hI : IW b m0 tm nc ns ρ of H A c g na cs ad qs oc dt da cn bl E fa ms lo Y) {n at_ : Nat} {v : Int64} {o : Nat} (ho : oc n = some o) (hn : n < 256) (hk : ρ.2 1 0 n = 1) (c1 : (at_ : Int) ≤ ρ.2 4 0 n) (c2 : at_ ≤ 504) : Wp b L xs 8 mi_25 0 (ent (mL mi_25) [.ref (A 0), vI n, vI at_, .long v]) [] H (fun h' o => o = .inl (some (vI (max (ρ.2 4 0 n) (at_ + 8)))) ∧ VH b (A 3) (Zr b m0) g (upC (stC (upC c 1 0 2 (vI (ρ.1 7 + 1))) n at_ v (ρ.2 4 0 n)) 12 n 5 (vI (ρ.1 7 + 1))) (nc) (ns) (ρ.1 8).toNat (ρ.1 9).toNat bl (ρ.2 30 0) (ρ.2 31 0) h') := by
  obtain ⟨a, hN, w0⟩ := w_f1 (L := L) (xs := xs) hI hn hk 7 (by decide)
  have hI0 := hI
  obtain ⟨hH, hZ, hga, hgo, hSI, hTr, hTF, hAU, hHI, hRI, hRQ⟩ := hI
  obtain ⟨oV, oT, oN, oR, oDs, hQI, v0, v1, v2, v3, v4, vT, vw0, vw1, nNb, nDb⟩ := hSI
  have oX := hN.2.2.1
  have tn := hTr.2.1 n hn
  have f4 : c.2.1 12 n 4 = vI (ρ.2 4 0 n) := by
    rw [hN.2.2.2.2.2.2.2.2.1]
    unfold szv
    rw [if_pos hk]
  obtain ⟨⟨g1, g2, g3, g4⟩, g5⟩ := hTr.2.2.2.2.2 n hn hk
  rw [ho] at g1 g4 g5
  have wo := V_ow1 (L := L) (xs := xs) hH 7 (by decide) (v := v) c2 (g5 o rfl) tn.2.2.2.2.2.1 tn.2.2.2.2.2.2.1 oX g4.1 g1 f4 oT hTr.1.2.2.2.2.1
  refine w_aload_n rfl rfl ?_
  refine w_getfield rfl (VH_at hH oV (by decide) (by decide) (by decide)) rfl ?_
  rw [v0]
  refine w_iload_n rfl rfl ?_
  refine w_cvV rfl (by decide) (by first | omega | (simp only [Int.toNat_natCast, upF_2] at *; omega)) rfl (VH_at hH oT (by decide) (by decide) (by decide)) mt_26 (Nat.le_of_ble_eq_true rfl) (Nat.le_of_ble_eq_true rfl) w0 ?_
  refine w_astore rfl (by decide) ?_
  refine w_aload rfl rfl ?_
  refine w_ifnonnull_r rfl ?_
  refine w_iload_n rfl rfl ?_
  refine w_iflt_f rfl (by omega) (by omega) (by first | omega | (simp only [Int.toNat_natCast, upF_2] at *; omega)) ?_
  refine w_iload_n rfl rfl ?_
  refine w_aload rfl rfl ?_
  refine w_getfield rfl (VH_at hH oX (by decide) (by decide) (by decide)) rfl ?_
  rw [f4]
  refine w_icgt_f rfl (by omega) (by omega) (by omega) (by omega) (by first | omega | (simp only [Int.toNat_natCast, upF_2] at *; omega)) ?_
  refine w_iload_n rfl rfl ?_
  refine w_sipush rfl rfl ?_
  refine w_icle_t rfl (by omega) (by omega) (by omega) (by omega) (by first | omega | (simp only [Int.toNat_natCast, upF_2] at *; omega)) ?_
  refine w_aload_n rfl rfl ?_
  refine w_getfield rfl (VH_at hH oV (by decide) (by decide) (by decide)) rfl ?_
  rw [v0]
  refine w_aload rfl rfl ?_
  refine w_iload_n rfl rfl ?_
  refine w_lload_n rfl rfl ?_
  refine w_cv rfl (by decide) (by first | omega | (simp only [Int.toNat_natCast, upF_2] at *; omega)) rfl (VH_at hH oT (by decide) (by decide) (by decide)) mt_27 (Nat.le_of_ble_eq_true rfl) (Nat.le_of_ble_eq_true rfl) wo ?_
  rintro _ _ ⟨rfl, eH, hH⟩
  refine ⟨none, rfl, ?_⟩
  have oX : (upC (stC (upC c 1 0 2 (vI (ρ.1 7 + 1))) n at_ v (ρ.2 4 0 n)) 12 n 5 (vI (ρ.1 7 + 1))).1 a = some (12, n) := (by rw [show (upC (stC (upC c 1 0 2 (vI (ρ.1 7 + 1))) n at_ v (ρ.2 4 0 n)) 12 n 5 (vI (ρ.1 7 + 1))).1 = (upC c 1 0 2 (vI (ρ.1 7 + 1))).1 from soC_1 n at_ v 8 0 _]; exact oX)
  refine w_aload rfl rfl ?_
  refine w_getfield rfl (VH_at hH oX (by decide) (by decide) (by decide)) rfl ?_
  rw [show (upC (stC (upC c 1 0 2 (vI (ρ.1 7 + 1))) n at_ v (ρ.2 4 0 n)) 12 n 5 (vI (ρ.1 7 + 1))).2.1 12 n 4 = vI (max (ρ.2 4 0 n) (at_ + 8)) from by unfold stC; rw [upC_ne (by omega), upC_eq]]
  refine w_ireturn rfl rfl ?_
  exact ⟨rfl, hH⟩
theorem T_write0 (hI : IW b m0 tm nc ns ρ of H A c g na cs ad qs oc dt da cn bl E fa ms lo Y) {n at_ : Nat} {v : Int64} (ho : oc n = none) (hn : n < 256) (hk : ρ.2 1 0 n = 1) (c1 : (at_ : Int) ≤ ρ.2 4 0 n) (c2 : at_ ≤ 504) : Wp b L xs 8 mi_25 0 (ent (mL mi_25) [.ref (A 0), vI n, vI at_, .long v]) [] H (fun h' o => o = .inl (some (vI (max (ρ.2 4 0 n) (at_ + 8)))) ∧ VH b (A 3) (Zr b m0) g (upC (stC (nwO (upC c 1 0 2 (vI (ρ.1 7 + 1))) H.1 n) n at_ v (ρ.2 4 0 n)) 12 n 5 (vI (ρ.1 7 + 1))) (nc + 1) (ns + 512) (ρ.1 8).toNat (ρ.1 9).toNat bl (ρ.2 30 0) (ρ.2 31 0) h') := by
  obtain ⟨a, hN, w0⟩ := w_f1 (L := L) (xs := xs) hI hn hk 7 (by decide)
  have hI0 := hI
  obtain ⟨hH, hZ, hga, hgo, hSI, hTr, hTF, hAU, hHI, hRI, hRQ⟩ := hI
  obtain ⟨oV, oT, oN, oR, oDs, hQI, v0, v1, v2, v3, v4, vT, vw0, vw1, nNb, nDb⟩ := hSI
  have oX := hN.2.2.1
  have tn := hTr.2.1 n hn
  have f4 : c.2.1 12 n 4 = vI (ρ.2 4 0 n) := by
    rw [hN.2.2.2.2.2.2.2.2.1]
    unfold szv
    rw [if_pos hk]
  obtain ⟨⟨g1, g2, g3, g4⟩, g5⟩ := hTr.2.2.2.2.2 n hn hk
  rw [ho] at g1 g4 g5
  have wo := V_ow0 (L := L) (xs := xs) hH 7 (by decide) (v := v) c2 tn.2.2.2.2.2.1 tn.2.2.2.2.2.2.1 oX g1 f4 (fun x => hTF.2 n hn (Or.inr ho) x) oT hTr.1.2.2.2.2.1
  have fr := ((VH_fr hH).1 H.1 (Nat.le_refl _)).2
  refine w_aload_n rfl rfl ?_
  refine w_getfield rfl (VH_at hH oV (by decide) (by decide) (by decide)) rfl ?_
  rw [v0]
  refine w_iload_n rfl rfl ?_
  refine w_cvV rfl (by decide) (by first | omega | (simp only [Int.toNat_natCast, upF_2] at *; omega)) rfl (VH_at hH oT (by decide) (by decide) (by decide)) mt_26 (Nat.le_of_ble_eq_true rfl) (Nat.le_of_ble_eq_true rfl) w0 ?_
  refine w_astore rfl (by decide) ?_
  refine w_aload rfl rfl ?_
  refine w_ifnonnull_r rfl ?_
  refine w_iload_n rfl rfl ?_
  refine w_iflt_f rfl (by omega) (by omega) (by first | omega | (simp only [Int.toNat_natCast, upF_2] at *; omega)) ?_
  refine w_iload_n rfl rfl ?_
  refine w_aload rfl rfl ?_
  refine w_getfield rfl (VH_at hH oX (by decide) (by decide) (by decide)) rfl ?_
  rw [f4]
  refine w_icgt_f rfl (by omega) (by omega) (by omega) (by omega) (by first | omega | (simp only [Int.toNat_natCast, upF_2] at *; omega)) ?_
  refine w_iload_n rfl rfl ?_
  refine w_sipush rfl rfl ?_
  refine w_icle_t rfl (by omega) (by omega) (by omega) (by omega) (by first | omega | (simp only [Int.toNat_natCast, upF_2] at *; omega)) ?_
  refine w_aload_n rfl rfl ?_
  refine w_getfield rfl (VH_at hH oV (by decide) (by decide) (by decide)) rfl ?_
  rw [v0]
  refine w_aload rfl rfl ?_
  refine w_iload_n rfl rfl ?_
  refine w_lload_n rfl rfl ?_
  refine w_cv rfl (by decide) (by first | omega | (simp only [Int.toNat_natCast, upF_2] at *; omega)) rfl (VH_at hH oT (by decide) (by decide) (by decide)) mt_27 (Nat.le_of_ble_eq_true rfl) (Nat.le_of_ble_eq_true rfl) wo ?_
  rintro _ _ ⟨rfl, eH, hH⟩
  refine ⟨none, rfl, ?_⟩
  have oX : (upC (stC (nwO (upC c 1 0 2 (vI (ρ.1 7 + 1))) H.1 n) n at_ v (ρ.2 4 0 n)) 12 n 5 (vI (ρ.1 7 + 1))).1 a = some (12, n) := (by rw [show (upC (stC (nwO (upC c 1 0 2 (vI (ρ.1 7 + 1))) H.1 n) n at_ v (ρ.2 4 0 n)) 12 n 5 (vI (ρ.1 7 + 1))).1 = (nwO (upC c 1 0 2 (vI (ρ.1 7 + 1))) H.1 n).1 from soC_1 n at_ v 8 0 _]; exact nw_o (c := upC c 1 0 2 (vI (ρ.1 7 + 1))) (k := 13) (i := n) (v := fun _ => vI 0) (len := c.2.2) fr oX)
  refine w_aload rfl rfl ?_
  refine w_getfield rfl (VH_at hH oX (by decide) (by decide) (by decide)) rfl ?_
  rw [show (upC (stC (nwO (upC c 1 0 2 (vI (ρ.1 7 + 1))) H.1 n) n at_ v (ρ.2 4 0 n)) 12 n 5 (vI (ρ.1 7 + 1))).2.1 12 n 4 = vI (max (ρ.2 4 0 n) (at_ + 8)) from by unfold stC; rw [upC_ne (by omega), upC_eq]]
  refine w_ireturn rfl rfl ?_
  exact ⟨rfl, hH⟩
end Tw
