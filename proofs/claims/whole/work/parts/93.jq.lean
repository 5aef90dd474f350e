/-! questions: octet, find -/
section Tr2
variable {L : Nat} {xs : Nat → Int32} {b m0 tm nc ns : Nat} {ρ : RS} {of : Nat → Value} {H : AH} {A : Nat → Nat} {c : CS} {g : Nat → Option AO} {na : Nat → Option Nat} {cs ad : Nat → Nat → Nat} {qs : Nat → Nat} {oc : Nat → Option Nat} {dt : Nat → Nat → Int} {da cn : Nat → Nat} {bl : Nat → Nat → Int} {E : Nat} {fa ms lo : Nat → Int} {Y : YS}
theorem T_oct_1 (hI : IW b m0 tm nc ns ρ of H A c g na cs ad qs oc dt da cn bl E fa ms lo Y) (z0 : ρ.1 42 = 0) {n : Int} {x : Int} : Wp b L xs 8 mi_99 0 (ent (mL mi_99) [.ref (A 0), vI 1, vI n, vI x]) [] H (fun h' o => h' = hskip H 6 ∧ o = .inr 1) := by
  have hI0 := hI
  obtain ⟨hH, hZ, hga, hgo, hSI, hTr, hTF, hAU, hHI, hRI, hRQ⟩ := hI
  obtain ⟨oV, oT, oN, oR, oDs, hQI, v0, v1, v2, v3, v4, vT, vw0, vw1, nNb, nDb⟩ := hSI
  refine w_aload_n rfl rfl ?_
  refine w_iload_n rfl rfl ?_
  refine w_cvV rfl (by decide) (by first | omega | (simp only [Int.toNat_natCast, upF_2] at *; omega)) rfl (VH_at hH oV (by decide) (by decide) (by decide)) mt_93 (Nat.le_of_ble_eq_true rfl) (Nat.le_of_ble_eq_true rfl) (T_v1 hI0 _) ?_
  refine w_astore rfl (by decide) ?_
  refine w_aload rfl rfl ?_
  refine w_ca4 rfl (by first | omega | (simp only [Int.toNat_natCast, upF_2] at *; omega)) rfl (VH_at hH hQI.1 (by decide) (by decide) (by decide)) mt_94 (Nat.le_of_ble_eq_true rfl) (Nat.le_of_ble_eq_true rfl) (T_t1 hI0 _) ?_
  rintro _ _ ⟨rfl, rfl⟩
  refine ⟨some _, rfl, ?_⟩
  refine w_ifne_f rfl (by omega) (by omega) (by first | omega | (simp only [Int.toNat_natCast, upF_2] at *; omega)) ?_
  refine w_throw rfl (by first | omega | (simp only [Int.toNat_natCast, upF_2] at *; omega)) (Nat.le_of_ble_eq_true rfl) ?_
  exact ⟨rfl, rfl⟩
theorem T_oct0_2 (hI : IW b m0 tm nc ns ρ of H A c g na cs ad qs oc dt da cn bl E fa ms lo Y) {n : Int} {x : Int} (n1 : -2147483648 ≤ n) (n2 : n ≤ 2147483647) (hc : ¬ (0 ≤ n ∧ n < 256 ∧ ρ.2 1 0 n.toNat = 1)) : Wp b L xs 8 mi_99 0 (ent (mL mi_99) [.ref (A 0), vI 0, vI n, vI x]) [] H (fun h' o => h' = hskip H 6 ∧ o = .inr 0) := by
  have hI0 := hI
  obtain ⟨hH, hZ, hga, hgo, hSI, hTr, hTF, hAU, hHI, hRI, hRQ⟩ := hI
  obtain ⟨oV, oT, oN, oR, oDs, hQI, v0, v1, v2, v3, v4, vT, vw0, vw1, nNb, nDb⟩ := hSI
  have kb := hI0.2.2.2.2.2.2.2.2.2.1.1
  by_cases q : 0 ≤ n ∧ n < 256
  · obtain ⟨m, rfl⟩ : ∃ m : Nat, n = m := ⟨n.toNat, by omega⟩
    have hm : ρ.2 1 0 m ≠ 1 := fun z => hc ⟨by omega, by omega, by rw [Int.toNat_natCast]; exact z⟩
    have kb2 := kb.2 1 0 m
    have fz := T_f0 (L := L) (xs := xs) hI0 (n := m) (w := 0) (by decide) (by decide) (by omega) 7 (by decide)
    have fz : Wp b L xs 7 mi_97 0 (ent (mL mi_97) [.ref (A 1), vI m, vI 0]) [] H (Rt H (vI (ρ.2 1 0 m))) := fz
    refine w_aload_n rfl rfl ?_
    refine w_iload_n rfl rfl ?_
    refine w_cvV rfl (by decide) (by first | omega | (simp only [Int.toNat_natCast, upF_2] at *; omega)) rfl (VH_at hH oV (by decide) (by decide) (by decide)) mt_93 (Nat.le_of_ble_eq_true rfl) (Nat.le_of_ble_eq_true rfl) (T_v0 hI0 _) ?_
    refine w_astore rfl (by decide) ?_
    refine w_aload rfl rfl ?_
    refine w_ca1 rfl (by first | omega | (simp only [Int.toNat_natCast, upF_2] at *; omega)) rfl (VH_at hH oT (by decide) (by decide) (by decide)) mt_95 (Nat.le_of_ble_eq_true rfl) (Nat.le_of_ble_eq_true rfl) (T_t0 _) ?_
    rintro _ _ ⟨rfl, rfl⟩
    refine ⟨some _, rfl, ?_⟩
    refine w_ifne_t rfl (by omega) (by omega) (by first | omega | (simp only [Int.toNat_natCast, upF_2] at *; omega)) ?_
    refine w_aload rfl rfl ?_
    refine w_iload_n rfl rfl ?_
    refine w_iconst rfl ?_
    refine w_ca1 rfl (by first | omega | (simp only [Int.toNat_natCast, upF_2] at *; omega)) rfl (VH_at hH oT (by decide) (by decide) (by decide)) mt_97 (Nat.le_of_ble_eq_true rfl) (Nat.le_of_ble_eq_true rfl) fz ?_
    rintro _ _ ⟨rfl, rfl⟩
    refine ⟨some _, rfl, ?_⟩
    refine w_iconst rfl ?_
    refine w_iceq_f rfl (by omega) (by omega) (by omega) (by omega) (by first | omega | (simp only [Int.toNat_natCast, upF_2] at *; omega)) ?_
    refine w_throw rfl (by first | omega | (simp only [Int.toNat_natCast, upF_2] at *; omega)) (Nat.le_of_ble_eq_true rfl) ?_
    exact ⟨rfl, rfl⟩
  · refine w_aload_n rfl rfl ?_
    refine w_iload_n rfl rfl ?_
    refine w_cvV rfl (by decide) (by first | omega | (simp only [Int.toNat_natCast, upF_2] at *; omega)) rfl (VH_at hH oV (by decide) (by decide) (by decide)) mt_93 (Nat.le_of_ble_eq_true rfl) (Nat.le_of_ble_eq_true rfl) (T_v0 hI0 _) ?_
    refine w_astore rfl (by decide) ?_
    refine w_aload rfl rfl ?_
    refine w_ca1 rfl (by first | omega | (simp only [Int.toNat_natCast, upF_2] at *; omega)) rfl (VH_at hH oT (by decide) (by decide) (by decide)) mt_95 (Nat.le_of_ble_eq_true rfl) (Nat.le_of_ble_eq_true rfl) (T_t0 _) ?_
    rintro _ _ ⟨rfl, rfl⟩
    refine ⟨some _, rfl, ?_⟩
    refine w_ifne_t rfl (by omega) (by omega) (by first | omega | (simp only [Int.toNat_natCast, upF_2] at *; omega)) ?_
    refine w_aload rfl rfl ?_
    refine w_iload_n rfl rfl ?_
    refine w_iconst rfl ?_
    refine w_ca1 rfl (by first | omega | (simp only [Int.toNat_natCast, upF_2] at *; omega)) rfl (VH_at hH oT (by decide) (by decide) (by decide)) mt_97 (Nat.le_of_ble_eq_true rfl) (Nat.le_of_ble_eq_true rfl) (T_f00 hI0 n1 n2 q _ (by decide)) ?_
    rintro _ _ ⟨rfl, rfl⟩
    refine ⟨some _, rfl, ?_⟩
    refine w_iconst rfl ?_
    refine w_iceq_f rfl (by omega) (by omega) (by omega) (by omega) (by first | omega | (simp only [Int.toNat_natCast, upF_2] at *; omega)) ?_
    refine w_throw rfl (by first | omega | (simp only [Int.toNat_natCast, upF_2] at *; omega)) (Nat.le_of_ble_eq_true rfl) ?_
    exact ⟨rfl, rfl⟩
theorem T_oct0_3 (hI : IW b m0 tm nc ns ρ of H A c g na cs ad qs oc dt da cn bl E fa ms lo Y) {n : Nat} {x : Int} (x1 : -2147483648 ≤ x) (x2 : x ≤ 2147483647) (hn : n < 256) (hk : ρ.2 1 0 n = 1) (hx : x < 0 ∨ ρ.2 4 0 n ≤ x) : Wp b L xs 8 mi_99 0 (ent (mL mi_99) [.ref (A 0), vI 0, vI n, vI x]) [] H (fun h' o => h' = hskip H 6 ∧ o = .inr 2) := by
  have hI0 := hI
  obtain ⟨hH, hZ, hga, hgo, hSI, hTr, hTF, hAU, hHI, hRI, hRQ⟩ := hI
  obtain ⟨oV, oT, oN, oR, oDs, hQI, v0, v1, v2, v3, v4, vT, vw0, vw1, nNb, nDb⟩ := hSI
  have fz := T_f0 (L := L) (xs := xs) hI0 (n := n) (w := 0) (by decide) (by decide) hn 7 (by decide)
  have fz : Wp b L xs 7 mi_97 0 (ent (mL mi_97) [.ref (A 1), vI n, vI 0]) [] H (Rt H (vI (ρ.2 1 0 n))) := fz
  rw [hk] at fz
  have fs := T_f0 (L := L) (xs := xs) hI0 (n := n) (w := 3) (by decide) (by decide) hn 7 (by decide)
  have e3 : rNode0 ρ n 3 = ρ.2 4 0 n := by
    unfold rNode0
    rw [hk, if_neg (by decide), if_neg (by decide), if_neg (by decide), if_neg (by decide), if_neg (by decide), if_pos rfl, if_pos rfl]
  rw [e3] at fs
  have kb2 := hI0.2.2.2.2.2.2.2.2.2.1.1.2 4 0 n
  by_cases q : x < 0
  · refine w_aload_n rfl rfl ?_
    refine w_iload_n rfl rfl ?_
    refine w_cvV rfl (by decide) (by first | omega | (simp only [Int.toNat_natCast, upF_2] at *; omega)) rfl (VH_at hH oV (by decide) (by decide) (by decide)) mt_93 (Nat.le_of_ble_eq_true rfl) (Nat.le_of_ble_eq_true rfl) (T_v0 hI0 _) ?_
    refine w_astore rfl (by decide) ?_
    refine w_aload rfl rfl ?_
    refine w_ca1 rfl (by first | omega | (simp only [Int.toNat_natCast, upF_2] at *; omega)) rfl (VH_at hH oT (by decide) (by decide) (by decide)) mt_95 (Nat.le_of_ble_eq_true rfl) (Nat.le_of_ble_eq_true rfl) (T_t0 _) ?_
    rintro _ _ ⟨rfl, rfl⟩
    refine ⟨some _, rfl, ?_⟩
    refine w_ifne_t rfl (by omega) (by omega) (by first | omega | (simp only [Int.toNat_natCast, upF_2] at *; omega)) ?_
    refine w_aload rfl rfl ?_
    refine w_iload_n rfl rfl ?_
    refine w_iconst rfl ?_
    refine w_ca1 rfl (by first | omega | (simp only [Int.toNat_natCast, upF_2] at *; omega)) rfl (VH_at hH oT (by decide) (by decide) (by decide)) mt_97 (Nat.le_of_ble_eq_true rfl) (Nat.le_of_ble_eq_true rfl) fz ?_
    rintro _ _ ⟨rfl, rfl⟩
    refine ⟨some _, rfl, ?_⟩
    refine w_iconst rfl ?_
    refine w_iceq_t rfl (by omega) (by omega) (by omega) (by omega) (by first | omega | (simp only [Int.toNat_natCast, upF_2] at *; omega)) ?_
    refine w_iload_n rfl rfl ?_
    refine w_iflt_t rfl (by omega) (by omega) (by first | omega | (simp only [Int.toNat_natCast, upF_2] at *; omega)) ?_
    refine w_throw rfl (by first | omega | (simp only [Int.toNat_natCast, upF_2] at *; omega)) (Nat.le_of_ble_eq_true rfl) ?_
    exact ⟨rfl, rfl⟩
  · refine w_aload_n rfl rfl ?_
    refine w_iload_n rfl rfl ?_
    refine w_cvV rfl (by decide) (by first | omega | (simp only [Int.toNat_natCast, upF_2] at *; omega)) rfl (VH_at hH oV (by decide) (by decide) (by decide)) mt_93 (Nat.le_of_ble_eq_true rfl) (Nat.le_of_ble_eq_true rfl) (T_v0 hI0 _) ?_
    refine w_astore rfl (by decide) ?_
    refine w_aload rfl rfl ?_
    refine w_ca1 rfl (by first | omega | (simp only [Int.toNat_natCast, upF_2] at *; omega)) rfl (VH_at hH oT (by decide) (by decide) (by decide)) mt_95 (Nat.le_of_ble_eq_true rfl) (Nat.le_of_ble_eq_true rfl) (T_t0 _) ?_
    rintro _ _ ⟨rfl, rfl⟩
    refine ⟨some _, rfl, ?_⟩
    refine w_ifne_t rfl (by omega) (by omega) (by first | omega | (simp only [Int.toNat_natCast, upF_2] at *; omega)) ?_
    refine w_aload rfl rfl ?_
    refine w_iload_n rfl rfl ?_
    refine w_iconst rfl ?_
    refine w_ca1 rfl (by first | omega | (simp only [Int.toNat_natCast, upF_2] at *; omega)) rfl (VH_at hH oT (by decide) (by decide) (by decide)) mt_97 (Nat.le_of_ble_eq_true rfl) (Nat.le_of_ble_eq_true rfl) fz ?_
    rintro _ _ ⟨rfl, rfl⟩
    refine ⟨some _, rfl, ?_⟩
    refine w_iconst rfl ?_
    refine w_iceq_t rfl (by omega) (by omega) (by omega) (by omega) (by first | omega | (simp only [Int.toNat_natCast, upF_2] at *; omega)) ?_
    refine w_iload_n rfl rfl ?_
    refine w_iflt_f rfl (by omega) (by omega) (by first | omega | (simp only [Int.toNat_natCast, upF_2] at *; omega)) ?_
    refine w_iload_n rfl rfl ?_
    refine w_aload rfl rfl ?_
    refine w_iload_n rfl rfl ?_
    refine w_iconst rfl ?_
    refine w_ca1 rfl (by first | omega | (simp only [Int.toNat_natCast, upF_2] at *; omega)) rfl (VH_at hH oT (by decide) (by decide) (by decide)) mt_97 (Nat.le_of_ble_eq_true rfl) (Nat.le_of_ble_eq_true rfl) fs ?_
    rintro _ _ ⟨rfl, rfl⟩
    refine ⟨some _, rfl, ?_⟩
    refine w_iclt_f rfl (by omega) (by omega) (by omega) (by omega) (by first | omega | (simp only [Int.toNat_natCast, upF_2] at *; omega)) ?_
    refine w_throw rfl (by first | omega | (simp only [Int.toNat_natCast, upF_2] at *; omega)) (Nat.le_of_ble_eq_true rfl) ?_
    exact ⟨rfl, rfl⟩
theorem T_oct0 (hI : IW b m0 tm nc ns ρ of H A c g na cs ad qs oc dt da cn bl E fa ms lo Y) {n x : Nat} (hn : n < 256) (hk : ρ.2 1 0 n = 1) (hx : (x : Int) < ρ.2 4 0 n) : Wp b L xs 8 mi_99 0 (ent (mL mi_99) [.ref (A 0), vI 0, vI n, vI x]) [] H (fun h' o => o = .inl (some (vI (ρ.2 6 n x % 256))) ∧ h' = H) := by
  have hq := T_q hI
  have hfe := T_fe hI
  have hI0 := hI
  obtain ⟨hH, hZ, hga, hgo, hSI, hTr, hTF, hAU, hHI, hRI, hRQ⟩ := hI
  obtain ⟨oV, oT, oN, oR, oDs, hQI, v0, v1, v2, v3, v4, vT, vw0, vw1, nNb, nDb⟩ := hSI
  have fz := T_f0 (L := L) (xs := xs) hI0 (n := n) (w := 0) (by decide) (by decide) hn 7 (by decide)
  have fz : Wp b L xs 7 mi_97 0 (ent (mL mi_97) [.ref (A 1), vI n, vI 0]) [] H (Rt H (vI (ρ.2 1 0 n))) := fz
  rw [hk] at fz
  have fs := T_f0 (L := L) (xs := xs) hI0 (n := n) (w := 3) (by decide) (by decide) hn 7 (by decide)
  have e3 : rNode0 ρ n 3 = ρ.2 4 0 n := by
    unfold rNode0
    rw [hk, if_neg (by decide), if_neg (by decide), if_neg (by decide), if_neg (by decide), if_neg (by decide), if_pos rfl, if_pos rfl]
  rw [e3] at fs
  have kb2 := hI0.2.2.2.2.2.2.2.2.2.1.1.2 4 0 n
  have tn := hTr.2.1 n hn
  obtain ⟨a, hN⟩ := na_ne hTr hn (by rw [hk]; decide)
  have wo : Wp b L xs 7 mi_102 0 (ent (mL mi_102) [.ref (A 1), vI n, vI x]) [] H (Rt H (vI (ρ.2 6 n x % 256))) := by
    obtain ⟨h, W0, P0, len, wr, W, S, rfl, h1, h2⟩ := VH_ch hH
    exact k_octOf 7 (by decide) (TP_mk h1 h2 hTr.1) hn (NdIs_mk h1 h2 hN) hk (Oct_mk h1 h2 (hTr.2.2.2.2.2 n hn hk).1) (hTr.2.2.2.2.2 n hn hk).2 hx (by omega)
  refine w_aload_n rfl rfl ?_
  refine w_iload_n rfl rfl ?_
  refine w_cvV rfl (by decide) (by first | omega | (simp only [Int.toNat_natCast, upF_2] at *; omega)) rfl (VH_at hH oV (by decide) (by decide) (by decide)) mt_93 (Nat.le_of_ble_eq_true rfl) (Nat.le_of_ble_eq_true rfl) (T_v0 hI0 _) ?_
  refine w_astore rfl (by decide) ?_
  refine w_aload rfl rfl ?_
  refine w_ca1 rfl (by first | omega | (simp only [Int.toNat_natCast, upF_2] at *; omega)) rfl (VH_at hH oT (by decide) (by decide) (by decide)) mt_95 (Nat.le_of_ble_eq_true rfl) (Nat.le_of_ble_eq_true rfl) (T_t0 _) ?_
  rintro _ _ ⟨rfl, rfl⟩
  refine ⟨some _, rfl, ?_⟩
  refine w_ifne_t rfl (by omega) (by omega) (by first | omega | (simp only [Int.toNat_natCast, upF_2] at *; omega)) ?_
  refine w_aload rfl rfl ?_
  refine w_iload_n rfl rfl ?_
  refine w_iconst rfl ?_
  refine w_ca1 rfl (by first | omega | (simp only [Int.toNat_natCast, upF_2] at *; omega)) rfl (VH_at hH oT (by decide) (by decide) (by decide)) mt_97 (Nat.le_of_ble_eq_true rfl) (Nat.le_of_ble_eq_true rfl) fz ?_
  rintro _ _ ⟨rfl, rfl⟩
  refine ⟨some _, rfl, ?_⟩
  refine w_iconst rfl ?_
  refine w_iceq_t rfl (by omega) (by omega) (by omega) (by omega) (by first | omega | (simp only [Int.toNat_natCast, upF_2] at *; omega)) ?_
  refine w_iload_n rfl rfl ?_
  refine w_iflt_f rfl (by omega) (by omega) (by first | omega | (simp only [Int.toNat_natCast, upF_2] at *; omega)) ?_
  refine w_iload_n rfl rfl ?_
  refine w_aload rfl rfl ?_
  refine w_iload_n rfl rfl ?_
  refine w_iconst rfl ?_
  refine w_ca1 rfl (by first | omega | (simp only [Int.toNat_natCast, upF_2] at *; omega)) rfl (VH_at hH oT (by decide) (by decide) (by decide)) mt_97 (Nat.le_of_ble_eq_true rfl) (Nat.le_of_ble_eq_true rfl) fs ?_
  rintro _ _ ⟨rfl, rfl⟩
  refine ⟨some _, rfl, ?_⟩
  refine w_iclt_t rfl (by omega) (by omega) (by omega) (by omega) (by first | omega | (simp only [Int.toNat_natCast, upF_2] at *; omega)) ?_
  refine w_aload rfl rfl ?_
  refine w_iload_n rfl rfl ?_
  refine w_iload_n rfl rfl ?_
  refine w_ca1 rfl (by first | omega | (simp only [Int.toNat_natCast, upF_2] at *; omega)) rfl (VH_at hH oT (by decide) (by decide) (by decide)) mt_102 (Nat.le_of_ble_eq_true rfl) (Nat.le_of_ble_eq_true rfl) wo ?_
  rintro _ _ ⟨rfl, rfl⟩
  refine ⟨some _, rfl, ?_⟩
  refine w_ireturn rfl rfl ?_
  exact ⟨rfl, rfl⟩
theorem T_oct1_2 (hI : IW b m0 tm nc ns ρ of H A c g na cs ad qs oc dt da cn bl E fa ms lo Y) (z1 : ρ.1 42 = 1) {n : Int} {x : Int} (n1 : -2147483648 ≤ n) (n2 : n ≤ 2147483647) (hc : ¬ (0 ≤ n ∧ n < 256 ∧ ρ.2 32 0 n.toNat = 1)) : Wp b L xs 8 mi_99 0 (ent (mL mi_99) [.ref (A 0), vI 1, vI n, vI x]) [] H (fun h' o => h' = hskip H 6 ∧ o = .inr 0) := by
  have hI0 := hI
  obtain ⟨hH, hZ, hga, hgo, hSI, hTr, hTF, hAU, hHI, hRI, hRQ⟩ := hI
  obtain ⟨oV, oT, oN, oR, oDs, hQI, v0, v1, v2, v3, v4, vT, vw0, vw1, nNb, nDb⟩ := hSI
  have kb := hI0.2.2.2.2.2.2.2.2.2.1.1
  by_cases q : 0 ≤ n ∧ n < 256
  · obtain ⟨m, rfl⟩ : ∃ m : Nat, n = m := ⟨n.toNat, by omega⟩
    have hm : ρ.2 32 0 m ≠ 1 := fun z => hc ⟨by omega, by omega, by rw [Int.toNat_natCast]; exact z⟩
    have kb2 := kb.2 32 0 m
    have fz := T_f1 (L := L) (xs := xs) hI0 z1 (n := m) (w := 0) (by decide) (by decide) (by omega) 7 (by decide)
    have fz : Wp b L xs 7 mi_96 0 (ent (mL mi_96) [.ref (A 7), vI m, vI 0]) [] H (Rt H (vI (ρ.2 32 0 m))) := fz
    refine w_aload_n rfl rfl ?_
    refine w_iload_n rfl rfl ?_
    refine w_cvV rfl (by decide) (by first | omega | (simp only [Int.toNat_natCast, upF_2] at *; omega)) rfl (VH_at hH oV (by decide) (by decide) (by decide)) mt_93 (Nat.le_of_ble_eq_true rfl) (Nat.le_of_ble_eq_true rfl) (T_v1 hI0 _) ?_
    refine w_astore rfl (by decide) ?_
    refine w_aload rfl rfl ?_
    refine w_ca4 rfl (by first | omega | (simp only [Int.toNat_natCast, upF_2] at *; omega)) rfl (VH_at hH hQI.1 (by decide) (by decide) (by decide)) mt_94 (Nat.le_of_ble_eq_true rfl) (Nat.le_of_ble_eq_true rfl) (T_t1 hI0 _) ?_
    rintro _ _ ⟨rfl, rfl⟩
    refine ⟨some _, rfl, ?_⟩
    refine w_ifne_t rfl (by omega) (by omega) (by first | omega | (simp only [Int.toNat_natCast, upF_2] at *; omega)) ?_
    refine w_aload rfl rfl ?_
    refine w_iload_n rfl rfl ?_
    refine w_iconst rfl ?_
    refine w_ca4 rfl (by first | omega | (simp only [Int.toNat_natCast, upF_2] at *; omega)) rfl (VH_at hH hQI.1 (by decide) (by decide) (by decide)) mt_96 (Nat.le_of_ble_eq_true rfl) (Nat.le_of_ble_eq_true rfl) fz ?_
    rintro _ _ ⟨rfl, rfl⟩
    refine ⟨some _, rfl, ?_⟩
    refine w_iconst rfl ?_
    refine w_iceq_f rfl (by omega) (by omega) (by omega) (by omega) (by first | omega | (simp only [Int.toNat_natCast, upF_2] at *; omega)) ?_
    refine w_throw rfl (by first | omega | (simp only [Int.toNat_natCast, upF_2] at *; omega)) (Nat.le_of_ble_eq_true rfl) ?_
    exact ⟨rfl, rfl⟩
  · refine w_aload_n rfl rfl ?_
    refine w_iload_n rfl rfl ?_
    refine w_cvV rfl (by decide) (by first | omega | (simp only [Int.toNat_natCast, upF_2] at *; omega)) rfl (VH_at hH oV (by decide) (by decide) (by decide)) mt_93 (Nat.le_of_ble_eq_true rfl) (Nat.le_of_ble_eq_true rfl) (T_v1 hI0 _) ?_
    refine w_astore rfl (by decide) ?_
    refine w_aload rfl rfl ?_
    refine w_ca4 rfl (by first | omega | (simp only [Int.toNat_natCast, upF_2] at *; omega)) rfl (VH_at hH hQI.1 (by decide) (by decide) (by decide)) mt_94 (Nat.le_of_ble_eq_true rfl) (Nat.le_of_ble_eq_true rfl) (T_t1 hI0 _) ?_
    rintro _ _ ⟨rfl, rfl⟩
    refine ⟨some _, rfl, ?_⟩
    refine w_ifne_t rfl (by omega) (by omega) (by first | omega | (simp only [Int.toNat_natCast, upF_2] at *; omega)) ?_
    refine w_aload rfl rfl ?_
    refine w_iload_n rfl rfl ?_
    refine w_iconst rfl ?_
    refine w_ca4 rfl (by first | omega | (simp only [Int.toNat_natCast, upF_2] at *; omega)) rfl (VH_at hH hQI.1 (by decide) (by decide) (by decide)) mt_96 (Nat.le_of_ble_eq_true rfl) (Nat.le_of_ble_eq_true rfl) (T_f10 hI0 n1 n2 q _ (by decide)) ?_
    rintro _ _ ⟨rfl, rfl⟩
    refine ⟨some _, rfl, ?_⟩
    refine w_iconst rfl ?_
    refine w_iceq_f rfl (by omega) (by omega) (by omega) (by omega) (by first | omega | (simp only [Int.toNat_natCast, upF_2] at *; omega)) ?_
    refine w_throw rfl (by first | omega | (simp only [Int.toNat_natCast, upF_2] at *; omega)) (Nat.le_of_ble_eq_true rfl) ?_
    exact ⟨rfl, rfl⟩
theorem T_oct1_3 (hI : IW b m0 tm nc ns ρ of H A c g na cs ad qs oc dt da cn bl E fa ms lo Y) (z1 : ρ.1 42 = 1) {n : Nat} {x : Int} (x1 : -2147483648 ≤ x) (x2 : x ≤ 2147483647) (hn : n < 256) (hk : ρ.2 32 0 n = 1) (hx : x < 0 ∨ ρ.2 35 0 n ≤ x) : Wp b L xs 8 mi_99 0 (ent (mL mi_99) [.ref (A 0), vI 1, vI n, vI x]) [] H (fun h' o => h' = hskip H 6 ∧ o = .inr 2) := by
  have hI0 := hI
  obtain ⟨hH, hZ, hga, hgo, hSI, hTr, hTF, hAU, hHI, hRI, hRQ⟩ := hI
  obtain ⟨oV, oT, oN, oR, oDs, hQI, v0, v1, v2, v3, v4, vT, vw0, vw1, nNb, nDb⟩ := hSI
  have fz := T_f1 (L := L) (xs := xs) hI0 z1 (n := n) (w := 0) (by decide) (by decide) hn 7 (by decide)
  have fz : Wp b L xs 7 mi_96 0 (ent (mL mi_96) [.ref (A 7), vI n, vI 0]) [] H (Rt H (vI (ρ.2 32 0 n))) := fz
  rw [hk] at fz
  have fs := T_f1 (L := L) (xs := xs) hI0 z1 (n := n) (w := 3) (by decide) (by decide) hn 7 (by decide)
  have e3 : rNode1 ρ n 3 = ρ.2 35 0 n := by
    unfold rNode1
    rw [hk, if_neg (by decide), if_neg (by decide), if_neg (by decide), if_neg (by decide), if_neg (by decide), if_pos rfl]
  rw [e3] at fs
  have kb2 := hI0.2.2.2.2.2.2.2.2.2.1.1.2 35 0 n
  by_cases q : x < 0
  · refine w_aload_n rfl rfl ?_
    refine w_iload_n rfl rfl ?_
    refine w_cvV rfl (by decide) (by first | omega | (simp only [Int.toNat_natCast, upF_2] at *; omega)) rfl (VH_at hH oV (by decide) (by decide) (by decide)) mt_93 (Nat.le_of_ble_eq_true rfl) (Nat.le_of_ble_eq_true rfl) (T_v1 hI0 _) ?_
    refine w_astore rfl (by decide) ?_
    refine w_aload rfl rfl ?_
    refine w_ca4 rfl (by first | omega | (simp only [Int.toNat_natCast, upF_2] at *; omega)) rfl (VH_at hH hQI.1 (by decide) (by decide) (by decide)) mt_94 (Nat.le_of_ble_eq_true rfl) (Nat.le_of_ble_eq_true rfl) (T_t1 hI0 _) ?_
    rintro _ _ ⟨rfl, rfl⟩
    refine ⟨some _, rfl, ?_⟩
    refine w_ifne_t rfl (by omega) (by omega) (by first | omega | (simp only [Int.toNat_natCast, upF_2] at *; omega)) ?_
    refine w_aload rfl rfl ?_
    refine w_iload_n rfl rfl ?_
    refine w_iconst rfl ?_
    refine w_ca4 rfl (by first | omega | (simp only [Int.toNat_natCast, upF_2] at *; omega)) rfl (VH_at hH hQI.1 (by decide) (by decide) (by decide)) mt_96 (Nat.le_of_ble_eq_true rfl) (Nat.le_of_ble_eq_true rfl) fz ?_
    rintro _ _ ⟨rfl, rfl⟩
    refine ⟨some _, rfl, ?_⟩
    refine w_iconst rfl ?_
    refine w_iceq_t rfl (by omega) (by omega) (by omega) (by omega) (by first | omega | (simp only [Int.toNat_natCast, upF_2] at *; omega)) ?_
    refine w_iload_n rfl rfl ?_
    refine w_iflt_t rfl (by omega) (by omega) (by first | omega | (simp only [Int.toNat_natCast, upF_2] at *; omega)) ?_
    refine w_throw rfl (by first | omega | (simp only [Int.toNat_natCast, upF_2] at *; omega)) (Nat.le_of_ble_eq_true rfl) ?_
    exact ⟨rfl, rfl⟩
  · refine w_aload_n rfl rfl ?_
    refine w_iload_n rfl rfl ?_
    refine w_cvV rfl (by decide) (by first | omega | (simp only [Int.toNat_natCast, upF_2] at *; omega)) rfl (VH_at hH oV (by decide) (by decide) (by decide)) mt_93 (Nat.le_of_ble_eq_true rfl) (Nat.le_of_ble_eq_true rfl) (T_v1 hI0 _) ?_
    refine w_astore rfl (by decide) ?_
    refine w_aload rfl rfl ?_
    refine w_ca4 rfl (by first | omega | (simp only [Int.toNat_natCast, upF_2] at *; omega)) rfl (VH_at hH hQI.1 (by decide) (by decide) (by decide)) mt_94 (Nat.le_of_ble_eq_true rfl) (Nat.le_of_ble_eq_true rfl) (T_t1 hI0 _) ?_
    rintro _ _ ⟨rfl, rfl⟩
    refine ⟨some _, rfl, ?_⟩
    refine w_ifne_t rfl (by omega) (by omega) (by first | omega | (simp only [Int.toNat_natCast, upF_2] at *; omega)) ?_
    refine w_aload rfl rfl ?_
    refine w_iload_n rfl rfl ?_
    refine w_iconst rfl ?_
    refine w_ca4 rfl (by first | omega | (simp only [Int.toNat_natCast, upF_2] at *; omega)) rfl (VH_at hH hQI.1 (by decide) (by decide) (by decide)) mt_96 (Nat.le_of_ble_eq_true rfl) (Nat.le_of_ble_eq_true rfl) fz ?_
    rintro _ _ ⟨rfl, rfl⟩
    refine ⟨some _, rfl, ?_⟩
    refine w_iconst rfl ?_
    refine w_iceq_t rfl (by omega) (by omega) (by omega) (by omega) (by first | omega | (simp only [Int.toNat_natCast, upF_2] at *; omega)) ?_
    refine w_iload_n rfl rfl ?_
    refine w_iflt_f rfl (by omega) (by omega) (by first | omega | (simp only [Int.toNat_natCast, upF_2] at *; omega)) ?_
    refine w_iload_n rfl rfl ?_
    refine w_aload rfl rfl ?_
    refine w_iload_n rfl rfl ?_
    refine w_iconst rfl ?_
    refine w_ca4 rfl (by first | omega | (simp only [Int.toNat_natCast, upF_2] at *; omega)) rfl (VH_at hH hQI.1 (by decide) (by decide) (by decide)) mt_96 (Nat.le_of_ble_eq_true rfl) (Nat.le_of_ble_eq_true rfl) fs ?_
    rintro _ _ ⟨rfl, rfl⟩
    refine ⟨some _, rfl, ?_⟩
    refine w_iclt_f rfl (by omega) (by omega) (by omega) (by omega) (by first | omega | (simp only [Int.toNat_natCast, upF_2] at *; omega)) ?_
    refine w_throw rfl (by first | omega | (simp only [Int.toNat_natCast, upF_2] at *; omega)) (Nat.le_of_ble_eq_true rfl) ?_
    exact ⟨rfl, rfl⟩
theorem T_oct1 (hI : IW b m0 tm nc ns ρ of H A c g na cs ad qs oc dt da cn bl E fa ms lo Y) (z1 : ρ.1 42 = 1) {n x : Nat} (hn : n < 256) (hk : ρ.2 32 0 n = 1) (hx : (x : Int) < ρ.2 35 0 n) : Wp b L xs 8 mi_99 0 (ent (mL mi_99) [.ref (A 0), vI 1, vI n, vI x]) [] H (fun h' o => o = .inl (some (vI (ρ.2 39 n x % 256))) ∧ h' = H) := by
  have hq := T_q hI
  have hfe := T_fe hI
  have hI0 := hI
  obtain ⟨hH, hZ, hga, hgo, hSI, hTr, hTF, hAU, hHI, hRI, hRQ⟩ := hI
  obtain ⟨oV, oT, oN, oR, oDs, hQI, v0, v1, v2, v3, v4, vT, vw0, vw1, nNb, nDb⟩ := hSI
  have fz := T_f1 (L := L) (xs := xs) hI0 z1 (n := n) (w := 0) (by decide) (by decide) hn 7 (by decide)
  have fz : Wp b L xs 7 mi_96 0 (ent (mL mi_96) [.ref (A 7), vI n, vI 0]) [] H (Rt H (vI (ρ.2 32 0 n))) := fz
  rw [hk] at fz
  have fs := T_f1 (L := L) (xs := xs) hI0 z1 (n := n) (w := 3) (by decide) (by decide) hn 7 (by decide)
  have e3 : rNode1 ρ n 3 = ρ.2 35 0 n := by
    unfold rNode1
    rw [hk, if_neg (by decide), if_neg (by decide), if_neg (by decide), if_neg (by decide), if_neg (by decide), if_pos rfl]
  rw [e3] at fs
  have kb2 := hI0.2.2.2.2.2.2.2.2.2.1.1.2 35 0 n
  obtain ⟨x1, x2, x3⟩ := hRQ.2.2.2.2.2.2.2 z1
  have wo := V_rocs (L := L) (xs := xs) hq 7 (by decide) hQI x1 x2 x3 hHI.2.2.2.2.2.2.1 hHI.2.2.2.2.1 hfe hn hk hx
  refine w_aload_n rfl rfl ?_
  refine w_iload_n rfl rfl ?_
  refine w_cvV rfl (by decide) (by first | omega | (simp only [Int.toNat_natCast, upF_2] at *; omega)) rfl (VH_at hH oV (by decide) (by decide) (by decide)) mt_93 (Nat.le_of_ble_eq_true rfl) (Nat.le_of_ble_eq_true rfl) (T_v1 hI0 _) ?_
  refine w_astore rfl (by decide) ?_
  refine w_aload rfl rfl ?_
  refine w_ca4 rfl (by first | omega | (simp only [Int.toNat_natCast, upF_2] at *; omega)) rfl (VH_at hH hQI.1 (by decide) (by decide) (by decide)) mt_94 (Nat.le_of_ble_eq_true rfl) (Nat.le_of_ble_eq_true rfl) (T_t1 hI0 _) ?_
  rintro _ _ ⟨rfl, rfl⟩
  refine ⟨some _, rfl, ?_⟩
  refine w_ifne_t rfl (by omega) (by omega) (by first | omega | (simp only [Int.toNat_natCast, upF_2] at *; omega)) ?_
  refine w_aload rfl rfl ?_
  refine w_iload_n rfl rfl ?_
  refine w_iconst rfl ?_
  refine w_ca4 rfl (by first | omega | (simp only [Int.toNat_natCast, upF_2] at *; omega)) rfl (VH_at hH hQI.1 (by decide) (by decide) (by decide)) mt_96 (Nat.le_of_ble_eq_true rfl) (Nat.le_of_ble_eq_true rfl) fz ?_
  rintro _ _ ⟨rfl, rfl⟩
  refine ⟨some _, rfl, ?_⟩
  refine w_iconst rfl ?_
  refine w_iceq_t rfl (by omega) (by omega) (by omega) (by omega) (by first | omega | (simp only [Int.toNat_natCast, upF_2] at *; omega)) ?_
  refine w_iload_n rfl rfl ?_
  refine w_iflt_f rfl (by omega) (by omega) (by first | omega | (simp only [Int.toNat_natCast, upF_2] at *; omega)) ?_
  refine w_iload_n rfl rfl ?_
  refine w_aload rfl rfl ?_
  refine w_iload_n rfl rfl ?_
  refine w_iconst rfl ?_
  refine w_ca4 rfl (by first | omega | (simp only [Int.toNat_natCast, upF_2] at *; omega)) rfl (VH_at hH hQI.1 (by decide) (by decide) (by decide)) mt_96 (Nat.le_of_ble_eq_true rfl) (Nat.le_of_ble_eq_true rfl) fs ?_
  rintro _ _ ⟨rfl, rfl⟩
  refine ⟨some _, rfl, ?_⟩
  refine w_iclt_t rfl (by omega) (by omega) (by omega) (by omega) (by first | omega | (simp only [Int.toNat_natCast, upF_2] at *; omega)) ?_
  refine w_aload rfl rfl ?_
  refine w_iload_n rfl rfl ?_
  refine w_iload_n rfl rfl ?_
  refine w_ca4 rfl (by first | omega | (simp only [Int.toNat_natCast, upF_2] at *; omega)) rfl (VH_at hH hQI.1 (by decide) (by decide) (by decide)) mt_100 (Nat.le_of_ble_eq_true rfl) (Nat.le_of_ble_eq_true rfl) wo ?_
  rintro _ _ ⟨rfl, rfl⟩
  refine ⟨some _, rfl, ?_⟩
  refine w_ireturn rfl rfl ?_
  exact ⟨rfl, rfl⟩
theorem T_find_1 (hI : IW b m0 tm nc ns ρ of H A c g na cs ad qs oc dt da cn bl E fa ms lo Y) (z0 : ρ.1 42 = 0) {n : Int} {x : Int} : Wp b L xs 8 mi_104 0 (ent (mL mi_104) [.ref (A 0), vI 1, vI n, vI x]) [] H (fun h' o => h' = hskip H 6 ∧ o = .inr 1) := by
  have hI0 := hI
  obtain ⟨hH, hZ, hga, hgo, hSI, hTr, hTF, hAU, hHI, hRI, hRQ⟩ := hI
  obtain ⟨oV, oT, oN, oR, oDs, hQI, v0, v1, v2, v3, v4, vT, vw0, vw1, nNb, nDb⟩ := hSI
  refine w_aload_n rfl rfl ?_
  refine w_iload_n rfl rfl ?_
  refine w_cvV rfl (by decide) (by first | omega | (simp only [Int.toNat_natCast, upF_2] at *; omega)) rfl (VH_at hH oV (by decide) (by decide) (by decide)) mt_93 (Nat.le_of_ble_eq_true rfl) (Nat.le_of_ble_eq_true rfl) (T_v1 hI0 _) ?_
  refine w_astore rfl (by decide) ?_
  refine w_aload rfl rfl ?_
  refine w_ca4 rfl (by first | omega | (simp only [Int.toNat_natCast, upF_2] at *; omega)) rfl (VH_at hH hQI.1 (by decide) (by decide) (by decide)) mt_94 (Nat.le_of_ble_eq_true rfl) (Nat.le_of_ble_eq_true rfl) (T_t1 hI0 _) ?_
  rintro _ _ ⟨rfl, rfl⟩
  refine ⟨some _, rfl, ?_⟩
  refine w_ifne_f rfl (by omega) (by omega) (by first | omega | (simp only [Int.toNat_natCast, upF_2] at *; omega)) ?_
  refine w_throw rfl (by first | omega | (simp only [Int.toNat_natCast, upF_2] at *; omega)) (Nat.le_of_ble_eq_true rfl) ?_
  exact ⟨rfl, rfl⟩
theorem T_find0_2 (hI : IW b m0 tm nc ns ρ of H A c g na cs ad qs oc dt da cn bl E fa ms lo Y) {n : Int} {x : Int} (n1 : -2147483648 ≤ n) (n2 : n ≤ 2147483647) (hc : ¬ (0 ≤ n ∧ n < 256 ∧ ρ.2 1 0 n.toNat = 2)) : Wp b L xs 8 mi_104 0 (ent (mL mi_104) [.ref (A 0), vI 0, vI n, vI x]) [] H (fun h' o => h' = hskip H 6 ∧ o = .inr 0) := by
  have hI0 := hI
  obtain ⟨hH, hZ, hga, hgo, hSI, hTr, hTF, hAU, hHI, hRI, hRQ⟩ := hI
  obtain ⟨oV, oT, oN, oR, oDs, hQI, v0, v1, v2, v3, v4, vT, vw0, vw1, nNb, nDb⟩ := hSI
  have kb := hI0.2.2.2.2.2.2.2.2.2.1.1
  by_cases q : 0 ≤ n ∧ n < 256
  · obtain ⟨m, rfl⟩ : ∃ m : Nat, n = m := ⟨n.toNat, by omega⟩
    have hm : ρ.2 1 0 m ≠ 2 := fun z => hc ⟨by omega, by omega, by rw [Int.toNat_natCast]; exact z⟩
    have kb2 := kb.2 1 0 m
    have fz := T_f0 (L := L) (xs := xs) hI0 (n := m) (w := 0) (by decide) (by decide) (by omega) 7 (by decide)
    have fz : Wp b L xs 7 mi_97 0 (ent (mL mi_97) [.ref (A 1), vI m, vI 0]) [] H (Rt H (vI (ρ.2 1 0 m))) := fz
    refine w_aload_n rfl rfl ?_
    refine w_iload_n rfl rfl ?_
    refine w_cvV rfl (by decide) (by first | omega | (simp only [Int.toNat_natCast, upF_2] at *; omega)) rfl (VH_at hH oV (by decide) (by decide) (by decide)) mt_93 (Nat.le_of_ble_eq_true rfl) (Nat.le_of_ble_eq_true rfl) (T_v0 hI0 _) ?_
    refine w_astore rfl (by decide) ?_
    refine w_aload rfl rfl ?_
    refine w_ca1 rfl (by first | omega | (simp only [Int.toNat_natCast, upF_2] at *; omega)) rfl (VH_at hH oT (by decide) (by decide) (by decide)) mt_95 (Nat.le_of_ble_eq_true rfl) (Nat.le_of_ble_eq_true rfl) (T_t0 _) ?_
    rintro _ _ ⟨rfl, rfl⟩
    refine ⟨some _, rfl, ?_⟩
    refine w_ifne_t rfl (by omega) (by omega) (by first | omega | (simp only [Int.toNat_natCast, upF_2] at *; omega)) ?_
    refine w_aload rfl rfl ?_
    refine w_iload_n rfl rfl ?_
    refine w_iconst rfl ?_
    refine w_ca1 rfl (by first | omega | (simp only [Int.toNat_natCast, upF_2] at *; omega)) rfl (VH_at hH oT (by decide) (by decide) (by decide)) mt_97 (Nat.le_of_ble_eq_true rfl) (Nat.le_of_ble_eq_true rfl) fz ?_
    rintro _ _ ⟨rfl, rfl⟩
    refine ⟨some _, rfl, ?_⟩
    refine w_iconst rfl ?_
    refine w_iceq_f rfl (by omega) (by omega) (by omega) (by omega) (by first | omega | (simp only [Int.toNat_natCast, upF_2] at *; omega)) ?_
    refine w_throw rfl (by first | omega | (simp only [Int.toNat_natCast, upF_2] at *; omega)) (Nat.le_of_ble_eq_true rfl) ?_
    exact ⟨rfl, rfl⟩
  · refine w_aload_n rfl rfl ?_
    refine w_iload_n rfl rfl ?_
    refine w_cvV rfl (by decide) (by first | omega | (simp only [Int.toNat_natCast, upF_2] at *; omega)) rfl (VH_at hH oV (by decide) (by decide) (by decide)) mt_93 (Nat.le_of_ble_eq_true rfl) (Nat.le_of_ble_eq_true rfl) (T_v0 hI0 _) ?_
    refine w_astore rfl (by decide) ?_
    refine w_aload rfl rfl ?_
    refine w_ca1 rfl (by first | omega | (simp only [Int.toNat_natCast, upF_2] at *; omega)) rfl (VH_at hH oT (by decide) (by decide) (by decide)) mt_95 (Nat.le_of_ble_eq_true rfl) (Nat.le_of_ble_eq_true rfl) (T_t0 _) ?_
    rintro _ _ ⟨rfl, rfl⟩
    refine ⟨some _, rfl, ?_⟩
    refine w_ifne_t rfl (by omega) (by omega) (by first | omega | (simp only [Int.toNat_natCast, upF_2] at *; omega)) ?_
    refine w_aload rfl rfl ?_
    refine w_iload_n rfl rfl ?_
    refine w_iconst rfl ?_
    refine w_ca1 rfl (by first | omega | (simp only [Int.toNat_natCast, upF_2] at *; omega)) rfl (VH_at hH oT (by decide) (by decide) (by decide)) mt_97 (Nat.le_of_ble_eq_true rfl) (Nat.le_of_ble_eq_true rfl) (T_f00 hI0 n1 n2 q _ (by decide)) ?_
    rintro _ _ ⟨rfl, rfl⟩
    refine ⟨some _, rfl, ?_⟩
    refine w_iconst rfl ?_
    refine w_iceq_f rfl (by omega) (by omega) (by omega) (by omega) (by first | omega | (simp only [Int.toNat_natCast, upF_2] at *; omega)) ?_
    refine w_throw rfl (by first | omega | (simp only [Int.toNat_natCast, upF_2] at *; omega)) (Nat.le_of_ble_eq_true rfl) ?_
    exact ⟨rfl, rfl⟩
theorem T_find0 (hI : IW b m0 tm nc ns ρ of H A c g na cs ad qs oc dt da cn bl E fa ms lo Y) {n : Nat} {x : Int} (x1 : -2147483648 ≤ x) (x2 : x ≤ 2147483647) (hn : n < 256) (hk : ρ.2 1 0 n = 2) : Wp b L xs 8 mi_104 0 (ent (mL mi_104) [.ref (A 0), vI 0, vI n, vI x]) [] H (fun h' o => o = .inl (some (vI (rNamed ρ n x))) ∧ h' = H) := by
  have hI0 := hI
  obtain ⟨hH, hZ, hga, hgo, hSI, hTr, hTF, hAU, hHI, hRI, hRQ⟩ := hI
  obtain ⟨oV, oT, oN, oR, oDs, hQI, v0, v1, v2, v3, v4, vT, vw0, vw1, nNb, nDb⟩ := hSI
  have fz := T_f0 (L := L) (xs := xs) hI0 (n := n) (w := 0) (by decide) (by decide) hn 7 (by decide)
  have fz : Wp b L xs 7 mi_97 0 (ent (mL mi_97) [.ref (A 1), vI n, vI 0]) [] H (Rt H (vI (ρ.2 1 0 n))) := fz
  rw [hk] at fz
  obtain ⟨a, hN⟩ := na_ne hTr hn (by rw [hk]; decide)
  have dir := hTr.2.2.2.2.1 n hn (by rw [hk]; decide)
  have wo : Wp b L xs 7 mi_106 0 (ent (mL mi_106) [.ref (A 1), vI n, vI x]) [] H (Rt H (vI (rNamed ρ n x))) := by
    obtain ⟨h, W0, P0, len, wr, W, S, rfl, h1, h2⟩ := VH_ch hH
    have dk : DirOk (mkV c W0 P0 len (ρ.1 8).toNat wr (ρ.1 9).toNat W S) ρ na (cs n) (ad n) (qs n) n := ⟨dir.1, dir.2.1, Chn_mk h1 h2 dir.2.2.1, dir.2.2.2⟩
    by_cases z : ∃ t, t < qs n ∧ ρ.2 3 0 (cs n t) = x
    · obtain ⟨t, ht, hte⟩ := z
      rw [named_p dir.1 ht hte]
      exact k_entF 7 (by decide) (TP_mk h1 h2 hTr.1) hn (NdIs_mk h1 h2 hN) hk dk x1 x2 ht hte (Tr_num hTr hn (by rw [hk]; decide) ht).1
    · rw [named_n dir.1 (fun j hj y => z ⟨j, hj, y⟩)]
      exact k_entN 7 (by decide) (TP_mk h1 h2 hTr.1) hn (NdIs_mk h1 h2 hN) hk dk x1 x2 (fun j hj y => z ⟨j, hj, y⟩)
  refine w_aload_n rfl rfl ?_
  refine w_iload_n rfl rfl ?_
  refine w_cvV rfl (by decide) (by first | omega | (simp only [Int.toNat_natCast, upF_2] at *; omega)) rfl (VH_at hH oV (by decide) (by decide) (by decide)) mt_93 (Nat.le_of_ble_eq_true rfl) (Nat.le_of_ble_eq_true rfl) (T_v0 hI0 _) ?_
  refine w_astore rfl (by decide) ?_
  refine w_aload rfl rfl ?_
  refine w_ca1 rfl (by first | omega | (simp only [Int.toNat_natCast, upF_2] at *; omega)) rfl (VH_at hH oT (by decide) (by decide) (by decide)) mt_95 (Nat.le_of_ble_eq_true rfl) (Nat.le_of_ble_eq_true rfl) (T_t0 _) ?_
  rintro _ _ ⟨rfl, rfl⟩
  refine ⟨some _, rfl, ?_⟩
  refine w_ifne_t rfl (by omega) (by omega) (by first | omega | (simp only [Int.toNat_natCast, upF_2] at *; omega)) ?_
  refine w_aload rfl rfl ?_
  refine w_iload_n rfl rfl ?_
  refine w_iconst rfl ?_
  refine w_ca1 rfl (by first | omega | (simp only [Int.toNat_natCast, upF_2] at *; omega)) rfl (VH_at hH oT (by decide) (by decide) (by decide)) mt_97 (Nat.le_of_ble_eq_true rfl) (Nat.le_of_ble_eq_true rfl) fz ?_
  rintro _ _ ⟨rfl, rfl⟩
  refine ⟨some _, rfl, ?_⟩
  refine w_iconst rfl ?_
  refine w_iceq_t rfl (by omega) (by omega) (by omega) (by omega) (by first | omega | (simp only [Int.toNat_natCast, upF_2] at *; omega)) ?_
  refine w_aload rfl rfl ?_
  refine w_iload_n rfl rfl ?_
  refine w_iload_n rfl rfl ?_
  refine w_ca1 rfl (by first | omega | (simp only [Int.toNat_natCast, upF_2] at *; omega)) rfl (VH_at hH oT (by decide) (by decide) (by decide)) mt_106 (Nat.le_of_ble_eq_true rfl) (Nat.le_of_ble_eq_true rfl) wo ?_
  rintro _ _ ⟨rfl, rfl⟩
  refine ⟨some _, rfl, ?_⟩
  refine w_ireturn rfl rfl ?_
  exact ⟨rfl, rfl⟩
theorem T_find1_2 (hI : IW b m0 tm nc ns ρ of H A c g na cs ad qs oc dt da cn bl E fa ms lo Y) (z1 : ρ.1 42 = 1) {n : Int} {x : Int} (n1 : -2147483648 ≤ n) (n2 : n ≤ 2147483647) (hc : ¬ (0 ≤ n ∧ n < 256 ∧ ρ.2 32 0 n.toNat = 2)) : Wp b L xs 8 mi_104 0 (ent (mL mi_104) [.ref (A 0), vI 1, vI n, vI x]) [] H (fun h' o => h' = hskip H 6 ∧ o = .inr 0) := by
  have hI0 := hI
  obtain ⟨hH, hZ, hga, hgo, hSI, hTr, hTF, hAU, hHI, hRI, hRQ⟩ := hI
  obtain ⟨oV, oT, oN, oR, oDs, hQI, v0, v1, v2, v3, v4, vT, vw0, vw1, nNb, nDb⟩ := hSI
  have kb := hI0.2.2.2.2.2.2.2.2.2.1.1
  by_cases q : 0 ≤ n ∧ n < 256
  · obtain ⟨m, rfl⟩ : ∃ m : Nat, n = m := ⟨n.toNat, by omega⟩
    have hm : ρ.2 32 0 m ≠ 2 := fun z => hc ⟨by omega, by omega, by rw [Int.toNat_natCast]; exact z⟩
    have kb2 := kb.2 32 0 m
    have fz := T_f1 (L := L) (xs := xs) hI0 z1 (n := m) (w := 0) (by decide) (by decide) (by omega) 7 (by decide)
    have fz : Wp b L xs 7 mi_96 0 (ent (mL mi_96) [.ref (A 7), vI m, vI 0]) [] H (Rt H (vI (ρ.2 32 0 m))) := fz
    refine w_aload_n rfl rfl ?_
    refine w_iload_n rfl rfl ?_
    refine w_cvV rfl (by decide) (by first | omega | (simp only [Int.toNat_natCast, upF_2] at *; omega)) rfl (VH_at hH oV (by decide) (by decide) (by decide)) mt_93 (Nat.le_of_ble_eq_true rfl) (Nat.le_of_ble_eq_true rfl) (T_v1 hI0 _) ?_
    refine w_astore rfl (by decide) ?_
    refine w_aload rfl rfl ?_
    refine w_ca4 rfl (by first | omega | (simp only [Int.toNat_natCast, upF_2] at *; omega)) rfl (VH_at hH hQI.1 (by decide) (by decide) (by decide)) mt_94 (Nat.le_of_ble_eq_true rfl) (Nat.le_of_ble_eq_true rfl) (T_t1 hI0 _) ?_
    rintro _ _ ⟨rfl, rfl⟩
    refine ⟨some _, rfl, ?_⟩
    refine w_ifne_t rfl (by omega) (by omega) (by first | omega | (simp only [Int.toNat_natCast, upF_2] at *; omega)) ?_
    refine w_aload rfl rfl ?_
    refine w_iload_n rfl rfl ?_
    refine w_iconst rfl ?_
    refine w_ca4 rfl (by first | omega | (simp only [Int.toNat_natCast, upF_2] at *; omega)) rfl (VH_at hH hQI.1 (by decide) (by decide) (by decide)) mt_96 (Nat.le_of_ble_eq_true rfl) (Nat.le_of_ble_eq_true rfl) fz ?_
    rintro _ _ ⟨rfl, rfl⟩
    refine ⟨some _, rfl, ?_⟩
    refine w_iconst rfl ?_
    refine w_iceq_f rfl (by omega) (by omega) (by omega) (by omega) (by first | omega | (simp only [Int.toNat_natCast, upF_2] at *; omega)) ?_
    refine w_throw rfl (by first | omega | (simp only [Int.toNat_natCast, upF_2] at *; omega)) (Nat.le_of_ble_eq_true rfl) ?_
    exact ⟨rfl, rfl⟩
  · refine w_aload_n rfl rfl ?_
    refine w_iload_n rfl rfl ?_
    refine w_cvV rfl (by decide) (by first | omega | (simp only [Int.toNat_natCast, upF_2] at *; omega)) rfl (VH_at hH oV (by decide) (by decide) (by decide)) mt_93 (Nat.le_of_ble_eq_true rfl) (Nat.le_of_ble_eq_true rfl) (T_v1 hI0 _) ?_
    refine w_astore rfl (by decide) ?_
    refine w_aload rfl rfl ?_
    refine w_ca4 rfl (by first | omega | (simp only [Int.toNat_natCast, upF_2] at *; omega)) rfl (VH_at hH hQI.1 (by decide) (by decide) (by decide)) mt_94 (Nat.le_of_ble_eq_true rfl) (Nat.le_of_ble_eq_true rfl) (T_t1 hI0 _) ?_
    rintro _ _ ⟨rfl, rfl⟩
    refine ⟨some _, rfl, ?_⟩
    refine w_ifne_t rfl (by omega) (by omega) (by first | omega | (simp only [Int.toNat_natCast, upF_2] at *; omega)) ?_
    refine w_aload rfl rfl ?_
    refine w_iload_n rfl rfl ?_
    refine w_iconst rfl ?_
    refine w_ca4 rfl (by first | omega | (simp only [Int.toNat_natCast, upF_2] at *; omega)) rfl (VH_at hH hQI.1 (by decide) (by decide) (by decide)) mt_96 (Nat.le_of_ble_eq_true rfl) (Nat.le_of_ble_eq_true rfl) (T_f10 hI0 n1 n2 q _ (by decide)) ?_
    rintro _ _ ⟨rfl, rfl⟩
    refine ⟨some _, rfl, ?_⟩
    refine w_iconst rfl ?_
    refine w_iceq_f rfl (by omega) (by omega) (by omega) (by omega) (by first | omega | (simp only [Int.toNat_natCast, upF_2] at *; omega)) ?_
    refine w_throw rfl (by first | omega | (simp only [Int.toNat_natCast, upF_2] at *; omega)) (Nat.le_of_ble_eq_true rfl) ?_
    exact ⟨rfl, rfl⟩
theorem T_find1 (hI : IW b m0 tm nc ns ρ of H A c g na cs ad qs oc dt da cn bl E fa ms lo Y) (z1 : ρ.1 42 = 1) {n : Nat} {x : Int} (x1 : -2147483648 ≤ x) (x2 : x ≤ 2147483647) (hn : n < 256) (hk : ρ.2 32 0 n = 2) : ∃ e : Nat, (e : Int) = ρ.2 37 0 n ∧ e ≤ 256 ∧ Wp b L xs 8 mi_104 0 (ent (mL mi_104) [.ref (A 0), vI 1, vI n, vI x]) [] H (fun h' o => o = .inl (some (vI (fnd2 (fun k => ρ.2 40 n k = x) (fun k => ρ.2 41 n k) 0 e))) ∧ h' = H) := by
  have hq := T_q hI
  have hfe := T_fe hI
  have hI0 := hI
  obtain ⟨hH, hZ, hga, hgo, hSI, hTr, hTF, hAU, hHI, hRI, hRQ⟩ := hI
  obtain ⟨oV, oT, oN, oR, oDs, hQI, v0, v1, v2, v3, v4, vT, vw0, vw1, nNb, nDb⟩ := hSI
  have fz := T_f1 (L := L) (xs := xs) hI0 z1 (n := n) (w := 0) (by decide) (by decide) hn 7 (by decide)
  have fz : Wp b L xs 7 mi_96 0 (ent (mL mi_96) [.ref (A 7), vI n, vI 0]) [] H (Rt H (vI (ρ.2 32 0 n))) := fz
  rw [hk] at fz
  obtain ⟨y1, y2, y3⟩ := hRQ.2.2.2.2.2.2.2 z1
  obtain ⟨e, e1, e2, wo⟩ := V_ren (L := L) (xs := xs) hq 7 (by decide) hQI y1 y2 y3 hHI.2.2.2.2.2.2.1 hHI.2.2.2.2.1 hfe hI0.2.2.2.2.2.2.2.2.2.1.2.1 x1 x2 hn hk
  refine ⟨e, e1, e2, ?_⟩
  refine w_aload_n rfl rfl ?_
  refine w_iload_n rfl rfl ?_
  refine w_cvV rfl (by decide) (by first | omega | (simp only [Int.toNat_natCast, upF_2] at *; omega)) rfl (VH_at hH oV (by decide) (by decide) (by decide)) mt_93 (Nat.le_of_ble_eq_true rfl) (Nat.le_of_ble_eq_true rfl) (T_v1 hI0 _) ?_
  refine w_astore rfl (by decide) ?_
  refine w_aload rfl rfl ?_
  refine w_ca4 rfl (by first | omega | (simp only [Int.toNat_natCast, upF_2] at *; omega)) rfl (VH_at hH hQI.1 (by decide) (by decide) (by decide)) mt_94 (Nat.le_of_ble_eq_true rfl) (Nat.le_of_ble_eq_true rfl) (T_t1 hI0 _) ?_
  rintro _ _ ⟨rfl, rfl⟩
  refine ⟨some _, rfl, ?_⟩
  refine w_ifne_t rfl (by omega) (by omega) (by first | omega | (simp only [Int.toNat_natCast, upF_2] at *; omega)) ?_
  refine w_aload rfl rfl ?_
  refine w_iload_n rfl rfl ?_
  refine w_iconst rfl ?_
  refine w_ca4 rfl (by first | omega | (simp only [Int.toNat_natCast, upF_2] at *; omega)) rfl (VH_at hH hQI.1 (by decide) (by decide) (by decide)) mt_96 (Nat.le_of_ble_eq_true rfl) (Nat.le_of_ble_eq_true rfl) fz ?_
  rintro _ _ ⟨rfl, rfl⟩
  refine ⟨some _, rfl, ?_⟩
  refine w_iconst rfl ?_
  refine w_iceq_t rfl (by omega) (by omega) (by omega) (by omega) (by first | omega | (simp only [Int.toNat_natCast, upF_2] at *; omega)) ?_
  refine w_aload rfl rfl ?_
  refine w_iload_n rfl rfl ?_
  refine w_iload_n rfl rfl ?_
  refine w_ca4 rfl (by first | omega | (simp only [Int.toNat_natCast, upF_2] at *; omega)) rfl (VH_at hH hQI.1 (by decide) (by decide) (by decide)) mt_105 (Nat.le_of_ble_eq_true rfl) (Nat.le_of_ble_eq_true rfl) wo ?_
  rintro _ _ ⟨rfl, rfl⟩
  refine ⟨some _, rfl, ?_⟩
  refine w_ireturn rfl rfl ?_
  exact ⟨rfl, rfl⟩
end Tr2
section Jq
variable {L : Nat} {xs : Nat → Int32} {b m0 A0 tm nc ns : Nat} {ρ : RS} {of : Nat → Value} {H : AH}
theorem J_count (hI : Iv b m0 A0 tm nc ns ρ of H) (hb : b < m0) {w : Int} (w1 : -2147483648 ≤ w) (w2 : w ≤ 2147483647) : JV b m0 A0 tm nc ns L xs H mi_107 mi_144 [.ref A0, vI w, .ref (m0 + 1160)] [.ref m0, vI w] := by
  obtain ⟨A, c, g, na, cs, ad, qs, oc, dt, da, cn, bl, E, fa, ms, lo, Y, rfl, hI⟩ := hI
  obtain ⟨fs, ho⟩ := IW_ob hI
  have hX := IW_X hI
  have hI0 := hI
  obtain ⟨hH, hZ, hga, hgo, hSI, hTr, hTF, hAU, hHI, hRI, hRQ⟩ := hI
  obtain ⟨oV, oT, oN, oR, oDs, hQI, v0, v1x, v2x, v3, v4, vT, vw0, vw1, nNb, nDb⟩ := hSI
  obtain ⟨rg, hEn, r16, rE, c8a, c8b, c9a, c9b, r27a, r27b, r28a, r28b, r29a, r29b, t7a, t7b, z46, z47, sp30, sp31, z42⟩ := hRI
  by_cases h1 : 0 ≤ w ∧ w ≤ 7
  · exact J_okV hI0 (hV_count 9 (by decide) ho (T_count hI0 h1.1 h1.2) (fun h' hh => by rw [hh]; exact hX)) (fun h => r_count hb rg 9 (by decide) c8a c8b c9a (by have : 0 ≤ pts (ρ.1 9) (ρ.1 8 - 1) := Int.ediv_nonneg (by omega) (by omega); omega) h1.1 h1.2)
  · exact J_errV hI0 (k := 1) (by decide) (by decide) (hE_count_0 9 (by decide) ho (T_count_1 hI0 w1 w2 (by omega))) (fun h => r_count_1 hb rg 9 (by decide) w1 w2 (by omega))
theorem J_node (hI : Iv b m0 A0 tm nc ns ρ of H) (hb : b < m0) {r n w : Int} (n1 : -2147483648 ≤ n) (n2 : n ≤ 2147483647) (w1 : -2147483648 ≤ w) (w2 : w ≤ 2147483647) (hr : r = 0 ∨ r = 1) : JV b m0 A0 tm nc ns L xs H mi_91 mi_141 [.ref A0, vI r, vI n, vI w, .ref (m0 + 1160)] [.ref m0, vI r, vI n, vI w] := by
  obtain ⟨A, c, g, na, cs, ad, qs, oc, dt, da, cn, bl, E, fa, ms, lo, Y, rfl, hI⟩ := hI
  obtain ⟨fs, ho⟩ := IW_ob hI
  have hX := IW_X hI
  have hI0 := hI
  obtain ⟨hH, hZ, hga, hgo, hSI, hTr, hTF, hAU, hHI, hRI, hRQ⟩ := hI
  obtain ⟨oV, oT, oN, oR, oDs, hQI, v0, v1x, v2x, v3, v4, vT, vw0, vw1, nNb, nDb⟩ := hSI
  obtain ⟨rg, hEn, r16, rE, c8a, c8b, c9a, c9b, r27a, r27b, r28a, r28b, r29a, r29b, t7a, t7b, z46, z47, sp30, sp31, z42⟩ := hRI
  by_cases h1 : 0 ≤ w ∧ w ≤ 5
  rotate_left
  · exact J_errV hI0 (k := 1) (by decide) (by decide) (hE_node_0 9 (by decide) ho (T_node_1 hI0 w1 w2 (by omega))) (fun h => r_node_1 hb rg 9 (by decide) hr n1 n2 w1 w2 z42 (by omega))
  rcases hr with rfl | rfl
  · by_cases h2 : 0 ≤ n ∧ n < 256
    · obtain ⟨n, rfl⟩ : ∃ m : Nat, n = m := ⟨n.toNat, by omega⟩
      exact J_okV hI0 (hV_node 9 (by decide) ho (T_node0 hI0 h1.1 h1.2 (by omega)) (fun h' hh => by rw [hh]; exact hX)) (fun h => r_node0 hb rg 9 (by decide) h1.1 h1.2 (by omega))
    · exact J_errV hI0 (k := 3) (by decide) (by decide) (hE_node_2 9 (by decide) ho (T_node_30 hI0 n1 n2 h1.1 h1.2 (by omega))) (fun h => r_node_3 hb rg 9 (by decide) (Or.inl rfl) n1 n2 w1 w2 z42 h1.1 h1.2 (Or.inl rfl) (by omega))
  · rcases z42 with z0 | z1
    · exact J_errV hI0 (k := 2) (by decide) (by decide) (hE_node_1 9 (by decide) ho (T_node_2 hI0 z0 h1.1 h1.2)) (fun h => r_node_2 hb rg 9 (by decide) (Or.inr rfl) n1 n2 w1 w2 (Or.inl z0) h1.1 h1.2 rfl z0)
    · by_cases h2 : 0 ≤ n ∧ n < 256
      · obtain ⟨n, rfl⟩ : ∃ m : Nat, n = m := ⟨n.toNat, by omega⟩
        exact J_okV hI0 (hV_node 9 (by decide) ho (T_node1 hI0 z1 h1.1 h1.2 (by omega)) (fun h' hh => by rw [hh]; exact hX)) (fun h => r_node1 hb rg 9 (by decide) h1.1 h1.2 (by omega) z1)
      · exact J_errV hI0 (k := 3) (by decide) (by decide) (hE_node_2 9 (by decide) ho (T_node_31 hI0 z1 n1 n2 h1.1 h1.2 (by omega))) (fun h => r_node_3 hb rg 9 (by decide) (Or.inr rfl) n1 n2 w1 w2 (Or.inr z1) h1.1 h1.2 (Or.inr z1) (by omega))
theorem J_octet (hI : Iv b m0 A0 tm nc ns ρ of H) (hb : b < m0) {r n x : Int} (n1 : -2147483648 ≤ n) (n2 : n ≤ 2147483647) (x1 : -2147483648 ≤ x) (x2 : x ≤ 2147483647) (hr : r = 0 ∨ r = 1) : JV b m0 A0 tm nc ns L xs H mi_98 mi_142 [.ref A0, vI r, vI n, vI x, .ref (m0 + 1160)] [.ref m0, vI r, vI n, vI x] := by
  obtain ⟨A, c, g, na, cs, ad, qs, oc, dt, da, cn, bl, E, fa, ms, lo, Y, rfl, hI⟩ := hI
  obtain ⟨fs, ho⟩ := IW_ob hI
  have hX := IW_X hI
  have hI0 := hI
  obtain ⟨hH, hZ, hga, hgo, hSI, hTr, hTF, hAU, hHI, hRI, hRQ⟩ := hI
  obtain ⟨oV, oT, oN, oR, oDs, hQI, v0, v1x, v2x, v3, v4, vT, vw0, vw1, nNb, nDb⟩ := hSI
  obtain ⟨rg, hEn, r16, rE, c8a, c8b, c9a, c9b, r27a, r27b, r28a, r28b, r29a, r29b, t7a, t7b, z46, z47, sp30, sp31, z42⟩ := hRI
  rcases hr with rfl | rfl
  · by_cases h2 : 0 ≤ n ∧ n < 256 ∧ ρ.2 1 0 n.toNat = 1
    · obtain ⟨n, rfl⟩ : ∃ m : Nat, n = m := ⟨n.toNat, by omega⟩
      rw [Int.toNat_natCast] at h2
      have tn := hTr.2.1 n (by omega)
      by_cases h3 : x < 0 ∨ ρ.2 4 0 n ≤ x
      · exact J_errV hI0 (k := 3) (by decide) (by decide) (hE_octet_2 9 (by decide) ho (T_oct0_3 hI0 x1 x2 (by omega) h2.2.2 h3)) (fun h => r_oct0_3 hb rg 9 (by decide) x1 x2 (by omega) h2.2.2 h3)
      · obtain ⟨x, rfl⟩ : ∃ m : Nat, x = m := ⟨x.toNat, by omega⟩
        exact J_okV hI0 (hV_octet 9 (by decide) ho (T_oct0 hI0 (by omega) h2.2.2 (by omega)) (fun h' hh => by rw [hh]; exact hX)) (fun h => r_oct0 hb rg 9 (by decide) (by omega) h2.2.2 (by omega) (by omega))
    · exact J_errV hI0 (k := 2) (by decide) (by decide) (hE_octet_0 9 (by decide) ho (T_oct0_2 hI0 n1 n2 h2)) (fun h => r_oct0_2 hb rg 9 (by decide) n1 n2 x1 x2 h2)
  · rcases z42 with z0 | z1
    · exact J_errV hI0 (k := 1) (by decide) (by decide) (hE_octet_1 9 (by decide) ho (T_oct_1 hI0 z0)) (fun h => r_oct_1 hb rg 9 (by decide) (Or.inr rfl) n1 n2 x1 x2 (Or.inl z0) rfl z0)
    · by_cases h2 : 0 ≤ n ∧ n < 256 ∧ ρ.2 32 0 n.toNat = 1
      · obtain ⟨n, rfl⟩ : ∃ m : Nat, n = m := ⟨n.toNat, by omega⟩
        rw [Int.toNat_natCast] at h2
        by_cases h3 : x < 0 ∨ ρ.2 35 0 n ≤ x
        · exact J_errV hI0 (k := 3) (by decide) (by decide) (hE_octet_2 9 (by decide) ho (T_oct1_3 hI0 z1 x1 x2 (by omega) h2.2.2 h3)) (fun h => r_oct1_3 hb rg 9 (by decide) x1 x2 z1 (by omega) h2.2.2 h3)
        · obtain ⟨x, rfl⟩ : ∃ m : Nat, x = m := ⟨x.toNat, by omega⟩
          have x5 : ρ.2 35 0 n ≤ 512 := by
            obtain ⟨y1, y2, y3⟩ := hRQ.2.2.2.2.2.2.2 z1
            have y4 := (y2 n (by omega)).2
            cases hy : (Y n).1 with
            | none =>
              rw [hy] at y4
              have y4 : ρ.2 32 0 n = 0 := y4
              omega
            | some q =>
              rw [hy] at y4
              have hf := T_fe hI0
              have rr := (nd_read hHI.2.2.2.2.2.2.1 hHI.2.2.2.2.1 hf (y3 n (by omega) q hy)).1
              rw [y4.2.2.2.1]
              exact rr.2.2.2.2.2.2.2.2.1
          exact J_okV hI0 (hV_octet 9 (by decide) ho (T_oct1 hI0 z1 (by omega) h2.2.2 (by omega)) (fun h' hh => by rw [hh]; exact hX)) (fun h => r_oct1 hb rg 9 (by decide) z1 (by omega) h2.2.2 (by omega) (by omega))
      · exact J_errV hI0 (k := 2) (by decide) (by decide) (hE_octet_0 9 (by decide) ho (T_oct1_2 hI0 z1 n1 n2 h2)) (fun h => r_oct1_2 hb rg 9 (by decide) n1 n2 x1 x2 z1 h2)
theorem J_find (hI : Iv b m0 A0 tm nc ns ρ of H) (hb : b < m0) {r n x : Int} (n1 : -2147483648 ≤ n) (n2 : n ≤ 2147483647) (x1 : -2147483648 ≤ x) (x2 : x ≤ 2147483647) (hr : r = 0 ∨ r = 1) : JV b m0 A0 tm nc ns L xs H mi_103 mi_143 [.ref A0, vI r, vI n, vI x, .ref (m0 + 1160)] [.ref m0, vI r, vI n, vI x] := by
  obtain ⟨A, c, g, na, cs, ad, qs, oc, dt, da, cn, bl, E, fa, ms, lo, Y, rfl, hI⟩ := hI
  obtain ⟨fs, ho⟩ := IW_ob hI
  have hX := IW_X hI
  have hI0 := hI
  obtain ⟨hH, hZ, hga, hgo, hSI, hTr, hTF, hAU, hHI, hRI, hRQ⟩ := hI
  obtain ⟨oV, oT, oN, oR, oDs, hQI, v0, v1x, v2x, v3, v4, vT, vw0, vw1, nNb, nDb⟩ := hSI
  obtain ⟨rg, hEn, r16, rE, c8a, c8b, c9a, c9b, r27a, r27b, r28a, r28b, r29a, r29b, t7a, t7b, z46, z47, sp30, sp31, z42⟩ := hRI
  rcases hr with rfl | rfl
  · by_cases h2 : 0 ≤ n ∧ n < 256 ∧ ρ.2 1 0 n.toNat = 2
    · obtain ⟨n, rfl⟩ : ∃ m : Nat, n = m := ⟨n.toNat, by omega⟩
      rw [Int.toNat_natCast] at h2
      exact J_okV hI0 (hV_find 9 (by decide) ho (T_find0 hI0 x1 x2 (by omega) h2.2.2) (fun h' hh => by rw [hh]; exact hX)) (fun h => r_find0 hb rg 9 (by decide) x1 x2 (by omega) h2.2.2)
    · exact J_errV hI0 (k := 2) (by decide) (by decide) (hE_find_0 9 (by decide) ho (T_find0_2 hI0 n1 n2 h2)) (fun h => r_find0_2 hb rg 9 (by decide) n1 n2 x1 x2 h2)
  · rcases z42 with z0 | z1
    · exact J_errV hI0 (k := 1) (by decide) (by decide) (hE_find_1 9 (by decide) ho (T_find_1 hI0 z0)) (fun h => r_find_1 hb rg 9 (by decide) (Or.inr rfl) n1 n2 x1 x2 (Or.inl z0) rfl z0)
    · by_cases h2 : 0 ≤ n ∧ n < 256 ∧ ρ.2 32 0 n.toNat = 2
      · obtain ⟨n, rfl⟩ : ∃ m : Nat, n = m := ⟨n.toNat, by omega⟩
        rw [Int.toNat_natCast] at h2
        obtain ⟨e, e1, e2, wf⟩ := T_find1 (L := L) (xs := xs) hI0 z1 x1 x2 (n := n) (by omega) h2.2.2
        exact J_okV hI0 (hV_find 9 (by decide) ho (wf) (fun h' hh => by rw [hh]; exact hX)) (fun h => r_find1 hb rg 9 (by decide) x1 x2 z1 (by omega) h2.2.2 e1 e2)
      · exact J_errV hI0 (k := 2) (by decide) (by decide) (hE_find_0 9 (by decide) ho (T_find1_2 hI0 z1 n1 n2 h2)) (fun h => r_find1_2 hb rg 9 (by decide) n1 n2 x1 x2 z1 h2)
end Jq
