/-! move -/
section Tmv
variable {L : Nat} {xs : Nat → Int32} {b m0 tm nc ns : Nat} {ρ : RS} {of : Nat → Value} {H : AH} {A : Nat → Nat} {c : CS} {g : Nat → Option AO} {na : Nat → Option Nat} {cs ad : Nat → Nat → Nat} {qs : Nat → Nat} {oc : Nat → Option Nat} {dt : Nat → Nat → Int} {da cn : Nat → Nat} {bl : Nat → Nat → Int} {E : Nat} {fa ms lo : Nat → Int} {Y : YS}
theorem w_d0 (hI : IW b m0 tm nc ns ρ of H A c g na cs ad qs oc dt da cn bl E fa ms lo Y) {p : Int} (p1 : -2147483648 ≤ p) (p2 : p ≤ 2147483647) (hc : ¬ (0 ≤ p ∧ p < 256 ∧ ρ.2 1 0 p.toNat = 2)) (d : Nat) (hd : 2 ≤ d) : Wp b L xs d mi_16 0 (ent (mL mi_16) [.ref (A 1), vI p]) [] H (Rt H .null) := by
  have hI0 := hI
  obtain ⟨hH, hZ, hga, hgo, hSI, hTr, hTF, hAU, hHI, hRI, hRQ⟩ := hI
  obtain ⟨oV, oT, oN, oR, oDs, hQI, v0, v1, v2, v3, v4, vT, vw0, vw1, nNb, nDb⟩ := hSI
  rcases V_dir (L := L) (xs := xs) hH hTr.1 hTr.2.1 d hd p1 p2 with ⟨n, a, rfl, hn, hk, hN, w0⟩ | ⟨hn, w0⟩
  · exact absurd ⟨by omega, by omega, by rw [Int.toNat_natCast]; exact hk⟩ hc
  · exact w0
theorem w_d1 (hI : IW b m0 tm nc ns ρ of H A c g na cs ad qs oc dt da cn bl E fa ms lo Y) {n : Nat} (hn : n < 256) (hk : ρ.2 1 0 n = 2) (d : Nat) (hd : 2 ≤ d) : ∃ a, NdIs c ρ na n a ∧ Wp b L xs d mi_16 0 (ent (mL mi_16) [.ref (A 1), vI n]) [] H (Rt H (.ref a)) := by
  have hI0 := hI
  obtain ⟨hH, hZ, hga, hgo, hSI, hTr, hTF, hAU, hHI, hRI, hRQ⟩ := hI
  obtain ⟨oV, oT, oN, oR, oDs, hQI, v0, v1, v2, v3, v4, vT, vw0, vw1, nNb, nDb⟩ := hSI
  rcases V_dir (L := L) (xs := xs) hH hTr.1 hTr.2.1 d hd (p := (n : Int)) (by omega) (by omega) with ⟨m, a, e, hm, hk, hN, w0⟩ | ⟨hz, w0⟩
  · obtain rfl : n = m := by omega
    exact ⟨a, hN, w0⟩
  · exact absurd ⟨by omega, by omega, by rw [Int.toNat_natCast]; exact hk⟩ hz
theorem T_move_1 (hI : IW b m0 tm nc ns ρ of H A c g na cs ad qs oc dt da cn bl E fa ms lo Y) {n p w : Int} (n1 : -2147483648 ≤ n) (n2 : n ≤ 2147483647) (p1 : -2147483648 ≤ p) (p2 : p ≤ 2147483647) (w1 : -2147483648 ≤ w) (w2 : w ≤ 2147483647) (hc : ¬ (1 ≤ n ∧ n < 256 ∧ ρ.2 1 0 n.toNat ≠ 0) ∨ ¬ (0 ≤ p ∧ p < 256 ∧ ρ.2 1 0 p.toNat = 2) ∨ ¬ (1 ≤ w ∧ w ≤ 30000)) : Wp b L xs 8 mi_33 0 (ent (mL mi_33) [.ref (A 0), vI n, vI p, vI w]) [] H (fun h' o => h' = hskip H 6 ∧ o = .inr 0) := by
  have dd : (∃ a m, c.1 a = some (12, m) ∧ Wp b L xs 7 mi_16 0 (ent (mL mi_16) [.ref (A 1), vI p]) [] H (Rt H (.ref a))) ∨ Wp b L xs 7 mi_16 0 (ent (mL mi_16) [.ref (A 1), vI p]) [] H (Rt H .null) := by
    by_cases z : 0 ≤ p ∧ p < 256 ∧ ρ.2 1 0 p.toNat = 2
    · obtain ⟨m, rfl⟩ : ∃ m : Nat, p = m := ⟨p.toNat, by omega⟩
      obtain ⟨a, hN, w0⟩ := w_d1 (L := L) (xs := xs) hI (n := m) (by omega) (by rw [Int.toNat_natCast] at z; exact z.2.2) 7 (by decide)
      exact Or.inl ⟨a, m, hN.2.2.1, w0⟩
    · exact Or.inr (w_d0 hI p1 p2 z 7 (by decide))
  by_cases q1 : 0 ≤ n ∧ n < 256 ∧ ρ.2 1 0 n.toNat ≠ 0
  rotate_left
  · have wn := w_n0 (L := L) (xs := xs) hI n1 n2 q1 7 (by decide)
    have hI0 := hI
    obtain ⟨hH, hZ, hga, hgo, hSI, hTr, hTF, hAU, hHI, hRI, hRQ⟩ := hI
    obtain ⟨oV, oT, oN, oR, oDs, hQI, v0, v1, v2, v3, v4, vT, vw0, vw1, nNb, nDb⟩ := hSI
    rcases dd with ⟨a, m, oD, wd⟩ | wd
    · refine w_aload_n rfl rfl ?_
      refine w_getfield rfl (VH_at hH oV (by decide) (by decide) (by decide)) rfl ?_
      rw [v0]
      refine w_iload_n rfl rfl ?_
      refine w_cvV rfl (by decide) (by first | omega | (simp only [Int.toNat_natCast, upF_2] at *; omega)) rfl (VH_at hH oT (by decide) (by decide) (by decide)) mt_17 (Nat.le_of_ble_eq_true rfl) (Nat.le_of_ble_eq_true rfl) wn ?_
      refine w_astoreQ (x := none) rfl (by decide) ?_
      refine w_aload_n rfl rfl ?_
      refine w_getfield rfl (VH_at hH oV (by decide) (by decide) (by decide)) rfl ?_
      rw [v0]
      refine w_iload_n rfl rfl ?_
      refine w_cvV rfl (by decide) (by first | omega | (simp only [Int.toNat_natCast, upF_2] at *; omega)) rfl (VH_at hH oT (by decide) (by decide) (by decide)) mt_16 (Nat.le_of_ble_eq_true rfl) (Nat.le_of_ble_eq_true rfl) wd ?_
      refine w_astore rfl (by decide) ?_
      refine w_aloadQ (x := none) rfl rfl ?_
      refine w_ifnull_n rfl ?_
      refine w_throw rfl (by decide) (Nat.le_of_ble_eq_true rfl) ?_
      exact ⟨rfl, rfl⟩
    · refine w_aload_n rfl rfl ?_
      refine w_getfield rfl (VH_at hH oV (by decide) (by decide) (by decide)) rfl ?_
      rw [v0]
      refine w_iload_n rfl rfl ?_
      refine w_cvV rfl (by decide) (by first | omega | (simp only [Int.toNat_natCast, upF_2] at *; omega)) rfl (VH_at hH oT (by decide) (by decide) (by decide)) mt_17 (Nat.le_of_ble_eq_true rfl) (Nat.le_of_ble_eq_true rfl) wn ?_
      refine w_astoreQ (x := none) rfl (by decide) ?_
      refine w_aload_n rfl rfl ?_
      refine w_getfield rfl (VH_at hH oV (by decide) (by decide) (by decide)) rfl ?_
      rw [v0]
      refine w_iload_n rfl rfl ?_
      refine w_cvV rfl (by decide) (by first | omega | (simp only [Int.toNat_natCast, upF_2] at *; omega)) rfl (VH_at hH oT (by decide) (by decide) (by decide)) mt_16 (Nat.le_of_ble_eq_true rfl) (Nat.le_of_ble_eq_true rfl) wd ?_
      refine w_astoreQ (x := none) rfl (by decide) ?_
      refine w_aloadQ (x := none) rfl rfl ?_
      refine w_ifnull_n rfl ?_
      refine w_throw rfl (by decide) (Nat.le_of_ble_eq_true rfl) ?_
      exact ⟨rfl, rfl⟩
  obtain ⟨n, rfl⟩ : ∃ m : Nat, n = m := ⟨n.toNat, by omega⟩
  have hn : n < 256 := by omega
  have hk : ρ.2 1 0 n ≠ 0 := by rw [Int.toNat_natCast] at q1; exact q1.2.2
  obtain ⟨a, hN, wn⟩ := w_n1 (L := L) (xs := xs) hI hn hk 7 (by decide)
  have oX := hN.2.2.1
  by_cases q2 : n = 0
  · subst q2
    have wr := w_r1 (L := L) (xs := xs) hI hN 7
    have hI0 := hI
    obtain ⟨hH, hZ, hga, hgo, hSI, hTr, hTF, hAU, hHI, hRI, hRQ⟩ := hI
    obtain ⟨oV, oT, oN, oR, oDs, hQI, v0, v1, v2, v3, v4, vT, vw0, vw1, nNb, nDb⟩ := hSI
    rcases dd with ⟨a', m, oD, wd⟩ | wd
    · refine w_aload_n rfl rfl ?_
      refine w_getfield rfl (VH_at hH oV (by decide) (by decide) (by decide)) rfl ?_
      rw [v0]
      refine w_iload_n rfl rfl ?_
      refine w_cvV rfl (by decide) (by first | omega | (simp only [Int.toNat_natCast, upF_2] at *; omega)) rfl (VH_at hH oT (by decide) (by decide) (by decide)) mt_17 (Nat.le_of_ble_eq_true rfl) (Nat.le_of_ble_eq_true rfl) wn ?_
      refine w_astore rfl (by decide) ?_
      refine w_aload_n rfl rfl ?_
      refine w_getfield rfl (VH_at hH oV (by decide) (by decide) (by decide)) rfl ?_
      rw [v0]
      refine w_iload_n rfl rfl ?_
      refine w_cvV rfl (by decide) (by first | omega | (simp only [Int.toNat_natCast, upF_2] at *; omega)) rfl (VH_at hH oT (by decide) (by decide) (by decide)) mt_16 (Nat.le_of_ble_eq_true rfl) (Nat.le_of_ble_eq_true rfl) wd ?_
      refine w_astore rfl (by decide) ?_
      refine w_aload rfl rfl ?_
      refine w_ifnull_r rfl ?_
      refine w_aload rfl rfl ?_
      refine w_cvV rfl (by decide) (by first | omega | (simp only [Int.toNat_natCast, upF_2] at *; omega)) rfl (VH_at hH oX (by decide) (by decide) (by decide)) mt_34 (Nat.le_of_ble_eq_true rfl) (Nat.le_of_ble_eq_true rfl) wr ?_
      refine w_ifne_t rfl (by omega) (by omega) (by first | omega | (simp only [Int.toNat_natCast, upF_2] at *; omega)) ?_
      refine w_throw rfl (by first | omega | (simp only [Int.toNat_natCast, upF_2] at *; omega)) (Nat.le_of_ble_eq_true rfl) ?_
      exact ⟨rfl, rfl⟩
    · refine w_aload_n rfl rfl ?_
      refine w_getfield rfl (VH_at hH oV (by decide) (by decide) (by decide)) rfl ?_
      rw [v0]
      refine w_iload_n rfl rfl ?_
      refine w_cvV rfl (by decide) (by first | omega | (simp only [Int.toNat_natCast, upF_2] at *; omega)) rfl (VH_at hH oT (by decide) (by decide) (by decide)) mt_17 (Nat.le_of_ble_eq_true rfl) (Nat.le_of_ble_eq_true rfl) wn ?_
      refine w_astore rfl (by decide) ?_
      refine w_aload_n rfl rfl ?_
      refine w_getfield rfl (VH_at hH oV (by decide) (by decide) (by decide)) rfl ?_
      rw [v0]
      refine w_iload_n rfl rfl ?_
      refine w_cvV rfl (by decide) (by first | omega | (simp only [Int.toNat_natCast, upF_2] at *; omega)) rfl (VH_at hH oT (by decide) (by decide) (by decide)) mt_16 (Nat.le_of_ble_eq_true rfl) (Nat.le_of_ble_eq_true rfl) wd ?_
      refine w_astoreQ (x := none) rfl (by decide) ?_
      refine w_aload rfl rfl ?_
      refine w_ifnull_r rfl ?_
      refine w_aload rfl rfl ?_
      refine w_cvV rfl (by decide) (by first | omega | (simp only [Int.toNat_natCast, upF_2] at *; omega)) rfl (VH_at hH oX (by decide) (by decide) (by decide)) mt_34 (Nat.le_of_ble_eq_true rfl) (Nat.le_of_ble_eq_true rfl) wr ?_
      refine w_ifne_t rfl (by omega) (by omega) (by first | omega | (simp only [Int.toNat_natCast, upF_2] at *; omega)) ?_
      refine w_throw rfl (by first | omega | (simp only [Int.toNat_natCast, upF_2] at *; omega)) (Nat.le_of_ble_eq_true rfl) ?_
      exact ⟨rfl, rfl⟩
  obtain ⟨hp, hpa, f2, oP, wr⟩ := w_r0 (L := L) (xs := xs) hI hn (by omega) hN 7
  by_cases q3 : 0 ≤ p ∧ p < 256 ∧ ρ.2 1 0 p.toNat = 2
  rotate_left
  · have wd := w_d0 (L := L) (xs := xs) hI p1 p2 q3 7 (by decide)
    have hI0 := hI
    obtain ⟨hH, hZ, hga, hgo, hSI, hTr, hTF, hAU, hHI, hRI, hRQ⟩ := hI
    obtain ⟨oV, oT, oN, oR, oDs, hQI, v0, v1, v2, v3, v4, vT, vw0, vw1, nNb, nDb⟩ := hSI
    refine w_aload_n rfl rfl ?_
    refine w_getfield rfl (VH_at hH oV (by decide) (by decide) (by decide)) rfl ?_
    rw [v0]
    refine w_iload_n rfl rfl ?_
    refine w_cvV rfl (by decide) (by first | omega | (simp only [Int.toNat_natCast, upF_2] at *; omega)) rfl (VH_at hH oT (by decide) (by decide) (by decide)) mt_17 (Nat.le_of_ble_eq_true rfl) (Nat.le_of_ble_eq_true rfl) wn ?_
    refine w_astore rfl (by decide) ?_
    refine w_aload_n rfl rfl ?_
    refine w_getfield rfl (VH_at hH oV (by decide) (by decide) (by decide)) rfl ?_
    rw [v0]
    refine w_iload_n rfl rfl ?_
    refine w_cvV rfl (by decide) (by first | omega | (simp only [Int.toNat_natCast, upF_2] at *; omega)) rfl (VH_at hH oT (by decide) (by decide) (by decide)) mt_16 (Nat.le_of_ble_eq_true rfl) (Nat.le_of_ble_eq_true rfl) wd ?_
    refine w_astoreQ (x := none) rfl (by decide) ?_
    refine w_aload rfl rfl ?_
    refine w_ifnull_r rfl ?_
    refine w_aload rfl rfl ?_
    refine w_cvV rfl (by decide) (by first | omega | (simp only [Int.toNat_natCast, upF_2] at *; omega)) rfl (VH_at hH oX (by decide) (by decide) (by decide)) mt_34 (Nat.le_of_ble_eq_true rfl) (Nat.le_of_ble_eq_true rfl) wr ?_
    refine w_ifne_f rfl (by omega) (by omega) (by first | omega | (simp only [Int.toNat_natCast, upF_2] at *; omega)) ?_
    refine w_aloadQ (x := none) rfl rfl ?_
    refine w_ifnull_n rfl ?_
    refine w_throw rfl (by decide) (Nat.le_of_ble_eq_true rfl) ?_
    exact ⟨rfl, rfl⟩
  have q4 : ¬ (1 ≤ w ∧ w ≤ 30000) := by
    rcases hc with z | z | z
    · exact absurd ⟨by omega, by omega, by rw [Int.toNat_natCast]; exact hk⟩ z
    · exact absurd q3 z
    · exact z
  obtain ⟨m, rfl⟩ : ∃ m : Nat, p = m := ⟨p.toNat, by omega⟩
  obtain ⟨a', hN', wd⟩ := w_d1 (L := L) (xs := xs) hI (n := m) (by omega) (by rw [Int.toNat_natCast] at q3; exact q3.2.2) 7 (by decide)
  have oD := hN'.2.2.1
  have hI0 := hI
  obtain ⟨hH, hZ, hga, hgo, hSI, hTr, hTF, hAU, hHI, hRI, hRQ⟩ := hI
  obtain ⟨oV, oT, oN, oR, oDs, hQI, v0, v1, v2, v3, v4, vT, vw0, vw1, nNb, nDb⟩ := hSI
  refine w_aload_n rfl rfl ?_
  refine w_getfield rfl (VH_at hH oV (by decide) (by decide) (by decide)) rfl ?_
  rw [v0]
  refine w_iload_n rfl rfl ?_
  refine w_cvV rfl (by decide) (by first | omega | (simp only [Int.toNat_natCast, upF_2] at *; omega)) rfl (VH_at hH oT (by decide) (by decide) (by decide)) mt_17 (Nat.le_of_ble_eq_true rfl) (Nat.le_of_ble_eq_true rfl) wn ?_
  refine w_astore rfl (by decide) ?_
  refine w_aload_n rfl rfl ?_
  refine w_getfield rfl (VH_at hH oV (by decide) (by decide) (by decide)) rfl ?_
  rw [v0]
  refine w_iload_n rfl rfl ?_
  refine w_cvV rfl (by decide) (by first | omega | (simp only [Int.toNat_natCast, upF_2] at *; omega)) rfl (VH_at hH oT (by decide) (by decide) (by decide)) mt_16 (Nat.le_of_ble_eq_true rfl) (Nat.le_of_ble_eq_true rfl) wd ?_
  refine w_astore rfl (by decide) ?_
  refine w_aload rfl rfl ?_
  refine w_ifnull_r rfl ?_
  refine w_aload rfl rfl ?_
  refine w_cvV rfl (by decide) (by first | omega | (simp only [Int.toNat_natCast, upF_2] at *; omega)) rfl (VH_at hH oX (by decide) (by decide) (by decide)) mt_34 (Nat.le_of_ble_eq_true rfl) (Nat.le_of_ble_eq_true rfl) wr ?_
  refine w_ifne_f rfl (by omega) (by omega) (by first | omega | (simp only [Int.toNat_natCast, upF_2] at *; omega)) ?_
  refine w_aload rfl rfl ?_
  refine w_ifnull_r rfl ?_
  refine w_iload_n rfl rfl ?_
  refine w_csV rfl (by decide) (by first | omega | (simp only [Int.toNat_natCast, upF_2] at *; omega)) rfl mt_19 (Nat.le_of_ble_eq_true rfl) (Nat.le_of_ble_eq_true rfl) (k_isM0 _ w1 w2 q4) ?_
  refine w_ifne_f rfl (by omega) (by omega) (by first | omega | (simp only [Int.toNat_natCast, upF_2] at *; omega)) ?_
  refine w_throw rfl (by first | omega | (simp only [Int.toNat_natCast, upF_2] at *; omega)) (Nat.le_of_ble_eq_true rfl) ?_
  exact ⟨rfl, rfl⟩
theorem T_move_2 (hI : IW b m0 tm nc ns ρ of H A c g na cs ad qs oc dt da cn bl E fa ms lo Y) {n p a hp : Nat} {w : Int} (hn : n < 256) (hn1 : 1 ≤ n) (hN : NdIs c ρ na n a) (hp2 : p < 256) (hpk : ρ.2 1 0 p = 2) (hNp : NdIs c ρ na p hp) (w1 : 1 ≤ w) (w2 : w ≤ 30000) {t : Nat} (ht : t < qs p) (hte : ρ.2 3 0 (cs p t) = w) (hne : cs p t ≠ n) : Wp b L xs 8 mi_33 0 (ent (mL mi_33) [.ref (A 0), vI n, vI p, vI w]) [] H (fun h' o => h' = hskip H 6 ∧ o = .inr 1) := by
  obtain ⟨a', hN', wn⟩ := w_n1 (L := L) (xs := xs) hI hn hN.2.2.2.1 7 (by decide)
  obtain rfl : a' = a := by
    have := hN'.1
    rw [hN.1] at this
    cases this
    rfl
  obtain ⟨h', hN2, wd⟩ := w_d1 (L := L) (xs := xs) hI hp2 hpk 7 (by decide)
  obtain rfl : h' = hp := by
    have := hN2.1
    rw [hNp.1] at this
    cases this
    rfl
  obtain ⟨hp0, hpa, f2, oP, wr⟩ := w_r0 (L := L) (xs := xs) hI hn hn1 hN 7
  have oX := hN.2.2.1
  have oD := hNp.2.2.1
  have hI0 := hI
  obtain ⟨hH, hZ, hga, hgo, hSI, hTr, hTF, hAU, hHI, hRI, hRQ⟩ := hI
  obtain ⟨oV, oT, oN, oR, oDs, hQI, v0, v1, v2, v3, v4, vT, vw0, vw1, nNb, nDb⟩ := hSI
  have dir := hTr.2.2.2.2.1 p hp2 (by rw [hpk]; decide)
  rcases V_child (L := L) (xs := xs) hH 7 oD dir.2.2.1 (w := w) (by omega) (by omega) with ⟨t', h1, h2, h3, wc⟩ | ⟨h1, wc⟩
  rotate_left
  · exact absurd hte (h1 t ht)
  have h2 : ρ.2 3 0 (cs p t') = w := h2
  obtain rfl : t' = t := by
    rcases Nat.lt_trichotomy t' t with z | z | z
    · have := dir.1.2.1 t' t z ht
      omega
    · exact z
    · have := dir.1.2.1 t t' z h1
      omega
  have oC := (dir.2.2.1.2 t' h1).1
  have ane : ad p t' ≠ a' := fun z => by
    rw [z, oX] at oC
    cases oC
    exact hne rfl
  refine w_aload_n rfl rfl ?_
  refine w_getfield rfl (VH_at hH oV (by decide) (by decide) (by decide)) rfl ?_
  rw [v0]
  refine w_iload_n rfl rfl ?_
  refine w_cvV rfl (by decide) (by first | omega | (simp only [Int.toNat_natCast, upF_2] at *; omega)) rfl (VH_at hH oT (by decide) (by decide) (by decide)) mt_17 (Nat.le_of_ble_eq_true rfl) (Nat.le_of_ble_eq_true rfl) wn ?_
  refine w_astore rfl (by decide) ?_
  refine w_aload_n rfl rfl ?_
  refine w_getfield rfl (VH_at hH oV (by decide) (by decide) (by decide)) rfl ?_
  rw [v0]
  refine w_iload_n rfl rfl ?_
  refine w_cvV rfl (by decide) (by first | omega | (simp only [Int.toNat_natCast, upF_2] at *; omega)) rfl (VH_at hH oT (by decide) (by decide) (by decide)) mt_16 (Nat.le_of_ble_eq_true rfl) (Nat.le_of_ble_eq_true rfl) wd ?_
  refine w_astore rfl (by decide) ?_
  refine w_aload rfl rfl ?_
  refine w_ifnull_r rfl ?_
  refine w_aload rfl rfl ?_
  refine w_cvV rfl (by decide) (by first | omega | (simp only [Int.toNat_natCast, upF_2] at *; omega)) rfl (VH_at hH oX (by decide) (by decide) (by decide)) mt_34 (Nat.le_of_ble_eq_true rfl) (Nat.le_of_ble_eq_true rfl) wr ?_
  refine w_ifne_f rfl (by omega) (by omega) (by first | omega | (simp only [Int.toNat_natCast, upF_2] at *; omega)) ?_
  refine w_aload rfl rfl ?_
  refine w_ifnull_r rfl ?_
  refine w_iload_n rfl rfl ?_
  refine w_csV rfl (by decide) (by first | omega | (simp only [Int.toNat_natCast, upF_2] at *; omega)) rfl mt_19 (Nat.le_of_ble_eq_true rfl) (Nat.le_of_ble_eq_true rfl) (k_isM1 _ (by omega) (by omega)) ?_
  refine w_ifne_t rfl (by omega) (by omega) (by first | omega | (simp only [Int.toNat_natCast, upF_2] at *; omega)) ?_
  refine w_aload rfl rfl ?_
  refine w_iload_n rfl rfl ?_
  refine w_cvV rfl (by decide) (by first | omega | (simp only [Int.toNat_natCast, upF_2] at *; omega)) rfl (VH_at hH oD (by decide) (by decide) (by decide)) mt_20 (Nat.le_of_ble_eq_true rfl) (Nat.le_of_ble_eq_true rfl) wc ?_
  refine w_astore rfl (by decide) ?_
  refine w_aload rfl rfl ?_
  refine w_ifnull_r rfl ?_
  refine w_aload rfl rfl ?_
  refine w_aload rfl rfl ?_
  refine w_aceq (x := some (ad p t')) (y := some a') rfl (fun z9 => ?_) (fun z9 => ?_)
  · exact absurd (Option.some.inj z9) ane
    
  · refine w_throw rfl (by first | omega | (simp only [Int.toNat_natCast, upF_2] at *; omega)) (Nat.le_of_ble_eq_true rfl) ?_
    exact ⟨rfl, rfl⟩
end Tmv
