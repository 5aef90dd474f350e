/-! remove -/
section Trm
variable {L : Nat} {xs : Nat → Int32} {b m0 tm nc ns : Nat} {ρ : RS} {of : Nat → Value} {H : AH} {A : Nat → Nat} {c : CS} {g : Nat → Option AO} {na : Nat → Option Nat} {cs ad : Nat → Nat → Nat} {qs : Nat → Nat} {oc : Nat → Option Nat} {dt : Nat → Nat → Int} {da cn : Nat → Nat} {bl : Nat → Nat → Int} {E : Nat} {fa ms lo : Nat → Int} {Y : YS}
theorem w_n0 (hI : IW b m0 tm nc ns ρ of H A c g na cs ad qs oc dt da cn bl E fa ms lo Y) {p : Int} (p1 : -2147483648 ≤ p) (p2 : p ≤ 2147483647) (hc : ¬ (0 ≤ p ∧ p < 256 ∧ ρ.2 1 0 p.toNat ≠ 0)) (d : Nat) (hd : 1 ≤ d) : Wp b L xs d mi_17 0 (ent (mL mi_17) [.ref (A 1), vI p]) [] H (Rt H .null) := by
  have hI0 := hI
  obtain ⟨hH, hZ, hga, hgo, hSI, hTr, hTF, hAU, hHI, hRI, hRQ⟩ := hI
  obtain ⟨oV, oT, oN, oR, oDs, hQI, v0, v1, v2, v3, v4, vT, vw0, vw1, nNb, nDb⟩ := hSI
  rcases V_nodeZ (L := L) (xs := xs) hH hTr.1 d hd p1 p2 with ⟨n, a, rfl, hn, hN, w0⟩ | ⟨hn, w0⟩
  · exact absurd ⟨by omega, by omega, by rw [Int.toNat_natCast]; exact hN.2.2.2.1⟩ hc
  · exact w0
theorem w_n1 (hI : IW b m0 tm nc ns ρ of H A c g na cs ad qs oc dt da cn bl E fa ms lo Y) {n : Nat} (hn : n < 256) (hk : ρ.2 1 0 n ≠ 0) (d : Nat) (hd : 1 ≤ d) : ∃ a, NdIs c ρ na n a ∧ Wp b L xs d mi_17 0 (ent (mL mi_17) [.ref (A 1), vI n]) [] H (Rt H (.ref a)) := by
  have hI0 := hI
  obtain ⟨hH, hZ, hga, hgo, hSI, hTr, hTF, hAU, hHI, hRI, hRQ⟩ := hI
  obtain ⟨oV, oT, oN, oR, oDs, hQI, v0, v1, v2, v3, v4, vT, vw0, vw1, nNb, nDb⟩ := hSI
  rcases V_nodeZ (L := L) (xs := xs) hH hTr.1 d hd (p := (n : Int)) (by omega) (by omega) with ⟨m, a, e, hm, hN, w0⟩ | ⟨hz, w0⟩
  · obtain rfl : n = m := by omega
    exact ⟨a, hN, w0⟩
  · exact absurd ⟨by omega, by omega, by rw [Int.toNat_natCast]; exact hk⟩ hz
theorem w_r1 (hI : IW b m0 tm nc ns ρ of H A c g na cs ad qs oc dt da cn bl E fa ms lo Y) {a : Nat} (hN : NdIs c ρ na 0 a) (d : Nat) : Wp b L xs d mi_34 0 (ent (mL mi_34) [.ref a]) [] H (Rt H (vI 1)) := by
  have hI0 := hI
  obtain ⟨hH, hZ, hga, hgo, hSI, hTr, hTF, hAU, hHI, hRI, hRQ⟩ := hI
  obtain ⟨oV, oT, oN, oR, oDs, hQI, v0, v1, v2, v3, v4, vT, vw0, vw1, nNb, nDb⟩ := hSI
  have f2 := hN.2.2.2.2.2.2.1
  rw [if_pos rfl] at f2
  exact VH_lift hH (fun h0 c' ho hv => k_root1 d (ho _ _ hN.2.2.1) (by rw [hv _ _ _ (by decide) (by decide) (by decide)]; exact f2))
theorem w_r0 (hI : IW b m0 tm nc ns ρ of H A c g na cs ad qs oc dt da cn bl E fa ms lo Y) {n a : Nat} (hn : n < 256) (hn1 : 1 ≤ n) (hN : NdIs c ρ na n a) (d : Nat) : ∃ hp, na (ρ.2 2 0 n).toNat = some hp ∧ c.2.1 12 n 2 = .ref hp ∧ c.1 hp = some (12, (ρ.2 2 0 n).toNat) ∧ Wp b L xs d mi_34 0 (ent (mL mi_34) [.ref a]) [] H (Rt H (vI 0)) := by
  have hI0 := hI
  obtain ⟨hH, hZ, hga, hgo, hSI, hTr, hTF, hAU, hHI, hRI, hRQ⟩ := hI
  obtain ⟨oV, oT, oN, oR, oDs, hQI, v0, v1, v2, v3, v4, vT, vw0, vw1, nNb, nDb⟩ := hSI
  have tn := hTr.2.1 n hn
  have f2 := hN.2.2.2.2.2.2.1
  rw [if_neg (by omega)] at f2
  have pk := hTr.2.2.2.1 n hn (by omega) hN.2.2.2.1
  obtain ⟨hp, hpN⟩ := na_ne hTr (show (ρ.2 2 0 n).toNat < 256 by omega) (by rw [pk]; decide)
  rw [hpN.1] at f2
  exact ⟨hp, hpN.1, f2, hpN.2.2.1, VH_lift hH (fun h0 c' ho hv => k_root0 d (ho _ _ hN.2.2.1) (by rw [hv _ _ _ (by decide) (by decide) (by decide)]; exact f2))⟩
/-- where a node stands in its directory's chain -/
theorem ch_at (hI : IW b m0 tm nc ns ρ of H A c g na cs ad qs oc dt da cn bl E fa ms lo Y) {n a : Nat} (hn : n < 256) (hn1 : 1 ≤ n) (hN : NdIs c ρ na n a) : ∃ p0 t : Nat, ρ.2 2 0 n = p0 ∧ p0 < 256 ∧ ρ.2 1 0 p0 = 2 ∧ t < qs p0 ∧ cs p0 t = n ∧ ad p0 t = a ∧ ∀ j, j < t → ad p0 j ≠ a := by
  have hI0 := hI
  obtain ⟨hH, hZ, hga, hgo, hSI, hTr, hTF, hAU, hHI, hRI, hRQ⟩ := hI
  obtain ⟨oV, oT, oN, oR, oDs, hQI, v0, v1, v2, v3, v4, vT, vw0, vw1, nNb, nDb⟩ := hSI
  have tn := hTr.2.1 n hn
  have pk := hTr.2.2.2.1 n hn (by omega) hN.2.2.2.1
  obtain ⟨p0, hp0⟩ : ∃ p0 : Nat, ρ.2 2 0 n = p0 := ⟨(ρ.2 2 0 n).toNat, by omega⟩
  rw [hp0, Int.toNat_natCast] at pk
  have dir := hTr.2.2.2.2.1 p0 (by omega) (by rw [pk]; decide)
  obtain ⟨t, ht, hte⟩ := dir.1.2.2.1 n hn1 hn hN.2.2.2.1 hp0
  have na1 := dir.2.2.2 t ht
  rw [← hte, hN.1] at na1
  refine ⟨p0, t, hp0, by omega, pk, ht, hte.symm, by cases na1; rfl, fun j hj z => ?_⟩
  have o1 := (dir.2.2.1.2 j (by omega)).1
  rw [z, hN.2.2.1] at o1
  cases o1
  have := Kids_inj dir.1 j t (by omega) ht hte
  omega
theorem T_rem_1 (hI : IW b m0 tm nc ns ρ of H A c g na cs ad qs oc dt da cn bl E fa ms lo Y) {p : Int} (p1 : -2147483648 ≤ p) (p2 : p ≤ 2147483647) (hc : ¬ (1 ≤ p ∧ p < 256 ∧ ρ.2 1 0 p.toNat ≠ 0)) : Wp b L xs 8 mi_40 0 (ent (mL mi_40) [.ref (A 0), vI p]) [] H (fun h' o => h' = hskip H 6 ∧ o = .inr 0) := by
  by_cases q : p = 0
  · subst q
    have k0 : ρ.2 1 0 0 = 2 := hI.2.2.2.2.2.1.2.2.1.1
    obtain ⟨a, hN, w0⟩ := w_n1 (L := L) (xs := xs) hI (n := 0) (by decide) (by rw [k0]; decide) 7 (by decide)
    have w0 : Wp b L xs 7 mi_17 0 (ent (mL mi_17) [.ref (A 1), vI 0]) [] H (Rt H (.ref a)) := w0
    have wr := w_r1 (L := L) (xs := xs) hI hN 7
    have oX := hN.2.2.1
    have hI0 := hI
    obtain ⟨hH, hZ, hga, hgo, hSI, hTr, hTF, hAU, hHI, hRI, hRQ⟩ := hI
    obtain ⟨oV, oT, oN, oR, oDs, hQI, v0, v1, v2, v3, v4, vT, vw0, vw1, nNb, nDb⟩ := hSI
    refine w_aload_n rfl rfl ?_
    refine w_getfield rfl (VH_at hH oV (by decide) (by decide) (by decide)) rfl ?_
    rw [v0]
    refine w_iload_n rfl rfl ?_
    refine w_cvV rfl (by decide) (by first | omega | (simp only [Int.toNat_natCast, upF_2] at *; omega)) rfl (VH_at hH oT (by decide) (by decide) (by decide)) mt_17 (Nat.le_of_ble_eq_true rfl) (Nat.le_of_ble_eq_true rfl) w0 ?_
    refine w_astore_n rfl (by decide) ?_
    refine w_aload_n rfl rfl ?_
    refine w_ifnull_r rfl ?_
    refine w_aload_n rfl rfl ?_
    refine w_cvV rfl (by decide) (by first | omega | (simp only [Int.toNat_natCast, upF_2] at *; omega)) rfl (VH_at hH oX (by decide) (by decide) (by decide)) mt_34 (Nat.le_of_ble_eq_true rfl) (Nat.le_of_ble_eq_true rfl) wr ?_
    refine w_ifeq_f rfl (by omega) (by omega) (by first | omega | (simp only [Int.toNat_natCast, upF_2] at *; omega)) ?_
    refine w_throw rfl (by first | omega | (simp only [Int.toNat_natCast, upF_2] at *; omega)) (Nat.le_of_ble_eq_true rfl) ?_
    exact ⟨rfl, rfl⟩
  · have w0 := w_n0 (L := L) (xs := xs) hI p1 p2 (fun z => hc ⟨by omega, z.2⟩) 7 (by decide)
    have hI0 := hI
    obtain ⟨hH, hZ, hga, hgo, hSI, hTr, hTF, hAU, hHI, hRI, hRQ⟩ := hI
    obtain ⟨oV, oT, oN, oR, oDs, hQI, v0, v1, v2, v3, v4, vT, vw0, vw1, nNb, nDb⟩ := hSI
    refine w_aload_n rfl rfl ?_
    refine w_getfield rfl (VH_at hH oV (by decide) (by decide) (by decide)) rfl ?_
    rw [v0]
    refine w_iload_n rfl rfl ?_
    refine w_cvV rfl (by decide) (by first | omega | (simp only [Int.toNat_natCast, upF_2] at *; omega)) rfl (VH_at hH oT (by decide) (by decide) (by decide)) mt_17 (Nat.le_of_ble_eq_true rfl) (Nat.le_of_ble_eq_true rfl) w0 ?_
    refine w_astore_nQ (x := none) rfl (by decide) ?_
    refine w_aload_nQ (x := none) rfl rfl ?_
    refine w_ifnull_n rfl ?_
    refine w_throw rfl (by decide) (Nat.le_of_ble_eq_true rfl) ?_
    exact ⟨rfl, rfl⟩
theorem T_rem_2 (hI : IW b m0 tm nc ns ρ of H A c g na cs ad qs oc dt da cn bl E fa ms lo Y) {n : Nat} (hn : n < 256) (hn1 : 1 ≤ n) (hk : ρ.2 1 0 n ≠ 0) (hk2 : ρ.2 1 0 n = 2) (he : 0 < rEnt ρ n) : Wp b L xs 8 mi_40 0 (ent (mL mi_40) [.ref (A 0), vI n]) [] H (fun h' o => h' = hskip H 6 ∧ o = .inr 1) := by
  obtain ⟨a, hN, w0⟩ := w_n1 (L := L) (xs := xs) hI hn hk 7 (by decide)
  obtain ⟨hp, hpa, f2, oP, wr⟩ := w_r0 (L := L) (xs := xs) hI hn hn1 hN 7
  have hI0 := hI
  obtain ⟨hH, hZ, hga, hgo, hSI, hTr, hTF, hAU, hHI, hRI, hRQ⟩ := hI
  obtain ⟨oV, oT, oN, oR, oDs, hQI, v0, v1, v2, v3, v4, vT, vw0, vw1, nNb, nDb⟩ := hSI
  have oX := hN.2.2.1
  have tn := hTr.2.1 n hn
  have f1 := hN.2.2.2.2.2.1
  have f4 := hN.2.2.2.2.2.2.2.2.1
  have ee : rEnt ρ n ≤ 255 := cnt_le _ _ _
  have sz : szv ρ n = rEnt ρ n := by unfold szv; rw [if_neg (by omega)]
  rw [sz] at f4
  refine w_aload_n rfl rfl ?_
  refine w_getfield rfl (VH_at hH oV (by decide) (by decide) (by decide)) rfl ?_
  rw [v0]
  refine w_iload_n rfl rfl ?_
  refine w_cvV rfl (by decide) (by first | omega | (simp only [Int.toNat_natCast, upF_2] at *; omega)) rfl (VH_at hH oT (by decide) (by decide) (by decide)) mt_17 (Nat.le_of_ble_eq_true rfl) (Nat.le_of_ble_eq_true rfl) w0 ?_
  refine w_astore_n rfl (by decide) ?_
  refine w_aload_n rfl rfl ?_
  refine w_ifnull_r rfl ?_
  refine w_aload_n rfl rfl ?_
  refine w_cvV rfl (by decide) (by first | omega | (simp only [Int.toNat_natCast, upF_2] at *; omega)) rfl (VH_at hH oX (by decide) (by decide) (by decide)) mt_34 (Nat.le_of_ble_eq_true rfl) (Nat.le_of_ble_eq_true rfl) wr ?_
  refine w_ifeq_t rfl (by omega) (by omega) (by first | omega | (simp only [Int.toNat_natCast, upF_2] at *; omega)) ?_
  refine w_aload_n rfl rfl ?_
  refine w_getfield rfl (VH_at hH oX (by decide) (by decide) (by decide)) rfl ?_
  rw [f1]
  refine w_iconst rfl ?_
  refine w_icne_f rfl (by omega) (by omega) (by omega) (by omega) (by first | omega | (simp only [Int.toNat_natCast, upF_2] at *; omega)) ?_
  refine w_aload_n rfl rfl ?_
  refine w_getfield rfl (VH_at hH oX (by decide) (by decide) (by decide)) rfl ?_
  rw [f4]
  refine w_ifle_f rfl (by omega) (by omega) (by first | omega | (simp only [Int.toNat_natCast, upF_2] at *; omega)) ?_
  refine w_throw rfl (by first | omega | (simp only [Int.toNat_natCast, upF_2] at *; omega)) (Nat.le_of_ble_eq_true rfl) ?_
  exact ⟨rfl, rfl⟩
theorem T_rem (hI : IW b m0 tm nc ns ρ of H A c g na cs ad qs oc dt da cn bl E fa ms lo Y) {n p0 t a : Nat} (hn : n < 256) (hn1 : 1 ≤ n) (hN : NdIs c ρ na n a) (hp0 : ρ.2 2 0 n = p0) (hp02 : p0 < 256) (hpk : ρ.2 1 0 p0 = 2) (ht : t < qs p0) (hc : cs p0 t = n) (hta : ad p0 t = a) (hne : ∀ j, j < t → ad p0 j ≠ a) (hq : ρ.2 1 0 n = 2 → rEnt ρ n = 0) : Wp b L xs 8 mi_40 0 (ent (mL mi_40) [.ref (A 0), vI n]) [] H (fun h' o => o = .inl none ∧ VH b (A 3) (Zr b m0) g (dpP (drC c n p0 t (cs p0) (va_rf (ptr (ad p0) (t + 1) (qs p0))) (rEnt ρ p0) (ρ.1 7) (cnt (fun n => ρ.2 1 0 n ≠ 0) 0 256)) (dpN n)) nc ns (ρ.1 8).toNat (ρ.1 9).toNat bl (ρ.2 30 0) (ρ.2 31 0) h') := by
  obtain ⟨a', hN', w0⟩ := w_n1 (L := L) (xs := xs) hI hn hN.2.2.2.1 7 (by decide)
  obtain rfl : a' = a := by
    have := hN'.1
    rw [hN.1] at this
    cases this
    rfl
  obtain ⟨hp, hpa, f2, oP, wr⟩ := w_r0 (L := L) (xs := xs) hI hn hn1 hN 7
  have hk := hN.2.2.2.1
  have hI0 := hI
  obtain ⟨hH, hZ, hga, hgo, hSI, hTr, hTF, hAU, hHI, hRI, hRQ⟩ := hI
  obtain ⟨oV, oT, oN, oR, oDs, hQI, v0, v1, v2, v3, v4, vT, vw0, vw1, nNb, nDb⟩ := hSI
  have oX := hN.2.2.1
  have tn := hTr.2.1 n hn
  have f1 := hN.2.2.2.2.2.1
  have f4 := hN.2.2.2.2.2.2.2.2.1
  have ee : rEnt ρ n ≤ 255 := cnt_le _ _ _
  rw [hp0, Int.toNat_natCast] at oP
  have hnp : n ≠ p0 := fun z => self_no hTr.2.1 hAU hn1 hn hk (by rw [hp0, z])
  have dir := hTr.2.2.2.2.1 p0 hp02 (by rw [hpk]; decide)
  obtain ⟨xp, hxp⟩ := na_ne hTr hp02 (by rw [hpk]; decide)
  have g4 : c.2.1 12 p0 4 = vI (rEnt ρ p0) := by
    rw [hxp.2.2.2.2.2.2.2.2.1]
    unfold szv
    rw [hpk, if_neg (by decide)]
  have wd := V_drop (L := L) (xs := xs) hH 7 (by decide) oX oP dir.2.2.1 ht hta hne g4 hc f2 oT vT oN hTr.1.2.2.2.2.1 hTr.1.2.2.2.1 hn hN.2.2.2.2.1 hnp
  have fin : ∀ h', VH b (A 3) (Zr b m0) g (drC c n p0 t (cs p0) (va_rf (ptr (ad p0) (t + 1) (qs p0))) (rEnt ρ p0) (ρ.1 7) (cnt (fun n => ρ.2 1 0 n ≠ 0) 0 256)) nc ns (ρ.1 8).toNat (ρ.1 9).toNat bl (ρ.2 30 0) (ρ.2 31 0) h' → VH b (A 3) (Zr b m0) g (dpP (drC c n p0 t (cs p0) (va_rf (ptr (ad p0) (t + 1) (qs p0))) (rEnt ρ p0) (ρ.1 7) (cnt (fun n => ρ.2 1 0 n ≠ 0) 0 256)) (dpN n)) nc ns (ρ.1 8).toNat (ρ.1 9).toNat bl (ρ.2 30 0) (ρ.2 31 0) h' := fun h' hh => VH_drop hh (fun x q hx => hZ x q (by rw [drC_1] at hx; exact hx)) (dpN n) (dpN_f (Or.inr (by decide)))
  rcases (show ρ.2 1 0 n = 1 ∨ ρ.2 1 0 n = 2 by omega) with kk | kk
  · refine w_aload_n rfl rfl ?_
    refine w_getfield rfl (VH_at hH oV (by decide) (by decide) (by decide)) rfl ?_
    rw [v0]
    refine w_iload_n rfl rfl ?_
    refine w_cvV rfl (by decide) (by first | omega | (simp only [Int.toNat_natCast, upF_2] at *; omega)) rfl (VH_at hH oT (by decide) (by decide) (by decide)) mt_17 (Nat.le_of_ble_eq_true rfl) (Nat.le_of_ble_eq_true rfl) w0 ?_
    refine w_astore_n rfl (by decide) ?_
    refine w_aload_n rfl rfl ?_
    refine w_ifnull_r rfl ?_
    refine w_aload_n rfl rfl ?_
    refine w_cvV rfl (by decide) (by first | omega | (simp only [Int.toNat_natCast, upF_2] at *; omega)) rfl (VH_at hH oX (by decide) (by decide) (by decide)) mt_34 (Nat.le_of_ble_eq_true rfl) (Nat.le_of_ble_eq_true rfl) wr ?_
    refine w_ifeq_t rfl (by omega) (by omega) (by first | omega | (simp only [Int.toNat_natCast, upF_2] at *; omega)) ?_
    refine w_aload_n rfl rfl ?_
    refine w_getfield rfl (VH_at hH oX (by decide) (by decide) (by decide)) rfl ?_
    rw [f1]
    refine w_iconst rfl ?_
    refine w_icne_t rfl (by omega) (by omega) (by omega) (by omega) (by first | omega | (simp only [Int.toNat_natCast, upF_2] at *; omega)) ?_
    refine w_aload_n rfl rfl ?_
    refine w_getfield rfl (VH_at hH oV (by decide) (by decide) (by decide)) rfl ?_
    rw [v0]
    refine w_aload_n rfl rfl ?_
    refine w_cv rfl (by decide) (by first | omega | (simp only [Int.toNat_natCast, upF_2] at *; omega)) rfl (VH_at hH oT (by decide) (by decide) (by decide)) mt_41 (Nat.le_of_ble_eq_true rfl) (Nat.le_of_ble_eq_true rfl) wd ?_
    rintro _ _ ⟨rfl, eH, hH⟩
    refine ⟨none, rfl, ?_⟩
    refine w_return rfl rfl ?_
    exact ⟨rfl, fin _ hH⟩
  · have sz : szv ρ n = rEnt ρ n := by unfold szv; rw [if_neg (by omega)]
    rw [sz, hq kk] at f4
    refine w_aload_n rfl rfl ?_
    refine w_getfield rfl (VH_at hH oV (by decide) (by decide) (by decide)) rfl ?_
    rw [v0]
    refine w_iload_n rfl rfl ?_
    refine w_cvV rfl (by decide) (by first | omega | (simp only [Int.toNat_natCast, upF_2] at *; omega)) rfl (VH_at hH oT (by decide) (by decide) (by decide)) mt_17 (Nat.le_of_ble_eq_true rfl) (Nat.le_of_ble_eq_true rfl) w0 ?_
    refine w_astore_n rfl (by decide) ?_
    refine w_aload_n rfl rfl ?_
    refine w_ifnull_r rfl ?_
    refine w_aload_n rfl rfl ?_
    refine w_cvV rfl (by decide) (by first | omega | (simp only [Int.toNat_natCast, upF_2] at *; omega)) rfl (VH_at hH oX (by decide) (by decide) (by decide)) mt_34 (Nat.le_of_ble_eq_true rfl) (Nat.le_of_ble_eq_true rfl) wr ?_
    refine w_ifeq_t rfl (by omega) (by omega) (by first | omega | (simp only [Int.toNat_natCast, upF_2] at *; omega)) ?_
    refine w_aload_n rfl rfl ?_
    refine w_getfield rfl (VH_at hH oX (by decide) (by decide) (by decide)) rfl ?_
    rw [f1]
    refine w_iconst rfl ?_
    refine w_icne_f rfl (by omega) (by omega) (by omega) (by omega) (by first | omega | (simp only [Int.toNat_natCast, upF_2] at *; omega)) ?_
    refine w_aload_n rfl rfl ?_
    refine w_getfield rfl (VH_at hH oX (by decide) (by decide) (by decide)) rfl ?_
    rw [f4]
    refine w_ifle_t rfl (by omega) (by omega) (by first | omega | (simp only [Int.toNat_natCast, upF_2] at *; omega)) ?_
    refine w_aload_n rfl rfl ?_
    refine w_getfield rfl (VH_at hH oV (by decide) (by decide) (by decide)) rfl ?_
    rw [v0]
    refine w_aload_n rfl rfl ?_
    refine w_cv rfl (by decide) (by first | omega | (simp only [Int.toNat_natCast, upF_2] at *; omega)) rfl (VH_at hH oT (by decide) (by decide) (by decide)) mt_41 (Nat.le_of_ble_eq_true rfl) (Nat.le_of_ble_eq_true rfl) wd ?_
    rintro _ _ ⟨rfl, eH, hH⟩
    refine ⟨none, rfl, ?_⟩
    refine w_return rfl rfl ?_
    exact ⟨rfl, fin _ hH⟩
end Trm
theorem rRm_g {ρ : RS} (hg : Rg ρ) {n : Nat} (t0 : 0 ≤ ρ.1 7) (t1 : ρ.1 7 ≤ 100000) : Rg (rRem ρ n) := by
  unfold rRem
  exact (((hg.upF 0 (by omega) (by omega)).upA 1 0 n (by omega) (by omega)).upF 7 (by omega) (by omega)).upA 5 0 _ (by omega) (by omega)
section Jr
variable {L : Nat} {xs : Nat → Int32} {b m0 A0 tm nc ns : Nat} {ρ : RS} {of : Nat → Value} {H : AH}
theorem J_rem (hI : Iv b m0 A0 tm nc ns ρ of H) (hb : b < m0) (htm : tm ≤ 1000) {p : Int} (p1 : -2147483648 ≤ p) (p2 : p ≤ 2147483647) : JN b m0 A0 tm nc ns L xs H mi_39 mi_120 [.ref A0, vI p] [.ref m0, vI p] := by
  obtain ⟨A, c, g, na, cs, ad, qs, oc, dt, da, cn, bl, E, fa, ms, lo, Y, rfl, hI⟩ := hI
  obtain ⟨fs, ho⟩ := IW_ob hI
  have hI0 := hI
  obtain ⟨hH, hZ, hga, hgo, hSI, hTr, hTF, hAU, hHI, hRI, hRQ⟩ := hI
  obtain ⟨oV, oT, oN, oR, oDs, hQI, v0, v1x, v2x, v3, v4, vT, vw0, vw1, nNb, nDb⟩ := hSI
  obtain ⟨rg, hEn, r16, rE, c8a, c8b, c9a, c9b, r27a, r27b, r28a, r28b, r29a, r29b, t7a, t7b, z46, z47, sp30, sp31, z42⟩ := hRI
  by_cases h1 : 1 ≤ p ∧ p < 256 ∧ ρ.2 1 0 p.toNat ≠ 0
  rotate_left
  · exact J_errN hI0 (k := 1) (by decide) (by decide) (hE_remove_0 9 (by decide) ho (T_rem_1 hI0 p1 p2 h1)) (fun h => r_rem_1 hb rg 9 (by decide) p1 p2 h1)
  obtain ⟨n, rfl⟩ : ∃ n : Nat, p = n := ⟨p.toNat, by omega⟩
  have hn : n < 256 := by omega
  have hn1 : 1 ≤ n := by omega
  have h1b := h1
  obtain ⟨-, -, hk⟩ := h1
  rw [Int.toNat_natCast] at hk
  have tn := hTr.2.1 n hn
  by_cases h2 : ρ.2 1 0 n = 2 ∧ 0 < rEnt ρ n
  · exact J_errN hI0 (k := 2) (by decide) (by decide) (hE_remove_1 9 (by decide) ho (T_rem_2 hI0 hn hn1 hk h2.1 h2.2)) (fun h => r_rem_2 hb rg 9 (by decide) p1 p2 h1b (by rw [Int.toNat_natCast]; exact h2.1) h2.2)
  have hq : ρ.2 1 0 n = 2 → rEnt ρ n = 0 := fun z => by
    rcases Nat.eq_zero_or_pos (rEnt ρ n) with y | y
    · exact y
    · exact absurd ⟨z, y⟩ h2
  obtain ⟨a, hN⟩ := na_ne hTr hn hk
  obtain ⟨p0, t, hp0, hp02, hpk, ht, hc, hta, hne⟩ := ch_at hI0 hn hn1 hN
  have dn := hTr.2.2.2.2.1 n hn hk
  have qn : qs n = 0 := by
    rcases (show ρ.2 1 0 n = 1 ∨ ρ.2 1 0 n = 2 by omega) with z | z
    · exact Tr_q0 hTr hn z
    · have e1 := hq z
      have e2 := dn.2.1
      omega
  have tr := Tr_rem hTr hAU hTF hn1 hn hk hp0 ht hc qn t7a (by omega)
  have hZd : CZ (Zr b m0) (drC c n p0 t (cs p0) (va_rf (ptr (ad p0) (t + 1) (qs p0))) (rEnt ρ p0) (ρ.1 7) (cnt (fun n => ρ.2 1 0 n ≠ 0) 0 256)) := fun x q hx => hZ x q (by rw [drC_1] at hx; exact hx)
  refine J_treeN hI0 (c' := dpP (drC c n p0 t (cs p0) (va_rf (ptr (ad p0) (t + 1) (qs p0))) (rEnt ρ p0) (ρ.1 7) (cnt (fun n => ρ.2 1 0 n ≠ 0) 0 256)) (dpN n)) (ρ' := rRem ρ n) (nc' := nc) (ns' := ns) (by omega) (by omega) (fun x q hx => hZd x q (dpP_i hx).1) (fun x k i k1 k2 hx => dpP_o (by rw [drC_1]; exact hx) (dpN_f (Or.inr ⟨k1, k2⟩))) (fun x e hx => by have := (dpP_i hx).1; rw [drC_1] at this; exact this) (fun k i f k1 k2 k3 k4 => drC_k k1 (by omega) (by omega)) (drC_k (by decide) (by decide) (by omega)) (fun j r i hj => rRm_o ρ n r i (by omega) (by omega)) (fun i i1 i2 => by rw [rRm_F, if_neg i2, if_neg i1]) (rRm_g rg t7a (by omega)) (by rw [rRm_F, if_pos rfl]) (by rw [rRm_F, if_neg (by decide), if_pos rfl]) tr.1 tr.2.2 tr.2.1 (hN_remove 9 (by decide) ho (T_rem hI0 hn hn1 hN hp0 hp02 hpk ht hc hta hne hq)) (fun h => ?_)
  have := r_rem (L := L) (xs := xs) (h := h) hb rg 9 (by decide) p1 p2 h1b (by rw [Int.toNat_natCast]; exact hq) (by rw [Int.toNat_natCast]; omega) (by rw [Int.toNat_natCast]; omega)
  rw [Int.toNat_natCast] at this
  exact this
end Jr
