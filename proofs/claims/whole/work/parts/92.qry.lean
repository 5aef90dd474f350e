/-! questions: count, node -/
theorem vol_n {u fi : Nat} (hu : 0 < u) : ((wrO (u + 1) fi : Nat) : Int) = (fi : Int) + pts fi u ∧ pts (wrO (u + 1) fi : Nat) ((u + 1 : Nat) : Int) = pts fi u := by
  have e0 : pts fi u = (((fi + u - 1) / u : Nat) : Int) := by
    unfold pts
    rw [show (fi : Int) + (u : Int) - 1 = ((fi + u - 1 : Nat) : Int) by omega, ← Int.natCast_ediv]
  have h1 : wrO (u + 1) fi = fi + (fi + u - 1) / u := by unfold wrO; rw [Nat.add_sub_cancel]
  refine ⟨by rw [h1, e0]; omega, ?_⟩
  rw [e0]
  unfold pts
  rw [show ((wrO (u + 1) fi : Nat) : Int) + ((u + 1 : Nat) : Int) - 1 = ((wrO (u + 1) fi + u : Nat) : Int) by omega, ← Int.natCast_ediv]
  refine congrArg (fun z : Nat => (z : Int)) ?_
  by_cases hr : fi % u = 0
  · have ew := wrO_0 hu hr
    have e2 : (fi + u - 1) / u = fi / u := by
      have := h1.symm.trans ew
      rw [Nat.mul_succ] at this
      have e3 := fi_q hu hr
      omega
    rw [e2, ew]
    refine Nat.div_eq_of_lt_le (by omega) ?_
    rw [Nat.succ_mul]
    omega
  · have ew := wrO_1 hu hr
    have ep : psB (u + 1) fi = fi / u * (u + 1) + 1 + fi % u := by unfold psB; rw [Nat.add_sub_cancel]
    have hm := Nat.mod_lt fi hu
    have e2 : (fi + u - 1) / u = fi / u + 1 := by
      have h2 := psB_e hu fi
      omega
    rw [e2, ew, ep]
    refine Nat.div_eq_of_lt_le ?_ ?_
    · rw [Nat.succ_mul]
      omega
    · rw [Nat.succ_mul, Nat.succ_mul]
      omega
section Tq
variable {L : Nat} {xs : Nat → Int32} {b m0 tm nc ns : Nat} {ρ : RS} {of : Nat → Value} {H : AH} {A : Nat → Nat} {c : CS} {g : Nat → Option AO} {na : Nat → Option Nat} {cs ad : Nat → Nat → Nat} {qs : Nat → Nat} {oc : Nat → Option Nat} {dt : Nat → Nat → Int} {da cn : Nat → Nat} {bl : Nat → Nat → Int} {E : Nat} {fa ms lo : Nat → Int} {Y : YS}
theorem VH_vf {V0 cap fi : Nat} {Z : Nat → Prop} {sp ls : Nat → Int} (hH : VH b V0 Z g c nc ns cap fi bl sp ls H) : ∃ W0 P0 : Nat, H.2.2 V0 = some (.inr (2, [.ref W0, .ref P0, vI cap, vI (wrO cap fi : Nat), vI fi])) := by
  obtain ⟨wr, W, S, ⟨h, W0, P0, len, rfl, hV, -⟩, hv⟩ := hH
  obtain ⟨hI, oV, oW, oP⟩ := VI_f hV fi W
  refine ⟨W0, P0, ?_⟩
  rw [CH_at oV, ← hv.1]
  rfl
theorem V_vols {V0 cap fi : Nat} {Z : Nat → Prop} {sp ls : Nat → Int} (hH : VH b V0 Z g c nc ns cap fi bl sp ls H) (d : Nat) (hd : 1 ≤ d) : Wp b L xs d mi_109 0 (ent (mL mi_109) [.ref V0]) [] H (Rt H (vI (pts (wrO cap fi : Nat) cap))) := by
  obtain ⟨wr, W, S, ⟨h, W0, P0, len, rfl, hV, -⟩, hv⟩ := hH
  have := k_vols (L := L) (xs := xs) (h := h) (fi := fi) (W := W) d hd hV
  rw [hv.1] at this ⊢
  exact this
theorem T_count_1 (hI : IW b m0 tm nc ns ρ of H A c g na cs ad qs oc dt da cn bl E fa ms lo Y) {w : Int} (w1 : -2147483648 ≤ w) (w2 : w ≤ 2147483647) (hc : w < 0 ∨ 7 < w) : Wp b L xs 8 mi_108 0 (ent (mL mi_108) [.ref (A 0), vI w]) [] H (fun h' o => h' = hskip H 6 ∧ o = .inr 0) := by
  refine w_iload_n rfl rfl ?_
  refine w_tswd rfl (by omega) (by omega) (by omega) ?_
  refine w_throw rfl (by decide) (Nat.le_of_ble_eq_true rfl) ?_
  exact ⟨rfl, rfl⟩
theorem T_count (hI : IW b m0 tm nc ns ρ of H A c g na cs ad qs oc dt da cn bl E fa ms lo Y) {w : Int} (q1 : 0 ≤ w) (q2 : w ≤ 7) : Wp b L xs 8 mi_108 0 (ent (mL mi_108) [.ref (A 0), vI w]) [] H (fun h' o => o = .inl (some (vI (rCount ρ w))) ∧ h' = H) := by
  have hI0 := hI
  obtain ⟨hH, hZ, hga, hgo, hSI, hTr, hTF, hAU, hHI, hRI, hRQ⟩ := hI
  obtain ⟨oV, oT, oN, oR, oDs, hQI, v0, v1, v2, v3, v4, vT, vw0, vw1, nNb, nDb⟩ := hSI
  obtain ⟨rg, hEn, r16, rE, c8a, c8b, c9a, c9b, r27a, r27b, r28a, r28b, r29a, r29b, t7a, t7b, z46, z47, sp30, sp31, z42⟩ := hRI
  obtain ⟨oQ, -⟩ := hQI
  obtain ⟨u, hu⟩ : ∃ u : Nat, ρ.1 8 = ((u + 1 : Nat) : Int) := ⟨(ρ.1 8 - 1).toNat, by omega⟩
  obtain ⟨fi, hfi⟩ : ∃ fi : Nat, ρ.1 9 = fi := ⟨(ρ.1 9).toNat, by omega⟩
  rw [hu, hfi, Int.toNat_natCast, Int.toNat_natCast] at hH
  obtain ⟨W0, P0, hvf⟩ := VH_vf hH
  have vn := vol_n (u := u) (fi := fi) (by omega)
  have e8 : ((u + 1 : Nat) : Int) - 1 = u := by omega
  obtain ⟨q4, q5, q6, q7, -⟩ := hRQ
  have vE := hHI.1
  have vt := hTr.1.2.2.2.2.1
  have vc := hTr.1.2.2.2.1
  unfold rCount
  obtain rfl | rfl | rfl | rfl | rfl | rfl | rfl | rfl : w = 0 ∨ w = 1 ∨ w = 2 ∨ w = 3 ∨ w = 4 ∨ w = 5 ∨ w = 6 ∨ w = 7 := by omega
  · rw [if_pos rfl]
    refine w_iload_n rfl rfl ?_
    refine w_tsw rfl (by omega) (by omega) (by first | omega | (simp only [Int.toNat_natCast, upF_2] at *; omega)) (by first | omega | (simp only [Int.toNat_natCast, upF_2] at *; omega)) rfl ?_
    refine w_aload_n rfl rfl ?_
    refine w_getfield rfl (VH_at hH oV (by decide) (by decide) (by decide)) rfl ?_
    rw [v0]
    refine w_getfield rfl (VH_at hH oT (by decide) (by decide) (by decide)) rfl ?_
    rw [vt]
    refine w_ireturn rfl rfl ?_
    exact ⟨rfl, rfl⟩
  · rw [if_neg (by decide), if_pos rfl]
    refine w_iload_n rfl rfl ?_
    refine w_tsw rfl (by omega) (by omega) (by first | omega | (simp only [Int.toNat_natCast, upF_2] at *; omega)) (by first | omega | (simp only [Int.toNat_natCast, upF_2] at *; omega)) rfl ?_
    refine w_aload_n rfl rfl ?_
    refine w_getfield rfl (VH_at hH oV (by decide) (by decide) (by decide)) rfl ?_
    rw [v0]
    refine w_getfield rfl (VH_at hH oT (by decide) (by decide) (by decide)) rfl ?_
    rw [vc]
    refine w_ireturn rfl rfl ?_
    exact ⟨rfl, rfl⟩
  · rw [if_neg (by decide), if_neg (by decide), if_pos rfl]
    refine w_iload_n rfl rfl ?_
    refine w_tsw rfl (by omega) (by omega) (by first | omega | (simp only [Int.toNat_natCast, upF_2] at *; omega)) (by first | omega | (simp only [Int.toNat_natCast, upF_2] at *; omega)) rfl ?_
    refine w_aload_n rfl rfl ?_
    refine w_getfield rfl (VH_at hH oV (by decide) (by decide) (by decide)) rfl ?_
    rw [vE]
    refine w_ireturn rfl rfl ?_
    exact ⟨by rw [r16], rfl⟩
  · rw [if_neg (by decide), if_neg (by decide), if_neg (by decide), if_pos rfl]
    refine w_iload_n rfl rfl ?_
    refine w_tsw rfl (by omega) (by omega) (by first | omega | (simp only [Int.toNat_natCast, upF_2] at *; omega)) (by first | omega | (simp only [Int.toNat_natCast, upF_2] at *; omega)) rfl ?_
    refine w_aload_n rfl rfl ?_
    refine w_getfield rfl (VH_at hH oV (by decide) (by decide) (by decide)) rfl ?_
    rw [v1]
    refine w_cvV rfl (by decide) (by first | omega | (simp only [Int.toNat_natCast, upF_2] at *; omega)) rfl (VH_ob hH).choose_spec mt_109 (Nat.le_of_ble_eq_true rfl) (Nat.le_of_ble_eq_true rfl) (V_vols hH _ (by decide)) ?_
    refine w_ireturn rfl rfl ?_
    exact ⟨by rw [vn.2, hu, hfi, e8], rfl⟩
  · rw [if_neg (by decide), if_neg (by decide), if_neg (by decide), if_neg (by decide), if_pos rfl]
    refine w_iload_n rfl rfl ?_
    refine w_tsw rfl (by omega) (by omega) (by omega) (by omega) rfl ?_
    refine w_aload_n rfl rfl ?_
    refine w_getfield rfl (VH_at hH oV (by decide) (by decide) (by decide)) rfl ?_
    rw [v1]
    refine w_getfield rfl hvf rfl ?_
    refine w_ireturn rfl rfl ?_
    exact ⟨by rw [vn.1, hu, hfi, e8], rfl⟩
  · rw [if_neg (by decide), if_neg (by decide), if_neg (by decide), if_neg (by decide), if_neg (by decide), if_pos rfl]
    refine w_iload_n rfl rfl ?_
    refine w_tsw rfl (by omega) (by omega) (by first | omega | (simp only [Int.toNat_natCast, upF_2] at *; omega)) (by first | omega | (simp only [Int.toNat_natCast, upF_2] at *; omega)) rfl ?_
    refine w_aload_n rfl rfl ?_
    refine w_getfield rfl (VH_at hH oV (by decide) (by decide) (by decide)) rfl ?_
    rw [v3]
    refine w_getfield rfl (VH_at hH oQ (by decide) (by decide) (by decide)) rfl ?_
    rw [q5]
    refine w_ireturn rfl rfl ?_
    exact ⟨rfl, rfl⟩
  · rw [if_neg (by decide), if_neg (by decide), if_neg (by decide), if_neg (by decide), if_neg (by decide), if_neg (by decide), if_pos rfl]
    refine w_iload_n rfl rfl ?_
    refine w_tsw rfl (by omega) (by omega) (by first | omega | (simp only [Int.toNat_natCast, upF_2] at *; omega)) (by first | omega | (simp only [Int.toNat_natCast, upF_2] at *; omega)) rfl ?_
    refine w_aload_n rfl rfl ?_
    refine w_getfield rfl (VH_at hH oV (by decide) (by decide) (by decide)) rfl ?_
    rw [v3]
    refine w_getfield rfl (VH_at hH oQ (by decide) (by decide) (by decide)) rfl ?_
    rw [q6]
    refine w_ireturn rfl rfl ?_
    exact ⟨rfl, rfl⟩
  · rw [if_neg (by decide), if_neg (by decide), if_neg (by decide), if_neg (by decide), if_neg (by decide), if_neg (by decide), if_neg (by decide)]
    refine w_iload_n rfl rfl ?_
    refine w_tsw rfl (by omega) (by omega) (by first | omega | (simp only [Int.toNat_natCast, upF_2] at *; omega)) (by first | omega | (simp only [Int.toNat_natCast, upF_2] at *; omega)) rfl ?_
    refine w_aload_n rfl rfl ?_
    refine w_getfield rfl (VH_at hH oV (by decide) (by decide) (by decide)) rfl ?_
    rw [v3]
    refine w_getfield rfl (VH_at hH oQ (by decide) (by decide) (by decide)) rfl ?_
    rw [q7]
    refine w_ireturn rfl rfl ?_
    exact ⟨rfl, rfl⟩
theorem T_v0 (hI : IW b m0 tm nc ns ρ of H A c g na cs ad qs oc dt da cn bl E fa ms lo Y) (d : Nat) : Wp b L xs d mi_93 0 (ent (mL mi_93) [.ref (A 0), vI 0]) [] H (Rt H (.ref (A 1))) := by
  have hI0 := hI
  obtain ⟨hH, hZ, hga, hgo, hSI, hTr, hTF, hAU, hHI, hRI, hRQ⟩ := hI
  obtain ⟨oV, oT, oN, oR, oDs, hQI, v0, v1, v2, v3, v4, vT, vw0, vw1, nNb, nDb⟩ := hSI
  refine w_iload_n rfl rfl ?_
  refine w_ifeq_t rfl (by omega) (by omega) (by first | omega | (simp only [Int.toNat_natCast, upF_2] at *; omega)) ?_
  refine w_aload_n rfl rfl ?_
  refine w_getfield rfl (VH_at hH oV (by decide) (by decide) (by decide)) rfl ?_
  rw [v0]
  refine w_areturn rfl rfl ?_
  exact ⟨rfl, rfl⟩
theorem T_v1 (hI : IW b m0 tm nc ns ρ of H A c g na cs ad qs oc dt da cn bl E fa ms lo Y) (d : Nat) : Wp b L xs d mi_93 0 (ent (mL mi_93) [.ref (A 0), vI 1]) [] H (Rt H (.ref (A 7))) := by
  have hI0 := hI
  obtain ⟨hH, hZ, hga, hgo, hSI, hTr, hTF, hAU, hHI, hRI, hRQ⟩ := hI
  obtain ⟨oV, oT, oN, oR, oDs, hQI, v0, v1, v2, v3, v4, vT, vw0, vw1, nNb, nDb⟩ := hSI
  refine w_iload_n rfl rfl ?_
  refine w_ifeq_f rfl (by omega) (by omega) (by first | omega | (simp only [Int.toNat_natCast, upF_2] at *; omega)) ?_
  refine w_aload_n rfl rfl ?_
  refine w_getfield rfl (VH_at hH oV (by decide) (by decide) (by decide)) rfl ?_
  rw [v3]
  refine w_goto rfl ?_
  refine w_areturn rfl rfl ?_
  exact ⟨rfl, rfl⟩
theorem T_t0 (d : Nat) {x : Nat} : Wp b L xs d mi_95 0 (ent (mL mi_95) [.ref x]) [] H (Rt H (vI 1)) := by
  refine w_iconst rfl ?_
  refine w_zreturn rfl rfl (by decide) ?_
  exact ⟨rfl, rfl⟩
theorem T_t1 (hI : IW b m0 tm nc ns ρ of H A c g na cs ad qs oc dt da cn bl E fa ms lo Y) (d : Nat) : Wp b L xs d mi_94 0 (ent (mL mi_94) [.ref (A 7)]) [] H (Rt H (vI (ρ.1 42))) := by
  have hI0 := hI
  obtain ⟨hH, hZ, hga, hgo, hSI, hTr, hTF, hAU, hHI, hRI, hRQ⟩ := hI
  obtain ⟨oV, oT, oN, oR, oDs, hQI, v0, v1, v2, v3, v4, vT, vw0, vw1, nNb, nDb⟩ := hSI
  obtain ⟨rg, hEn, r16, rE, c8a, c8b, c9a, c9b, r27a, r27b, r28a, r28b, r29a, r29b, t7a, t7b, z46, z47, sp30, sp31, z42⟩ := hRI
  obtain ⟨oQ, -⟩ := hQI
  refine w_aload_n rfl rfl ?_
  refine w_getfield rfl (VH_at hH oQ (by decide) (by decide) (by decide)) rfl ?_
  rw [hRQ.1]
  refine w_zreturn rfl rfl z42 ?_
  exact ⟨rfl, rfl⟩
/-- the tree's facts -/
theorem T_f0 (hI : IW b m0 tm nc ns ρ of H A c g na cs ad qs oc dt da cn bl E fa ms lo Y) {n : Nat} {w : Int} (q1 : 0 ≤ w) (q2 : w ≤ 5) (hn : n < 256) (d : Nat) (hd : 2 ≤ d) : Wp b L xs d mi_97 0 (ent (mL mi_97) [.ref (A 1), vI n, vI w]) [] H (Rt H (vI (rNode0 ρ n w))) := by
  have hI0 := hI
  obtain ⟨hH, hZ, hga, hgo, hSI, hTr, hTF, hAU, hHI, hRI, hRQ⟩ := hI
  obtain ⟨oV, oT, oN, oR, oDs, hQI, v0, v1, v2, v3, v4, vT, vw0, vw1, nNb, nDb⟩ := hSI
  obtain ⟨h, W0, P0, len, wr, W, S, rfl, h1, h2⟩ := VH_ch hH
  rcases hTr.1.2.2.2.2.2 n hn with hN | ⟨a, hN⟩
  · have e : rNode0 ρ n w = 0 := by
      unfold rNode0
      rw [hN.2.2]
      split
      · rfl
      · split
        · rfl
        · rw [if_pos rfl]
    rw [e]
    exact k_factN d hd (TP_mk h1 h2 hTr.1) hn hN
  · refine k_factR d hd hTr.2.1 (TP_mk h1 h2 hTr.1) q1 q2 hn (NdIs_mk h1 h2 hN) (fun z => by rw [z]; exact hTr.2.2.1.2.1) (fun z => ?_)
    rw [hTr.2.2.2.1 n hn z hN.2.2.2.1]
    decide
theorem T_f00 (hI : IW b m0 tm nc ns ρ of H A c g na cs ad qs oc dt da cn bl E fa ms lo Y) {n w : Int} (n1 : -2147483648 ≤ n) (n2 : n ≤ 2147483647) (hn : ¬ (0 ≤ n ∧ n < 256)) (d : Nat) (hd : 2 ≤ d) : Wp b L xs d mi_97 0 (ent (mL mi_97) [.ref (A 1), vI n, vI w]) [] H (Rt H (vI 0)) := by
  have hI0 := hI
  obtain ⟨hH, hZ, hga, hgo, hSI, hTr, hTF, hAU, hHI, hRI, hRQ⟩ := hI
  obtain ⟨oV, oT, oN, oR, oDs, hQI, v0, v1, v2, v3, v4, vT, vw0, vw1, nNb, nDb⟩ := hSI
  exact VH_lift hH (fun h0 c' ho hv => k_fact0 d hd (ho _ _ oT) n1 n2 hn)
/-- with what was restored laid open -/
theorem T_q (hI : IW b m0 tm nc ns ρ of H A c g na cs ad qs oc dt da cn bl E fa ms lo Y) : VH b (A 3) (Zr b m0) g (mkQ c (ρ.1 42) (ρ.1 43) (ρ.1 44) (ρ.1 45) fa ms lo) nc ns (ρ.1 8).toNat (ρ.1 9).toNat bl (ρ.2 30 0) (ρ.2 31 0) H := by
  rw [mkQ_eta hI.2.2.2.2.2.2.2.2.2.2]
  exact hI.1
theorem T_fe (hI : IW b m0 tm nc ns ρ of H A c g na cs ad qs oc dt da cn bl E fa ms lo Y) : ∀ e, e < E → ρ.2 13 0 (e + 1) ≤ ((ρ.1 9).toNat : Nat) := fun e he => by
  have hI0 := hI
  obtain ⟨hH, hZ, hga, hgo, hSI, hTr, hTF, hAU, hHI, hRI, hRQ⟩ := hI
  obtain ⟨oV, oT, oN, oR, oDs, hQI, v0, v1, v2, v3, v4, vT, vw0, vw1, nNb, nDb⟩ := hSI
  have := (fb_le hHI.2.2.2.2.1 hHI.2.2.2.2.2.2.2 he).1
  have := hRI.2.2.2.2.2.2.1
  omega
theorem T_f1 (hI : IW b m0 tm nc ns ρ of H A c g na cs ad qs oc dt da cn bl E fa ms lo Y) (z1 : ρ.1 42 = 1) {n : Nat} {w : Int} (q1 : 0 ≤ w) (q2 : w ≤ 5) (hn : n < 256) (d : Nat) (hd : 3 ≤ d) : Wp b L xs d mi_96 0 (ent (mL mi_96) [.ref (A 7), vI n, vI w]) [] H (Rt H (vI (rNode1 ρ n w))) := by
  have hq := T_q hI
  have hf := T_fe hI
  have hI0 := hI
  obtain ⟨hH, hZ, hga, hgo, hSI, hTr, hTF, hAU, hHI, hRI, hRQ⟩ := hI
  obtain ⟨oV, oT, oN, oR, oDs, hQI, v0, v1, v2, v3, v4, vT, vw0, vw1, nNb, nDb⟩ := hSI
  obtain ⟨x1, x2, x3⟩ := hRQ.2.2.2.2.2.2.2 z1
  exact V_fact hq d hd hQI x1 x2 x3 hHI.2.2.2.2.2.2.1 hHI.2.2.2.2.1 hf q1 q2 hn
theorem T_f10 (hI : IW b m0 tm nc ns ρ of H A c g na cs ad qs oc dt da cn bl E fa ms lo Y) {n w : Int} (n1 : -2147483648 ≤ n) (n2 : n ≤ 2147483647) (hn : ¬ (0 ≤ n ∧ n < 256)) (d : Nat) (hd : 1 ≤ d) : Wp b L xs d mi_96 0 (ent (mL mi_96) [.ref (A 7), vI n, vI w]) [] H (Rt H (vI 0)) := V_fact0 (T_q hI) d hd n1 n2 hn
theorem T_node_1 (hI : IW b m0 tm nc ns ρ of H A c g na cs ad qs oc dt da cn bl E fa ms lo Y) {r n w : Int} (w1 : -2147483648 ≤ w) (w2 : w ≤ 2147483647) (hc : w < 0 ∨ 5 < w) : Wp b L xs 8 mi_92 0 (ent (mL mi_92) [.ref (A 0), vI r, vI n, vI w]) [] H (fun h' o => h' = hskip H 6 ∧ o = .inr 0) := by
  by_cases q : w < 0
  · refine w_iload_n rfl rfl ?_
    refine w_iflt_t rfl (by omega) (by omega) (by first | omega | (simp only [Int.toNat_natCast, upF_2] at *; omega)) ?_
    refine w_throw rfl (by first | omega | (simp only [Int.toNat_natCast, upF_2] at *; omega)) (Nat.le_of_ble_eq_true rfl) ?_
    exact ⟨rfl, rfl⟩
  · refine w_iload_n rfl rfl ?_
    refine w_iflt_f rfl (by omega) (by omega) (by first | omega | (simp only [Int.toNat_natCast, upF_2] at *; omega)) ?_
    refine w_iload_n rfl rfl ?_
    refine w_iconst rfl ?_
    refine w_icle_f rfl (by omega) (by omega) (by omega) (by omega) (by first | omega | (simp only [Int.toNat_natCast, upF_2] at *; omega)) ?_
    refine w_throw rfl (by first | omega | (simp only [Int.toNat_natCast, upF_2] at *; omega)) (Nat.le_of_ble_eq_true rfl) ?_
    exact ⟨rfl, rfl⟩
theorem T_node_30 (hI : IW b m0 tm nc ns ρ of H A c g na cs ad qs oc dt da cn bl E fa ms lo Y) {n w : Int} (n1 : -2147483648 ≤ n) (n2 : n ≤ 2147483647) (q1 : 0 ≤ w) (q2 : w ≤ 5) (hn : n < 0 ∨ 256 ≤ n) : Wp b L xs 8 mi_92 0 (ent (mL mi_92) [.ref (A 0), vI 0, vI n, vI w]) [] H (fun h' o => h' = hskip H 6 ∧ o = .inr 2) := by
  have hI0 := hI
  obtain ⟨hH, hZ, hga, hgo, hSI, hTr, hTF, hAU, hHI, hRI, hRQ⟩ := hI
  obtain ⟨oV, oT, oN, oR, oDs, hQI, v0, v1, v2, v3, v4, vT, vw0, vw1, nNb, nDb⟩ := hSI
  refine w_iload_n rfl rfl ?_
  refine w_iflt_f rfl (by omega) (by omega) (by first | omega | (simp only [Int.toNat_natCast, upF_2] at *; omega)) ?_
  refine w_iload_n rfl rfl ?_
  refine w_iconst rfl ?_
  refine w_icle_t rfl (by omega) (by omega) (by omega) (by omega) (by first | omega | (simp only [Int.toNat_natCast, upF_2] at *; omega)) ?_
  refine w_aload_n rfl rfl ?_
  refine w_iload_n rfl rfl ?_
  refine w_cvV rfl (by decide) (by first | omega | (simp only [Int.toNat_natCast, upF_2] at *; omega)) rfl (VH_at hH oV (by decide) (by decide) (by decide)) mt_93 (Nat.le_of_ble_eq_true rfl) (Nat.le_of_ble_eq_true rfl) (T_v0 hI0 _) ?_
  refine w_astore rfl (by decide) ?_
  refine w_aload rfl rfl ?_
  refine w_ca1 rfl (by first | omega | (simp only [Int.toNat_natCast, upF_2] at *; omega)) rfl (VH_at hH oT (by decide) (by decide) (by decide)) mt_95 (Nat.le_of_ble_eq_true rfl) (Nat.le_of_ble_eq_true rfl) (T_t0 _) ?_
  rintro _ _ ⟨rfl, rfl⟩
  refine ⟨some _, rfl, ?_⟩
  refine w_ifne_t rfl (by omega) (by omega) (by first | omega | (simp only [Int.toNat_natCast, upF_2] at *; omega)) ?_
  refine w_iload_n rfl rfl ?_
  refine w_csV rfl (by decide) (by first | omega | (simp only [Int.toNat_natCast, upF_2] at *; omega)) rfl mt_18 (Nat.le_of_ble_eq_true rfl) (Nat.le_of_ble_eq_true rfl) (k_isN0 _ n1 n2 (by omega)) ?_
  refine w_ifne_f rfl (by omega) (by omega) (by first | omega | (simp only [Int.toNat_natCast, upF_2] at *; omega)) ?_
  refine w_throw rfl (by first | omega | (simp only [Int.toNat_natCast, upF_2] at *; omega)) (Nat.le_of_ble_eq_true rfl) ?_
  exact ⟨rfl, rfl⟩
theorem T_node0 (hI : IW b m0 tm nc ns ρ of H A c g na cs ad qs oc dt da cn bl E fa ms lo Y) {n : Nat} {w : Int} (q1 : 0 ≤ w) (q2 : w ≤ 5) (hn : n < 256) : Wp b L xs 8 mi_92 0 (ent (mL mi_92) [.ref (A 0), vI 0, vI n, vI w]) [] H (fun h' o => o = .inl (some (vI (rNode0 ρ n w))) ∧ h' = H) := by
  have hI0 := hI
  obtain ⟨hH, hZ, hga, hgo, hSI, hTr, hTF, hAU, hHI, hRI, hRQ⟩ := hI
  obtain ⟨oV, oT, oN, oR, oDs, hQI, v0, v1, v2, v3, v4, vT, vw0, vw1, nNb, nDb⟩ := hSI
  refine w_iload_n rfl rfl ?_
  refine w_iflt_f rfl (by omega) (by omega) (by first | omega | (simp only [Int.toNat_natCast, upF_2] at *; omega)) ?_
  refine w_iload_n rfl rfl ?_
  refine w_iconst rfl ?_
  refine w_icle_t rfl (by omega) (by omega) (by omega) (by omega) (by first | omega | (simp only [Int.toNat_natCast, upF_2] at *; omega)) ?_
  refine w_aload_n rfl rfl ?_
  refine w_iload_n rfl rfl ?_
  refine w_cvV rfl (by decide) (by first | omega | (simp only [Int.toNat_natCast, upF_2] at *; omega)) rfl (VH_at hH oV (by decide) (by decide) (by decide)) mt_93 (Nat.le_of_ble_eq_true rfl) (Nat.le_of_ble_eq_true rfl) (T_v0 hI0 _) ?_
  refine w_astore rfl (by decide) ?_
  refine w_aload rfl rfl ?_
  refine w_ca1 rfl (by first | omega | (simp only [Int.toNat_natCast, upF_2] at *; omega)) rfl (VH_at hH oT (by decide) (by decide) (by decide)) mt_95 (Nat.le_of_ble_eq_true rfl) (Nat.le_of_ble_eq_true rfl) (T_t0 _) ?_
  rintro _ _ ⟨rfl, rfl⟩
  refine ⟨some _, rfl, ?_⟩
  refine w_ifne_t rfl (by omega) (by omega) (by first | omega | (simp only [Int.toNat_natCast, upF_2] at *; omega)) ?_
  refine w_iload_n rfl rfl ?_
  refine w_csV rfl (by decide) (by first | omega | (simp only [Int.toNat_natCast, upF_2] at *; omega)) rfl mt_18 (Nat.le_of_ble_eq_true rfl) (Nat.le_of_ble_eq_true rfl) (k_isN1 _ (by omega) (by omega)) ?_
  refine w_ifne_t rfl (by omega) (by omega) (by first | omega | (simp only [Int.toNat_natCast, upF_2] at *; omega)) ?_
  refine w_aload rfl rfl ?_
  refine w_iload_n rfl rfl ?_
  refine w_iload_n rfl rfl ?_
  refine w_ca1 rfl (by first | omega | (simp only [Int.toNat_natCast, upF_2] at *; omega)) rfl (VH_at hH oT (by decide) (by decide) (by decide)) mt_97 (Nat.le_of_ble_eq_true rfl) (Nat.le_of_ble_eq_true rfl) (T_f0 hI0 q1 q2 hn _ (by decide)) ?_
  rintro _ _ ⟨rfl, rfl⟩
  refine ⟨some _, rfl, ?_⟩
  refine w_ireturn rfl rfl ?_
  exact ⟨rfl, rfl⟩
theorem T_node_2 (hI : IW b m0 tm nc ns ρ of H A c g na cs ad qs oc dt da cn bl E fa ms lo Y) (z0 : ρ.1 42 = 0) {n w : Int} (q1 : 0 ≤ w) (q2 : w ≤ 5) : Wp b L xs 8 mi_92 0 (ent (mL mi_92) [.ref (A 0), vI 1, vI n, vI w]) [] H (fun h' o => h' = hskip H 6 ∧ o = .inr 1) := by
  have hI0 := hI
  obtain ⟨hH, hZ, hga, hgo, hSI, hTr, hTF, hAU, hHI, hRI, hRQ⟩ := hI
  obtain ⟨oV, oT, oN, oR, oDs, hQI, v0, v1, v2, v3, v4, vT, vw0, vw1, nNb, nDb⟩ := hSI
  refine w_iload_n rfl rfl ?_
  refine w_iflt_f rfl (by omega) (by omega) (by first | omega | (simp only [Int.toNat_natCast, upF_2] at *; omega)) ?_
  refine w_iload_n rfl rfl ?_
  refine w_iconst rfl ?_
  refine w_icle_t rfl (by omega) (by omega) (by omega) (by omega) (by first | omega | (simp only [Int.toNat_natCast, upF_2] at *; omega)) ?_
  refine w_aload_n rfl rfl ?_
  refine w_iload_n rfl rfl ?_
  refine w_cvV rfl (by decide) (by first | omega | (simp only [Int.toNat_natCast, upF_2] at *; omega)) rfl (VH_at hH oV (by decide) (by decide) (by decide)) mt_93 (Nat.le_of_ble_eq_true rfl) (Nat.le_of_ble_eq_true rfl) (T_v1 hI0 _) ?_
  refine w_astore rfl (by decide) ?_
  refine w_aload rfl rfl ?_
  refine w_ca4 rfl (by first | omega | (simp only [Int.toNat_natCast, upF_2] at *; omega)) rfl (VH_at hH hQI.1 (by decide) (by decide) (by decide)) mt_94 (Nat.le_of_ble_eq_true rfl) (Nat.le_of_ble_eq_true rfl) (T_t1 hI0 _) ?_
  rintro _ _ ⟨rfl, rfl⟩
  refine ⟨some _, rfl, ?_⟩
  refine w_ifne_f rfl (by omega) (by omega) (by first | omega | (simp only [Int.toNat_natCast, upF_2] at *; omega)) ?_
  refine w_throw rfl (by first | omega | (simp only [Int.toNat_natCast, upF_2] at *; omega)) (Nat.le_of_ble_eq_true rfl) ?_
  exact ⟨rfl, rfl⟩
theorem T_node_31 (hI : IW b m0 tm nc ns ρ of H A c g na cs ad qs oc dt da cn bl E fa ms lo Y) (z1 : ρ.1 42 = 1) {n w : Int} (n1 : -2147483648 ≤ n) (n2 : n ≤ 2147483647) (q1 : 0 ≤ w) (q2 : w ≤ 5) (hn : n < 0 ∨ 256 ≤ n) : Wp b L xs 8 mi_92 0 (ent (mL mi_92) [.ref (A 0), vI 1, vI n, vI w]) [] H (fun h' o => h' = hskip H 6 ∧ o = .inr 2) := by
  have hI0 := hI
  obtain ⟨hH, hZ, hga, hgo, hSI, hTr, hTF, hAU, hHI, hRI, hRQ⟩ := hI
  obtain ⟨oV, oT, oN, oR, oDs, hQI, v0, v1, v2, v3, v4, vT, vw0, vw1, nNb, nDb⟩ := hSI
  refine w_iload_n rfl rfl ?_
  refine w_iflt_f rfl (by omega) (by omega) (by first | omega | (simp only [Int.toNat_natCast, upF_2] at *; omega)) ?_
  refine w_iload_n rfl rfl ?_
  refine w_iconst rfl ?_
  refine w_icle_t rfl (by omega) (by omega) (by omega) (by omega) (by first | omega | (simp only [Int.toNat_natCast, upF_2] at *; omega)) ?_
  refine w_aload_n rfl rfl ?_
  refine w_iload_n rfl rfl ?_
  refine w_cvV rfl (by decide) (by first | omega | (simp only [Int.toNat_natCast, upF_2] at *; omega)) rfl (VH_at hH oV (by decide) (by decide) (by decide)) mt_93 (Nat.le_of_ble_eq_true rfl) (Nat.le_of_ble_eq_true rfl) (T_v1 hI0 _) ?_
  refine w_astore rfl (by decide) ?_
  refine w_aload rfl rfl ?_
  refine w_ca4 rfl (by first | omega | (simp only [Int.toNat_natCast, upF_2] at *; omega)) rfl (VH_at hH hQI.1 (by decide) (by decide) (by decide)) mt_94 (Nat.le_of_ble_eq_true rfl) (Nat.le_of_ble_eq_true rfl) (T_t1 hI0 _) ?_
  rintro _ _ ⟨rfl, rfl⟩
  refine ⟨some _, rfl, ?_⟩
  refine w_ifne_t rfl (by omega) (by omega) (by first | omega | (simp only [Int.toNat_natCast, upF_2] at *; omega)) ?_
  refine w_iload_n rfl rfl ?_
  refine w_csV rfl (by decide) (by first | omega | (simp only [Int.toNat_natCast, upF_2] at *; omega)) rfl mt_18 (Nat.le_of_ble_eq_true rfl) (Nat.le_of_ble_eq_true rfl) (k_isN0 _ n1 n2 (by omega)) ?_
  refine w_ifne_f rfl (by omega) (by omega) (by first | omega | (simp only [Int.toNat_natCast, upF_2] at *; omega)) ?_
  refine w_throw rfl (by first | omega | (simp only [Int.toNat_natCast, upF_2] at *; omega)) (Nat.le_of_ble_eq_true rfl) ?_
  exact ⟨rfl, rfl⟩
theorem T_node1 (hI : IW b m0 tm nc ns ρ of H A c g na cs ad qs oc dt da cn bl E fa ms lo Y) (z1 : ρ.1 42 = 1) {n : Nat} {w : Int} (q1 : 0 ≤ w) (q2 : w ≤ 5) (hn : n < 256) : Wp b L xs 8 mi_92 0 (ent (mL mi_92) [.ref (A 0), vI 1, vI n, vI w]) [] H (fun h' o => o = .inl (some (vI (rNode1 ρ n w))) ∧ h' = H) := by
  have hI0 := hI
  obtain ⟨hH, hZ, hga, hgo, hSI, hTr, hTF, hAU, hHI, hRI, hRQ⟩ := hI
  obtain ⟨oV, oT, oN, oR, oDs, hQI, v0, v1, v2, v3, v4, vT, vw0, vw1, nNb, nDb⟩ := hSI
  refine w_iload_n rfl rfl ?_
  refine w_iflt_f rfl (by omega) (by omega) (by first | omega | (simp only [Int.toNat_natCast, upF_2] at *; omega)) ?_
  refine w_iload_n rfl rfl ?_
  refine w_iconst rfl ?_
  refine w_icle_t rfl (by omega) (by omega) (by omega) (by omega) (by first | omega | (simp only [Int.toNat_natCast, upF_2] at *; omega)) ?_
  refine w_aload_n rfl rfl ?_
  refine w_iload_n rfl rfl ?_
  refine w_cvV rfl (by decide) (by first | omega | (simp only [Int.toNat_natCast, upF_2] at *; omega)) rfl (VH_at hH oV (by decide) (by decide) (by decide)) mt_93 (Nat.le_of_ble_eq_true rfl) (Nat.le_of_ble_eq_true rfl) (T_v1 hI0 _) ?_
  refine w_astore rfl (by decide) ?_
  refine w_aload rfl rfl ?_
  refine w_ca4 rfl (by first | omega | (simp only [Int.toNat_natCast, upF_2] at *; omega)) rfl (VH_at hH hQI.1 (by decide) (by decide) (by decide)) mt_94 (Nat.le_of_ble_eq_true rfl) (Nat.le_of_ble_eq_true rfl) (T_t1 hI0 _) ?_
  rintro _ _ ⟨rfl, rfl⟩
  refine ⟨some _, rfl, ?_⟩
  refine w_ifne_t rfl (by omega) (by omega) (by first | omega | (simp only [Int.toNat_natCast, upF_2] at *; omega)) ?_
  refine w_iload_n rfl rfl ?_
  refine w_csV rfl (by decide) (by first | omega | (simp only [Int.toNat_natCast, upF_2] at *; omega)) rfl mt_18 (Nat.le_of_ble_eq_true rfl) (Nat.le_of_ble_eq_true rfl) (k_isN1 _ (by omega) (by omega)) ?_
  refine w_ifne_t rfl (by omega) (by omega) (by first | omega | (simp only [Int.toNat_natCast, upF_2] at *; omega)) ?_
  refine w_aload rfl rfl ?_
  refine w_iload_n rfl rfl ?_
  refine w_iload_n rfl rfl ?_
  refine w_ca4 rfl (by first | omega | (simp only [Int.toNat_natCast, upF_2] at *; omega)) rfl (VH_at hH hQI.1 (by decide) (by decide) (by decide)) mt_96 (Nat.le_of_ble_eq_true rfl) (Nat.le_of_ble_eq_true rfl) (T_f1 hI0 z1 q1 q2 hn _ (by decide)) ?_
  rintro _ _ ⟨rfl, rfl⟩
  refine ⟨some _, rfl, ?_⟩
  refine w_ireturn rfl rfl ?_
  exact ⟨rfl, rfl⟩
end Tq
