/-! tape, both together -/
theorem mpB_z (t : Nat → Prop) [DecidablePred t] {B : Nat → Int} {i : Nat} (hi : 64 ≤ i) : ∀ (m : Nat), m ≤ 256 → mpB t B 0 m i = B i
  | 0, _ => rfl
  | m + 1, h => by
    rw [mpB_s]
    split
    · unfold upB
      rw [if_neg (by omega)]
      exact mpB_z t hi m (by omega)
    · exact mpB_z t hi m (by omega)
theorem BlkIs_z {ρ : RS} {e : Nat} {a : Int} {B : Nat → Int} (h : BlkIs ρ e a B) {i : Nat} (hi : 64 ≤ i) : B i = 0 := by
  rcases h with ⟨-, rfl⟩ | ⟨-, rfl⟩ | ⟨j, -, -, rfl⟩ | ⟨m, c, -, -, -, rfl⟩
  · unfold hdB
    (repeat rw [putK_at, if_neg (by omega)])
    rfl
  · rw [mpB_z _ hi 256 (Nat.le_refl _), putK_at, if_neg (by omega)]
    rfl
  · rw [ixB_G, ixG_z _ _ _ _ _ _ _ (by omega)]
    (repeat rw [putK_at, if_neg (by omega)])
    rfl
  · unfold ndB
    split
    · unfold fcB
      (repeat rw [putK_at, if_neg (by omega)])
      rfl
    · split
      · rw [ocB_z _ _ _ _ _ _ (by omega)]
        rfl
      · rw [enB_z _ _ _ _ _ _ _ (by omega)]
        rfl
theorem sumC_find {ρ : RS} : ∀ (N s : Nat) (y : Int), (∀ j, s ≤ j → j < s + N → RecOk ρ j) → 0 ≤ y → y < sumC ρ s N → ∃ m c : Nat, m < N ∧ (c : Int) ≤ cont ρ (s + m) ∧ y = sumC ρ s m + c
  | 0, _, _, _, h1, h2 => by
    have h2 : _ < (0 : Int) := h2
    omega
  | N + 1, s, y, hR, h1, h2 => by
    have h2 : y < 1 + cont ρ s + sumC ρ (s + 1) N := h2
    have hc := cont_ok (hR s (Nat.le_refl _) (by omega))
    by_cases q : y ≤ cont ρ s
    · exact ⟨0, y.toNat, by omega, by rw [Nat.add_zero]; omega, by show y = 0 + _; omega⟩
    · obtain ⟨m, c, m1, m2, m3⟩ := sumC_find N (s + 1) (y - 1 - cont ρ s) (fun j j1 j2 => hR j (by omega) (by omega)) (by omega) (by omega)
      refine ⟨m + 1, c, by omega, by rw [show s + (m + 1) = s + 1 + m by omega]; exact m2, ?_⟩
      show y = 1 + cont ρ s + sumC ρ (s + 1) m + c
      omega
theorem blk_ex {ρ : RS} {E a : Nat} (hD : DumpsOk ρ E) (hB : RB ρ E) (ha : (a : Int) < ρ.1 9) : ∃ e B, e < E ∧ (∀ j, j < e → ρ.2 13 0 (j + 1) ≤ a) ∧ (a : Int) < ρ.2 13 0 (e + 1) ∧ ρ.2 13 0 e ≤ a ∧ BlkIs ρ e ((a : Int) - ρ.2 13 0 e) B := by
  have hE : 0 < E := by
    rcases Nat.eq_zero_or_pos E with z | z
    · have := (hB.1 z).1
      omega
    · exact z
  obtain ⟨b1, b2, b3, b4⟩ := hB.2.1 hE
  rcases least (P := fun e => (a : Int) < ρ.2 13 0 (e + 1)) E with h | ⟨e, h1, h2, h3⟩
  · have := h (E - 1) (by omega)
    rw [show E - 1 + 1 = E by omega, b2] at this
    exact absurd ha this
  · have lo : ρ.2 13 0 e ≤ a := by
      rcases Nat.eq_zero_or_pos e with z | z
      · rw [z, b1]
        omega
      · have := h3 (e - 1) (by omega)
        rw [show e - 1 + 1 = e by omega] at this
        omega
    obtain ⟨d1, d2, d3, d4⟩ := hD e h1
    have dk := DK hD h1
    obtain ⟨w1, w2, w3, w4, w5, w6, u0, u1, u2, u3, u4, u5⟩ := d1
    have ex : ∃ B, BlkIs ρ e ((a : Int) - ρ.2 13 0 e) B := by
      by_cases q0 : (a : Int) - ρ.2 13 0 e = 0
      · exact ⟨_, Or.inl ⟨q0, rfl⟩⟩
      by_cases q1 : (a : Int) - ρ.2 13 0 e = 1
      · exact ⟨_, Or.inr (Or.inl ⟨q1, rfl⟩)⟩
      by_cases q2 : (a : Int) - ρ.2 13 0 e < 2 + nix ρ e
      · exact ⟨_, Or.inr (Or.inr (Or.inl ⟨((a : Int) - ρ.2 13 0 e - 2).toNat, by omega, by omega, rfl⟩))⟩
      · obtain ⟨m, c, m1, m2, m3⟩ := sumC_find (ρ.2 14 0 (e + 1) - ρ.2 14 0 e).toNat (ρ.2 14 0 e).toNat ((a : Int) - ρ.2 13 0 e - (2 + nix ρ e)) (fun j j1 j2 => u5 j (by omega) (by omega)) (by omega) (by omega)
        exact ⟨_, Or.inr (Or.inr (Or.inr ⟨m, c, by omega, m2, by omega, rfl⟩))⟩
    obtain ⟨B, hb⟩ := ex
    exact ⟨e, B, h1, fun j hj => by have := h3 j hj; omega, h2, lo, hb⟩
def JL (b m0 A0 tm nc ns L : Nat) (xs : Nat → Int32) (H : AH) (kh kr : MI) (ah ar : List Value) : Prop := ∃ (k : Int) (v : Int64) (P : AH → Prop), 0 ≤ k ∧ k ≤ 3 ∧ Wp b L xs 9 kh 0 (ent (mL kh) ah) [] H (fun h1 o => o = .inl (some (vI k)) ∧ P h1) ∧ ∀ h1, P h1 → (∃ fs, h1.2.2 m0 = some (.inr (7, fs))) ∧ Wp b L xs 9 kr 0 (ent (mL kr) ar) [] h1 (fun h2 o => o = .inl (some (.long v)) ∧ ∃ ρ' of', Iv b m0 A0 (tm + 1) (nc + 3) (ns + 600) ρ' of' h2 ∧ ρ'.1 0 = k ∧ (k = 0 → of' 0 = .long v))
section Jtp
variable {L : Nat} {xs : Nat → Int32} {b m0 tm nc ns : Nat} {ρ : RS} {of : Nat → Value} {H : AH} {A : Nat → Nat} {c : CS} {g : Nat → Option AO} {na : Nat → Option Nat} {cs ad : Nat → Nat → Nat} {qs : Nat → Nat} {oc : Nat → Option Nat} {dt : Nat → Nat → Int} {da cn : Nat → Nat} {bl : Nat → Nat → Int} {E : Nat} {fa ms lo : Nat → Int} {Y : YS}
theorem J_errL (hI : IW b m0 tm nc ns ρ of H A c g na cs ad qs oc dt da cn bl E fa ms lo Y) {kh kr : MI} {ah ar : List Value} {k : Int} (k1 : 1 ≤ k) (k2 : k ≤ 3) (hh : Wp b L xs 9 kh 0 (ent (mL kh) ah) [] H (Rt (hskip H 6) (vI k))) (hr : ∀ h, Wp b L xs 9 kr 0 (ent (mL kr) ar) [] (RH m0 h ρ) (Rt (RH m0 h (upF ρ 0 k)) (.long 0))) : JL b m0 (A 0) tm nc ns L xs H kh kr ah ar := by
  obtain ⟨hH, hZ, hga, hgo, -⟩ := id hI
  refine ⟨k, 0, fun h1 => h1 = hskip H 6, by omega, k2, Wp_im (fun h' o z => ⟨z.2, z.1⟩) hh, fun h1 e => ?_⟩
  subst e
  rw [VH_RH (VH_skip hH 6) hZ hga]
  refine ⟨⟨_, RH_obj⟩, ?_⟩
  refine Wp_im ?_ (hr _)
  rintro _ _ ⟨rfl, rfl⟩
  exact ⟨rfl, _, _, Iv_err hI (by omega) k2, rfl, fun z => by omega⟩
theorem Iv_bk (hI : IW b m0 tm nc ns ρ of H A c g na cs ad qs oc dt da cn bl E fa ms lo Y) {fl : Nat} {B : Nat → Int} {x : Int64} (hf : fl ≤ 64) (hB : ∀ i, 0 ≤ B i ∧ B i ≤ 255) (hz : ∀ i, 64 ≤ i → B i = 0) : Iv b m0 (A 0) (tm + 1) (nc + 3) (ns + 600) (bk (upF ρ 0 0) fl B) (updV of 0 (.long x)) (RH m0 (hput H (m0 + 1160) (.inl (.long, 1, updV of 0 (.long x)))) (bk (upF ρ 0 0) fl B)) := by
  obtain ⟨hH, hZ, hga, hgo, hSI, hTr, hTF, hAU, hHI, hRI, hRQ⟩ := id hI
  obtain ⟨rg, hEn, r16, rE, c8a, c8b, c9a, c9b, r27a, r27b, r28a, r28b, r29a, r29b, t7a, t7b, z46, z47, sp30, sp31, z42⟩ := hRI
  have hH2 := VH_out hH hZ (nZ b m0) (.inl (.long, 1, updV of 0 (.long x)))
  have b2 : ∀ j r i, j ≠ 46 → (bk (upF ρ 0 0) fl B).2 j r i = ρ.2 j r i := fun j r i hj => bk_a (upF ρ 0 0) fl B hj
  have b1 : ∀ i, i ≠ 0 → i ≠ 47 → (bk (upF ρ 0 0) fl B).1 i = ρ.1 i := fun i h0 h47 => (bk_f (upF ρ 0 0) fl B h47).trans (if_neg h0)
  refine ⟨_, _, _, _, _, _, _, _, _, _, _, _, _, _, _, _, _, rfl, IW_more (IW_step hI hH2 ?_ hZ (fun _ _ _ _ _ h => h) (fun _ _ h => h) (fun _ _ _ _ _ _ _ => rfl) rfl (fun j r i _ h => b2 j r i h) (fun i h0 _ h47 => b1 i h0 h47) (bk_g (rg.upF 0 (by omega) (by omega)) fl (by omega) hB) (by rw [b1 7 (by decide) (by decide)]; exact t7a) (tm' := tm) (by rw [b1 7 (by decide) (by decide)]; exact t7b) (fun i hi => ?_) ?_ (Tr_c hTr (fun _ _ _ _ h => h) (fun _ => rfl) (fun _ => rfl) (fun _ _ => rfl) (fun _ _ => rfl) (fun j r i hj => b2 j r i (by omega)) (b1 7 (by decide) (by decide))) ⟨fun n hn hk => hTF.1 n hn (by rw [b2 1 0 n (by decide)] at hk; exact hk), fun n hn hk => hTF.2 n hn (by rw [b2 1 0 n (by decide)] at hk; exact hk)⟩ (fun n hn hk => ?_)) (by omega) (by omega) (by omega)⟩
  · show (if m0 + 1160 = m0 + 1160 then _ else _) = _
    rw [if_pos rfl]
  · exact hz i hi
  · exact Int.natCast_nonneg fl
  · rw [b2 1 0 n (by decide)] at hk
    obtain ⟨t, ht⟩ := hAU n hn hk
    exact ⟨t, by rw [upN_2 (ρ := ρ) (ρ' := bk (upF ρ 0 0) fl B) (fun m => b2 2 0 m (by decide))]; exact ht⟩
theorem T_tape_1 (hI : IW b m0 tm nc ns ρ of H A c g na cs ad qs oc dt da cn bl E fa ms lo Y) {x y w : Int} (w1 : -2147483648 ≤ w) (w2 : w ≤ 2147483647) (hc : w < 0 ∨ 7 < w) : Wp b L xs 8 mi_73 0 (ent (mL mi_73) [.ref (A 0), vI x, vI y, vI w]) [] H (fun h' o => h' = hskip H 6 ∧ o = .inr 0) := by
  by_cases q : w < 0
  · refine w_iload_n rfl rfl ?_
    refine w_iflt_t rfl (by omega) (by omega) (by first | omega | (simp only [Int.toNat_natCast, upF_2] at *; omega)) ?_
    refine w_throw rfl (by first | omega | (simp only [Int.toNat_natCast, upF_2] at *; omega)) (Nat.le_of_ble_eq_true rfl) ?_
    exact ⟨rfl, rfl⟩
  · refine w_iload_n rfl rfl ?_
    refine w_iflt_f rfl (by omega) (by omega) (by first | omega | (simp only [Int.toNat_natCast, upF_2] at *; omega)) ?_
    refine w_iload_n rfl rfl ?_
    refine w_bipush rfl rfl ?_
    refine w_iclt_f rfl (by omega) (by omega) (by omega) (by omega) (by first | omega | (simp only [Int.toNat_natCast, upF_2] at *; omega)) ?_
    refine w_throw rfl (by first | omega | (simp only [Int.toNat_natCast, upF_2] at *; omega)) (Nat.le_of_ble_eq_true rfl) ?_
    exact ⟨rfl, rfl⟩
end Jtp
section Jtq
variable {L : Nat} {xs : Nat → Int32} {b m0 A0 tm nc ns : Nat} {ρ : RS} {of : Nat → Value} {H : AH}
theorem J_tape (hI : Iv b m0 A0 tm nc ns ρ of H) (hb : b < m0) {x y w : Int} (x1 : -2147483648 ≤ x) (x2 : x ≤ 2147483647) (y1 : -2147483648 ≤ y) (y2 : y ≤ 2147483647) (w1 : -2147483648 ≤ w) (w2 : w ≤ 2147483647) : JL b m0 A0 tm nc ns L xs H mi_72 mi_130 [.ref A0, vI x, vI y, vI w, .ref (m0 + 1160)] [.ref m0, vI x, vI y, vI w] := by
  obtain ⟨A, c, g, na, cs, ad, qs, oc, dt, da, cn, bl, E, fa, ms, lo, Y, rfl, hI⟩ := hI
  obtain ⟨fs, ho⟩ := IW_ob hI
  have hX := IW_X hI
  have hI0 := hI
  obtain ⟨hH, hZ, hga, hgo, hSI, hTr, hTF, hAU, hHI, hRI, hRQ⟩ := hI
  obtain ⟨oV, oT, oN, oR, oDs, hQI, v0, v1, v2, v3, v4, vT, vw0, vw1, nNb, nDb⟩ := hSI
  obtain ⟨rg, hEn, r16, rE, c8a, c8b, c9a, c9b, r27a, r27b, r28a, r28b, r29a, r29b, t7a, t7b, z46, z47, sp30, sp31, z42⟩ := hRI
  have hpt : 0 ≤ pts (ρ.1 9) (ρ.1 8 - 1) := Int.ediv_nonneg (by omega) (by omega)
  have c9d : ρ.1 9 ≤ 4000 := by omega
  by_cases h1 : w < 0 ∨ 7 < w
  · exact J_errL hI0 (k := 1) (by decide) (by decide) (hE_tape_0 9 (by decide) ho (T_tape_1 hI0 w1 w2 h1)) (fun h => r_tape_1 hb rg 9 (by decide) x1 x2 y1 y2 w1 w2 c8a c8b c9a c9d h1)
  obtain ⟨w, rfl⟩ : ∃ m : Nat, w = m := ⟨w.toNat, by omega⟩
  obtain ⟨u, hu8⟩ : ∃ u : Nat, ρ.1 8 = ((u + 1 : Nat) : Int) := ⟨(ρ.1 8 - 1).toNat, by omega⟩
  obtain ⟨fi, hfi⟩ : ∃ fi : Nat, ρ.1 9 = fi := ⟨(ρ.1 9).toNat, by omega⟩
  have hu : 3 ≤ u := by omega
  have wr4 : wrO (u + 1) fi ≤ 4000 := by
    have h1 := (vol_n (u := u) (fi := fi) (by omega)).1
    have h2 := c9b
    rw [hfi, hu8, show ((u + 1 : Nat) : Int) - 1 = (u : Int) by omega] at h2
    omega
  have wi := rWr_iff hu hu8 hfi (by omega) x y
  rw [hu8, hfi, Int.toNat_natCast, Int.toNat_natCast] at hH
  rcases V_posZ (L := L) (xs := xs) hH 7 x1 x2 y1 y2 with ⟨v, k, rfl, rfl, hk, hv, hw, wp⟩ | ⟨hn, wp⟩
  rotate_left
  · have wt : Wp b L xs 8 mi_73 0 (ent (mL mi_73) [.ref (A 0), vI x, vI y, vI w]) [] H (fun h' o => h' = hskip H 6 ∧ o = .inr 2) := by
      refine w_iload_n rfl rfl ?_
      refine w_iflt_f rfl (by omega) (by omega) (by first | omega | (simp only [Int.toNat_natCast, upF_2] at *; omega)) ?_
      refine w_iload_n rfl rfl ?_
      refine w_bipush rfl rfl ?_
      refine w_iclt_t rfl (by omega) (by omega) (by omega) (by omega) (by first | omega | (simp only [Int.toNat_natCast, upF_2] at *; omega)) ?_
      refine w_aload_n rfl rfl ?_
      refine w_getfield rfl (VH_at hH oV (by decide) (by decide) (by decide)) rfl ?_
      rw [v1]
      refine w_iload_n rfl rfl ?_
      refine w_iload_n rfl rfl ?_
      refine w_cvV rfl (by decide) (by first | omega | (simp only [Int.toNat_natCast, upF_2] at *; omega)) rfl (VH_ob hH).choose_spec mt_70 (Nat.le_of_ble_eq_true rfl) (Nat.le_of_ble_eq_true rfl) wp ?_
      refine w_istore rfl (by decide) ?_
      refine w_iload rfl rfl ?_
      refine w_iconst rfl ?_
      refine w_icne_f rfl (by omega) (by omega) (by omega) (by omega) (by first | omega | (simp only [Int.toNat_natCast, upF_2] at *; omega)) ?_
      refine w_throw rfl (by first | omega | (simp only [Int.toNat_natCast, upF_2] at *; omega)) (Nat.le_of_ble_eq_true rfl) ?_
      exact ⟨rfl, rfl⟩
    exact J_errL hI0 (k := 2) (by decide) (by decide) (hE_tape_2 9 (by decide) ho wt) (fun h => r_tape_2 hb rg 9 (by decide) x1 x2 y1 y2 w1 w2 c8a c8b c9a c9d (by omega) (by omega) (fun z => hn (wi.mp z)))
  have iff := (ps_iff (v := v) (fi := fi) hu hk).mp hw
  have rw_ := wi.mpr ⟨v, k, rfl, rfl, hk, hv, hw⟩
  obtain ⟨ws, wo⟩ := V_at (L := L) (xs := xs) hu hH 7 hk hw
  obtain ⟨X, hX8, wW⟩ := wo w (by omega)
  have ek : ((v : Int) * (ρ.1 8 - 1) + (k : Int) - 1).toNat = v * u + k - 1 := by
    rw [hu8, show ((u + 1 : Nat) : Int) - 1 = (u : Int) by omega, ← Int.natCast_mul]
    omega
  have sv : (if (k : Int) = 0 then ρ.2 31 0 (v : Int).toNat else ρ.2 30 0 ((v : Int) * (ρ.1 8 - 1) + (k : Int) - 1).toNat) = (if k = 0 then ρ.2 31 0 v else ρ.2 30 0 (v * u + k - 1)) := by
    rw [ek, Int.toNat_natCast]
    by_cases e : k = 0
    · rw [if_pos (by omega), if_pos e]
    · rw [if_neg (by omega), if_neg e]
  have s01 : (if k = 0 then ρ.2 31 0 v else ρ.2 30 0 (v * u + k - 1)) = 0 ∨ (if k = 0 then ρ.2 31 0 v else ρ.2 30 0 (v * u + k - 1)) = 1 := by
    split
    · exact sp31 v
    · exact sp30 _
  rcases s01 with s0 | s0
  rotate_left
  · rw [s0] at ws
    have wt : Wp b L xs 8 mi_73 0 (ent (mL mi_73) [.ref (A 0), vI v, vI k, vI w]) [] H (fun h' o => h' = hskip H 6 ∧ o = .inr 1) := by
      refine w_iload_n rfl rfl ?_
      refine w_iflt_f rfl (by omega) (by omega) (by first | omega | (simp only [Int.toNat_natCast, upF_2] at *; omega)) ?_
      refine w_iload_n rfl rfl ?_
      refine w_bipush rfl rfl ?_
      refine w_iclt_t rfl (by omega) (by omega) (by omega) (by omega) (by first | omega | (simp only [Int.toNat_natCast, upF_2] at *; omega)) ?_
      refine w_aload_n rfl rfl ?_
      refine w_getfield rfl (VH_at hH oV (by decide) (by decide) (by decide)) rfl ?_
      rw [v1]
      refine w_iload_n rfl rfl ?_
      refine w_iload_n rfl rfl ?_
      refine w_cvV rfl (by decide) (by first | omega | (simp only [Int.toNat_natCast, upF_2] at *; omega)) rfl (VH_ob hH).choose_spec mt_70 (Nat.le_of_ble_eq_true rfl) (Nat.le_of_ble_eq_true rfl) wp ?_
      refine w_istore rfl (by decide) ?_
      refine w_iload rfl rfl ?_
      refine w_iconst rfl ?_
      refine w_icne_t rfl (by omega) (by omega) (by omega) (by omega) (by first | omega | (simp only [Int.toNat_natCast, upF_2] at *; omega)) ?_
      refine w_aload_n rfl rfl ?_
      refine w_getfield rfl (VH_at hH oV (by decide) (by decide) (by decide)) rfl ?_
      rw [v1]
      refine w_iload rfl rfl ?_
      refine w_cvV rfl (by decide) (by first | omega | (simp only [Int.toNat_natCast, upF_2] at *; omega)) rfl (VH_ob hH).choose_spec mt_74 (Nat.le_of_ble_eq_true rfl) (Nat.le_of_ble_eq_true rfl) ws ?_
      refine w_ifeq_f rfl (by omega) (by omega) (by first | omega | (simp only [Int.toNat_natCast, upF_2] at *; omega)) ?_
      refine w_throw rfl (by first | omega | (simp only [Int.toNat_natCast, upF_2] at *; omega)) (Nat.le_of_ble_eq_true rfl) ?_
      exact ⟨rfl, rfl⟩
    exact J_errL hI0 (k := 3) (by decide) (by decide) (hE_tape_1 9 (by decide) ho wt) (fun h => r_tape_3 hb rg 9 (by decide) x1 x2 y1 y2 w1 w2 c8a c8b c9a c9d (by omega) (by omega) rw_ (by rw [sv]; exact s0))
  rw [s0] at ws
  have wt : Wp b L xs 8 mi_73 0 (ent (mL mi_73) [.ref (A 0), vI v, vI k, vI w]) [] H (fun h' o => o = .inl (some (.long X)) ∧ h' = H) := by
    refine w_iload_n rfl rfl ?_
    refine w_iflt_f rfl (by omega) (by omega) (by first | omega | (simp only [Int.toNat_natCast, upF_2] at *; omega)) ?_
    refine w_iload_n rfl rfl ?_
    refine w_bipush rfl rfl ?_
    refine w_iclt_t rfl (by omega) (by omega) (by omega) (by omega) (by first | omega | (simp only [Int.toNat_natCast, upF_2] at *; omega)) ?_
    refine w_aload_n rfl rfl ?_
    refine w_getfield rfl (VH_at hH oV (by decide) (by decide) (by decide)) rfl ?_
    rw [v1]
    refine w_iload_n rfl rfl ?_
    refine w_iload_n rfl rfl ?_
    refine w_cvV rfl (by decide) (by first | omega | (simp only [Int.toNat_natCast, upF_2] at *; omega)) rfl (VH_ob hH).choose_spec mt_70 (Nat.le_of_ble_eq_true rfl) (Nat.le_of_ble_eq_true rfl) wp ?_
    refine w_istore rfl (by decide) ?_
    refine w_iload rfl rfl ?_
    refine w_iconst rfl ?_
    refine w_icne_t rfl (by omega) (by omega) (by omega) (by omega) (by first | omega | (simp only [Int.toNat_natCast, upF_2] at *; omega)) ?_
    refine w_aload_n rfl rfl ?_
    refine w_getfield rfl (VH_at hH oV (by decide) (by decide) (by decide)) rfl ?_
    rw [v1]
    refine w_iload rfl rfl ?_
    refine w_cvV rfl (by decide) (by first | omega | (simp only [Int.toNat_natCast, upF_2] at *; omega)) rfl (VH_ob hH).choose_spec mt_74 (Nat.le_of_ble_eq_true rfl) (Nat.le_of_ble_eq_true rfl) ws ?_
    refine w_ifeq_t rfl (by omega) (by omega) (by first | omega | (simp only [Int.toNat_natCast, upF_2] at *; omega)) ?_
    refine w_aload_n rfl rfl ?_
    refine w_getfield rfl (VH_at hH oV (by decide) (by decide) (by decide)) rfl ?_
    rw [v1]
    refine w_iload rfl rfl ?_
    refine w_iload_n rfl rfl ?_
    refine w_cvV rfl (by decide) (by first | omega | (simp only [Int.toNat_natCast, upF_2] at *; omega)) rfl (VH_ob hH).choose_spec mt_75 (Nat.le_of_ble_eq_true rfl) (Nat.le_of_ble_eq_true rfl) wW ?_
    refine w_lreturn rfl rfl ?_
    exact ⟨rfl, rfl⟩
  have wh := hV_tape (L := L) (xs := xs) 9 (by decide) ho wt (fun h' hh => by rw [hh]; exact hX)
  have fin : ∀ (B : Nat → Int), (∀ i, 0 ≤ B i ∧ B i ≤ 255) → (∀ i, 64 ≤ i → B i = 0) → (∀ j, j < 8 → (by8 X j : Int) = B (8 * w + j)) → (∀ h, Wp b L xs 9 mi_130 0 (ent (mL mi_130) [.ref m0, vI v, vI k, vI w]) [] (RH m0 h ρ) (fun h' o => o = .inl (some (.long (pk B (8 * w) 8 0))) ∧ ∃ fl : Nat, fl ≤ 64 ∧ h' = RH m0 h (bk (upF ρ 0 0) fl B))) → JL b m0 (A 0) tm nc ns L xs H mi_72 mi_130 [.ref (A 0), vI v, vI k, vI w, .ref (m0 + 1160)] [.ref m0, vI v, vI k, vI w] := fun B hB hz h8 hr => by
    have eX : X = pk B (8 * w) 8 0 := by8_ext (fun j hj => by
      have e1 := h8 j hj
      have e2 := by8_pk hB (8 * w) hj
      omega)
    refine ⟨0, X, fun h1 => h1 = hput H (m0 + 1160) (.inl (.long, 1, updV of 0 (.long X))), by decide, by decide, Wp_im (fun h' o z => ?_) wh, fun h1 e => ?_⟩
    · obtain ⟨z1, h9, rfl, z2⟩ := z
      exact ⟨z1, z2⟩
    · subst e
      have hH2 := VH_out hI0.1 hZ (nZ b m0) (.inl (.long, 1, updV of 0 (.long X)))
      rw [VH_RH hH2 hZ (up_area hga _)]
      refine ⟨⟨_, RH_obj⟩, ?_⟩
      refine Wp_im ?_ (hr _)
      rintro _ _ ⟨rfl, fl, f1, rfl⟩
      exact ⟨by rw [eX], _, _, Iv_bk hI0 f1 hB hz, rfl, fun _ => rfl⟩
  by_cases e : k = 0
  · subst e
    rw [if_pos rfl] at iff s0
    refine fin (lbB v) (putK_ok (putK_ok (fun _ => ⟨Int.le_refl _, by decide⟩) _ _ _) _ _ _) (fun i hi => ?_) (fun j hj => by rw [hX8 j hj, if_pos rfl]) (fun h => Wp_im ?_ (r_tape_L (L := L) (xs := xs) (h := h) hb rg 9 (by decide) c8a c8b c9a c9d (show w ≤ 7 by omega) rw_ s0 z46 z47))
    · unfold lbB
      (repeat rw [putK_at, if_neg (by omega)])
      rfl
    · rintro _ _ ⟨rfl, rfl⟩
      exact ⟨rfl, 3, by decide, rfl⟩
  · rw [if_neg e] at iff s0
    obtain ⟨ee, B, e1, e2, e3, e4, e5⟩ := blk_ex (a := v * u + k - 1) hHI.2.2.2.2.1 hHI.2.2.2.2.2.2.2 (by rw [hfi]; omega)
    have ea : (v : Int) * (ρ.1 8 - 1) + (k : Int) - 1 = ((v * u + k - 1 : Nat) : Int) := by
      rw [hu8, show ((u + 1 : Nat) : Int) - 1 = (u : Int) by omega, ← Int.natCast_mul]
      omega
    have kb := hHI.2.2.2.2.2.2.1 ee ((v * u + k - 1) - (ρ.2 13 0 ee).toNat) B e1
    have u0 := (hHI.2.2.2.2.1 ee e1).1.2.2.2.2.2.2.1
    have kb2 := kb (by rw [show (((v * u + k - 1) - (ρ.2 13 0 ee).toNat : Nat) : Int) = ((v * u + k - 1 : Nat) : Int) - ρ.2 13 0 ee by omega]; exact e5)
    rw [show (ρ.2 13 0 ee).toNat + ((v * u + k - 1) - (ρ.2 13 0 ee).toNat) = v * u + k - 1 by omega] at kb2
    have hBB : ∀ i, 0 ≤ B i ∧ B i ≤ 255 := fun i => by
      rcases Nat.lt_or_ge i 64 with z | z
      · rw [← kb2 i z]
        obtain ⟨h9, W0, P0, len, wr, W, S, -, hV, hvv⟩ := VV_len hH
        rw [← (hvv.2.1 _ iff).1 i z]
        exact ocW_ok _ _ _
      · rw [BlkIs_z e5 z]
        decide
    refine fin B hBB (fun i hi => BlkIs_z e5 hi) (fun j hj => by rw [hX8 j hj, if_neg e, kb2 _ (by omega)]) (fun h => ?_)
    exact r_tape_B (L := L) (xs := xs) (h := h) hb rg hEn 9 (by decide) c8a c8b c9a c9d (show w ≤ 7 by omega) (by omega) rw_ (by rw [ek]; exact s0) z46 z47 (by omega) (fun j hj => by rw [ea]; exact e2 j hj) (by rw [ea]; exact e3) (hHI.2.2.2.2.1 ee e1).1 (hHI.2.2.2.2.1 ee e1).2.1 (by rw [ea]; exact e5)
end Jtq
