/-! both calls together -/
theorem IW_more {b m0 tm nc ns : Nat} {ρ : RS} {of : Nat → Value} {H : AH} {A : Nat → Nat} {c : CS} {g : Nat → Option AO} {na : Nat → Option Nat} {cs ad : Nat → Nat → Nat} {qs : Nat → Nat} {oc : Nat → Option Nat} {dt : Nat → Nat → Int} {da cn : Nat → Nat} {bl : Nat → Nat → Int} {E : Nat} {fa ms lo : Nat → Int} {Y : YS} (hI : IW b m0 tm nc ns ρ of H A c g na cs ad qs oc dt da cn bl E fa ms lo Y) {tm' nc' ns' : Nat} (h1 : tm ≤ tm') (h2 : nc ≤ nc') (h3 : ns ≤ ns') : IW b m0 tm' nc' ns' ρ of H A c g na cs ad qs oc dt da cn bl E fa ms lo Y := by
  obtain ⟨i1, i2, i3, i4, i5, i6, i7, i8, i9, i10, i11⟩ := hI
  obtain ⟨j1, j2, j3, j4, j5, j6, j7, j8, j9, j10, j11, j12, j13, j14, j15, j16, j17⟩ := i10
  exact ⟨VH_more i1 h2 h3, i2, i3, i4, i5, i6, i7, i8, i9, ⟨j1, j2, j3, j4, j5, j6, j7, j8, j9, j10, j11, j12, j13, j14, j15, by omega, j17⟩, i11⟩
def JV (b m0 A0 tm nc ns L : Nat) (xs : Nat → Int32) (H : AH) (kh kr : MI) (ah ar : List Value) : Prop := ∃ (k v : Int) (P : AH → Prop), 0 ≤ k ∧ k ≤ 3 ∧ Wp b L xs 9 kh 0 (ent (mL kh) ah) [] H (fun h1 o => o = .inl (some (vI k)) ∧ P h1) ∧ ∀ h1, P h1 → (∃ fs, h1.2.2 m0 = some (.inr (7, fs))) ∧ Wp b L xs 9 kr 0 (ent (mL kr) ar) [] h1 (fun h2 o => o = .inl (some (vI v)) ∧ ∃ ρ' of', Iv b m0 A0 (tm + 1) (nc + 3) (ns + 600) ρ' of' h2 ∧ ρ'.1 0 = k ∧ (k = 0 → of' 0 = .long (Int32.ofInt v).toInt64))
def JN (b m0 A0 tm nc ns L : Nat) (xs : Nat → Int32) (H : AH) (kh kr : MI) (ah ar : List Value) : Prop := ∃ (k : Int) (P : AH → Prop), 0 ≤ k ∧ k ≤ 3 ∧ Wp b L xs 9 kh 0 (ent (mL kh) ah) [] H (fun h1 o => o = .inl (some (vI k)) ∧ P h1) ∧ ∀ h1, P h1 → (∃ fs, h1.2.2 m0 = some (.inr (7, fs))) ∧ Wp b L xs 9 kr 0 (ent (mL kr) ar) [] h1 (fun h2 o => o = .inl none ∧ ∃ ρ' of', Iv b m0 A0 (tm + 1) (nc + 3) (ns + 600) ρ' of' h2 ∧ ρ'.1 0 = k)
section Jv
variable {L : Nat} {xs : Nat → Int32} {b m0 tm nc ns : Nat} {ρ : RS} {of : Nat → Value} {H : AH} {A : Nat → Nat} {c : CS} {g : Nat → Option AO} {na : Nat → Option Nat} {cs ad : Nat → Nat → Nat} {qs : Nat → Nat} {oc : Nat → Option Nat} {dt : Nat → Nat → Int} {da cn : Nat → Nat} {bl : Nat → Nat → Int} {E : Nat} {fa ms lo : Nat → Int} {Y : YS}
theorem Iv_err (hI : IW b m0 tm nc ns ρ of H A c g na cs ad qs oc dt da cn bl E fa ms lo Y) {k : Int} (k1 : 0 ≤ k) (k2 : k ≤ 3) : Iv b m0 (A 0) (tm + 1) (nc + 3) (ns + 600) (upF ρ 0 k) of (RH m0 (hskip H 6) (upF ρ 0 k)) := by
  obtain ⟨hH, hZ, hga, hgo, -⟩ := id hI
  exact ⟨_, _, _, _, _, _, _, _, _, _, _, _, _, _, _, _, _, rfl, IW_more (IW_0 hI k1 k2 (VH_skip hH 6) hgo) (by omega) (by omega) (by omega)⟩
theorem J_errV (hI : IW b m0 tm nc ns ρ of H A c g na cs ad qs oc dt da cn bl E fa ms lo Y) {kh kr : MI} {ah ar : List Value} {k : Int} (k1 : 1 ≤ k) (k2 : k ≤ 3) (hh : Wp b L xs 9 kh 0 (ent (mL kh) ah) [] H (Rt (hskip H 6) (vI k))) (hr : ∀ h, Wp b L xs 9 kr 0 (ent (mL kr) ar) [] (RH m0 h ρ) (Rt (RH m0 h (upF ρ 0 k)) (vI 0))) : JV b m0 (A 0) tm nc ns L xs H kh kr ah ar := by
  obtain ⟨hH, hZ, hga, hgo, -⟩ := id hI
  refine ⟨k, 0, fun h1 => h1 = hskip H 6, by omega, k2, Wp_im (fun h' o z => ⟨z.2, z.1⟩) hh, fun h1 e => ?_⟩
  subst e
  rw [VH_RH (VH_skip hH 6) hZ hga]
  refine ⟨⟨_, RH_obj⟩, ?_⟩
  refine Wp_im ?_ (hr _)
  rintro _ _ ⟨rfl, rfl⟩
  exact ⟨rfl, _, _, Iv_err hI (by omega) k2, rfl, fun z => by omega⟩
theorem J_errN (hI : IW b m0 tm nc ns ρ of H A c g na cs ad qs oc dt da cn bl E fa ms lo Y) {kh kr : MI} {ah ar : List Value} {k : Int} (k1 : 1 ≤ k) (k2 : k ≤ 3) (hh : Wp b L xs 9 kh 0 (ent (mL kh) ah) [] H (Rt (hskip H 6) (vI k))) (hr : ∀ h, Wp b L xs 9 kr 0 (ent (mL kr) ar) [] (RH m0 h ρ) (Rn (RH m0 h (upF ρ 0 k)))) : JN b m0 (A 0) tm nc ns L xs H kh kr ah ar := by
  obtain ⟨hH, hZ, hga, hgo, -⟩ := id hI
  refine ⟨k, fun h1 => h1 = hskip H 6, by omega, k2, Wp_im (fun h' o z => ⟨z.2, z.1⟩) hh, fun h1 e => ?_⟩
  subst e
  rw [VH_RH (VH_skip hH 6) hZ hga]
  refine ⟨⟨_, RH_obj⟩, ?_⟩
  refine Wp_im ?_ (hr _)
  rintro _ _ ⟨rfl, rfl⟩
  exact ⟨rfl, _, _, Iv_err hI (by omega) k2, rfl⟩
theorem nZ (b m0 : Nat) : ¬ Zr b m0 (m0 + 1160) := fun z => by have := z.2; omega
theorem up_area {g : Nat → Option AO} {m0 : Nat} {ρ : RS} (hga : ∀ a, m0 ≤ a → a < m0 + 1160 → g a = rcell m0 ρ (a - m0)) (x : AO) : ∀ a, m0 ≤ a → a < m0 + 1160 → va_up g (m0 + 1160) (some x) a = rcell m0 ρ (a - m0) := fun a h1 h2 => by
  show (if a = m0 + 1160 then some x else g a) = _
  rw [if_neg (by omega)]
  exact hga a h1 h2
/-- a question answered -/
theorem J_okV (hI : IW b m0 tm nc ns ρ of H A c g na cs ad qs oc dt da cn bl E fa ms lo Y) {kh kr : MI} {ah ar : List Value} {v : Int} (hh : Wp b L xs 9 kh 0 (ent (mL kh) ah) [] H (fun h2 o => o = .inl (some (vI 0)) ∧ ∃ h', h' = H ∧ h2 = hput h' (m0 + 1160) (.inl (.long, 1, updV of 0 (.long (Int32.ofInt v).toInt64))))) (hr : ∀ h, Wp b L xs 9 kr 0 (ent (mL kr) ar) [] (RH m0 h ρ) (Rt (RH m0 h (upF ρ 0 0)) (vI v))) : JV b m0 (A 0) tm nc ns L xs H kh kr ah ar := by
  obtain ⟨hH, hZ, hga, hgo, -⟩ := id hI
  refine ⟨0, v, fun h1 => h1 = hput H (m0 + 1160) (.inl (.long, 1, updV of 0 (.long (Int32.ofInt v).toInt64))), by omega, by omega, Wp_im (fun h' o z => ?_) hh, fun h1 e => ?_⟩
  · obtain ⟨z1, h9, rfl, z2⟩ := z
    exact ⟨z1, z2⟩
  · subst e
    have hH2 := VH_out hH hZ (nZ b m0) (.inl (.long, 1, updV of 0 (.long (Int32.ofInt v).toInt64)))
    rw [VH_RH hH2 hZ (up_area hga _)]
    refine ⟨⟨_, RH_obj⟩, ?_⟩
    refine Wp_im ?_ (hr _)
    rintro _ _ ⟨rfl, rfl⟩
    refine ⟨rfl, _, updV of 0 (.long (Int32.ofInt v).toInt64), ⟨_, _, _, _, _, _, _, _, _, _, _, _, _, _, _, _, _, rfl, IW_more (IW_0 hI (k := 0) (by omega) (by omega) hH2 ?_) (by omega) (by omega) (by omega)⟩, rfl, fun _ => rfl⟩
    show (if m0 + 1160 = m0 + 1160 then _ else _) = _
    rw [if_pos rfl]
theorem IW_ob (hI : IW b m0 tm nc ns ρ of H A c g na cs ad qs oc dt da cn bl E fa ms lo Y) : ∃ fs, H.2.2 (A 0) = some (.inr (0, fs)) := by
  obtain ⟨hH, -, -, -, hSI, -⟩ := hI
  exact ⟨_, VH_at hH hSI.1 (by decide) (by decide) (by decide)⟩
theorem IW_X (hI : IW b m0 tm nc ns ρ of H A c g na cs ad qs oc dt da cn bl E fa ms lo Y) : H.2.2 (m0 + 1160) = some (.inl (.long, 1, of)) := by
  obtain ⟨hH, hZ, hga, hgo, -⟩ := hI
  rw [VH_g hH hZ (nZ b m0)]
  exact hgo
end Jv
section Tm
variable {L : Nat} {xs : Nat → Int32} {b m0 tm nc ns : Nat} {ρ : RS} {of : Nat → Value} {H : AH} {A : Nat → Nat} {c : CS} {g : Nat → Option AO} {na : Nat → Option Nat} {cs ad : Nat → Nat → Nat} {qs : Nat → Nat} {oc : Nat → Option Nat} {dt : Nat → Nat → Int} {da cn : Nat → Nat} {bl : Nat → Nat → Int} {E : Nat} {fa ms lo : Nat → Int} {Y : YS}
theorem T_make_1 (hI : IW b m0 tm nc ns ρ of H A c g na cs ad qs oc dt da cn bl E fa ms lo Y) {p w f : Int} (p1 : -2147483648 ≤ p) (p2 : p ≤ 2147483647) (w1 : -2147483648 ≤ w) (w2 : w ≤ 2147483647) (hc : ¬ (0 ≤ p ∧ p < 256 ∧ ρ.2 1 0 p.toNat = 2) ∨ ¬ (1 ≤ w ∧ w ≤ 30000)) : Wp b L xs 8 mi_15 0 (ent (mL mi_15) [.ref (A 0), vI p, vI w, vI f]) [] H (fun h' o => h' = hskip H 6 ∧ o = .inr 0) := by
  have hI0 := hI
  obtain ⟨hH, hZ, hga, hgo, hSI, hTr, hTF, hAU, hHI, hRI, hRQ⟩ := hI
  obtain ⟨oV, oT, oN, oR, oDs, hQI, v0, v1, v2, v3, v4, vT, vw0, vw1, nNb, nDb⟩ := hSI
  rcases V_dir (L := L) (xs := xs) hH hTr.1 hTr.2.1 7 (by decide) p1 p2 with ⟨n, a, rfl, hn, hk, hN, w0⟩ | ⟨hn, w0⟩
  · have hw : ¬ (1 ≤ w ∧ w ≤ 30000) := hc.resolve_left (fun z => z ⟨by omega, by omega, by rw [Int.toNat_natCast]; exact hk⟩)
    refine w_aload_n rfl rfl ?_
    refine w_getfield rfl (VH_at hH oV (by decide) (by decide) (by decide)) rfl ?_
    rw [v0]
    refine w_iload_n rfl rfl ?_
    refine w_cvV rfl (by decide) (by first | omega | (simp only [Int.toNat_natCast, upF_2] at *; omega)) rfl (VH_at hH oT (by decide) (by decide) (by decide)) mt_16 (Nat.le_of_ble_eq_true rfl) (Nat.le_of_ble_eq_true rfl) w0 ?_
    refine w_astore rfl (by decide) ?_
    refine w_aload rfl rfl ?_
    refine w_ifnull_r rfl ?_
    refine w_iload_n rfl rfl ?_
    refine w_csV rfl (by decide) (by first | omega | (simp only [Int.toNat_natCast, upF_2] at *; omega)) rfl mt_19 (Nat.le_of_ble_eq_true rfl) (Nat.le_of_ble_eq_true rfl) (k_isM0 _ w1 w2 hw) ?_
    refine w_ifne_f rfl (by omega) (by omega) (by first | omega | (simp only [Int.toNat_natCast, upF_2] at *; omega)) ?_
    refine w_throw rfl (by first | omega | (simp only [Int.toNat_natCast, upF_2] at *; omega)) (Nat.le_of_ble_eq_true rfl) ?_
    exact ⟨rfl, rfl⟩
  · refine w_aload_n rfl rfl ?_
    refine w_getfield rfl (VH_at hH oV (by decide) (by decide) (by decide)) rfl ?_
    rw [v0]
    refine w_iload_n rfl rfl ?_
    refine w_cvV rfl (by decide) (by first | omega | (simp only [Int.toNat_natCast, upF_2] at *; omega)) rfl (VH_at hH oT (by decide) (by decide) (by decide)) mt_16 (Nat.le_of_ble_eq_true rfl) (Nat.le_of_ble_eq_true rfl) w0 ?_
    refine w_astoreQ (x := none) rfl (by decide) ?_
    refine w_aloadQ (x := none) rfl rfl ?_
    refine w_ifnull_n rfl ?_
    refine w_throw rfl (by decide) (Nat.le_of_ble_eq_true rfl) ?_
    exact ⟨rfl, rfl⟩
theorem T_make_2 (hI : IW b m0 tm nc ns ρ of H A c g na cs ad qs oc dt da cn bl E fa ms lo Y) {p : Nat} {w f : Int} (hp : p < 256) (hpk : ρ.2 1 0 p = 2) (w1 : 1 ≤ w) (w2 : w ≤ 30000) (hx : ∃ t, t < qs p ∧ ρ.2 3 0 (cs p t) = w) : Wp b L xs 8 mi_15 0 (ent (mL mi_15) [.ref (A 0), vI p, vI w, vI f]) [] H (fun h' o => h' = hskip H 6 ∧ o = .inr 1) := by
  have hI0 := hI
  obtain ⟨hH, hZ, hga, hgo, hSI, hTr, hTF, hAU, hHI, hRI, hRQ⟩ := hI
  obtain ⟨oV, oT, oN, oR, oDs, hQI, v0, v1, v2, v3, v4, vT, vw0, vw1, nNb, nDb⟩ := hSI
  obtain ⟨a, hN⟩ := na_ne hTr hp (by rw [hpk]; decide)
  have oX := hN.2.2.1
  have dir := hTr.2.2.2.2.1 p hp (by rw [hpk]; decide)
  have w0 : Wp b L xs 7 mi_16 0 (ent (mL mi_16) [.ref (A 1), vI p]) [] H (Rt H (.ref a)) := by
    rcases V_dir (L := L) (xs := xs) hH hTr.1 hTr.2.1 7 (by decide) (p := (p : Int)) (by omega) (by omega) with ⟨n, a', e1, hn, hk, hN', w0⟩ | ⟨hn, w0⟩
    · obtain rfl : p = n := by omega
      have := hN'.1
      rw [hN.1] at this
      cases this
      exact w0
    · exact absurd ⟨by omega, by omega, by rw [Int.toNat_natCast]; exact hpk⟩ hn
  rcases V_child (L := L) (xs := xs) hH 7 oX dir.2.2.1 (w := w) (by omega) (by omega) with ⟨t, h1, h2, h3, wc⟩ | ⟨h1, wc⟩
  · refine w_aload_n rfl rfl ?_
    refine w_getfield rfl (VH_at hH oV (by decide) (by decide) (by decide)) rfl ?_
    rw [v0]
    refine w_iload_n rfl rfl ?_
    refine w_cvV rfl (by decide) (by first | omega | (simp only [Int.toNat_natCast, upF_2] at *; omega)) rfl (VH_at hH oT (by decide) (by decide) (by decide)) mt_16 (Nat.le_of_ble_eq_true rfl) (Nat.le_of_ble_eq_true rfl) w0 ?_
    refine w_astore rfl (by decide) ?_
    refine w_aload rfl rfl ?_
    refine w_ifnull_r rfl ?_
    refine w_iload_n rfl rfl ?_
    refine w_csV rfl (by decide) (by first | omega | (simp only [Int.toNat_natCast, upF_2] at *; omega)) rfl mt_19 (Nat.le_of_ble_eq_true rfl) (Nat.le_of_ble_eq_true rfl) (k_isM1 _ (by omega) (by omega)) ?_
    refine w_ifne_t rfl (by omega) (by omega) (by first | omega | (simp only [Int.toNat_natCast, upF_2] at *; omega)) ?_
    refine w_aload rfl rfl ?_
    refine w_iload_n rfl rfl ?_
    refine w_cvV rfl (by decide) (by first | omega | (simp only [Int.toNat_natCast, upF_2] at *; omega)) rfl (VH_at hH oX (by decide) (by decide) (by decide)) mt_20 (Nat.le_of_ble_eq_true rfl) (Nat.le_of_ble_eq_true rfl) wc ?_
    refine w_ifnull_r rfl ?_
    refine w_throw rfl (by first | omega | (simp only [Int.toNat_natCast, upF_2] at *; omega)) (Nat.le_of_ble_eq_true rfl) ?_
    exact ⟨rfl, rfl⟩
  · obtain ⟨t, ht, hte⟩ := hx
    exact absurd hte (h1 t ht)
theorem T_make_3 (hI : IW b m0 tm nc ns ρ of H A c g na cs ad qs oc dt da cn bl E fa ms lo Y) {p : Nat} {w f : Int} (hp : p < 256) (hpk : ρ.2 1 0 p = 2) (w1 : 1 ≤ w) (w2 : w ≤ 30000) (hx : ∀ t, t < qs p → ρ.2 3 0 (cs p t) ≠ w) (hf : ∀ j, j < 256 → ρ.2 1 0 j ≠ 0) : Wp b L xs 8 mi_15 0 (ent (mL mi_15) [.ref (A 0), vI p, vI w, vI f]) [] H (fun h' o => h' = hskip H 6 ∧ o = .inr 2) := by
  have hI0 := hI
  obtain ⟨hH, hZ, hga, hgo, hSI, hTr, hTF, hAU, hHI, hRI, hRQ⟩ := hI
  obtain ⟨oV, oT, oN, oR, oDs, hQI, v0, v1, v2, v3, v4, vT, vw0, vw1, nNb, nDb⟩ := hSI
  obtain ⟨a, hN⟩ := na_ne hTr hp (by rw [hpk]; decide)
  have oX := hN.2.2.1
  have dir := hTr.2.2.2.2.1 p hp (by rw [hpk]; decide)
  have w0 : Wp b L xs 7 mi_16 0 (ent (mL mi_16) [.ref (A 1), vI p]) [] H (Rt H (.ref a)) := by
    rcases V_dir (L := L) (xs := xs) hH hTr.1 hTr.2.1 7 (by decide) (p := (p : Int)) (by omega) (by omega) with ⟨n, a', e1, hn, hk, hN', w0⟩ | ⟨hn, w0⟩
    · obtain rfl : p = n := by omega
      have := hN'.1
      rw [hN.1] at this
      cases this
      exact w0
    · exact absurd ⟨by omega, by omega, by rw [Int.toNat_natCast]; exact hpk⟩ hn
  rcases V_child (L := L) (xs := xs) hH 7 oX dir.2.2.1 (w := w) (by omega) (by omega) with ⟨t, h1, h2, h3, wc⟩ | ⟨h1, wc⟩
  · exact absurd h2 (hx t h1)
  rcases V_lf (L := L) (xs := xs) hH hTr.1 nNb 7 with ⟨n, l1, l2, l3, wl⟩ | ⟨l1, wl⟩
  · exact absurd l2 (hf n l1)
  refine w_aload_n rfl rfl ?_
  refine w_getfield rfl (VH_at hH oV (by decide) (by decide) (by decide)) rfl ?_
  rw [v0]
  refine w_iload_n rfl rfl ?_
  refine w_cvV rfl (by decide) (by first | omega | (simp only [Int.toNat_natCast, upF_2] at *; omega)) rfl (VH_at hH oT (by decide) (by decide) (by decide)) mt_16 (Nat.le_of_ble_eq_true rfl) (Nat.le_of_ble_eq_true rfl) w0 ?_
  refine w_astore rfl (by decide) ?_
  refine w_aload rfl rfl ?_
  refine w_ifnull_r rfl ?_
  refine w_iload_n rfl rfl ?_
  refine w_csV rfl (by decide) (by first | omega | (simp only [Int.toNat_natCast, upF_2] at *; omega)) rfl mt_19 (Nat.le_of_ble_eq_true rfl) (Nat.le_of_ble_eq_true rfl) (k_isM1 _ (by omega) (by omega)) ?_
  refine w_ifne_t rfl (by omega) (by omega) (by first | omega | (simp only [Int.toNat_natCast, upF_2] at *; omega)) ?_
  refine w_aload rfl rfl ?_
  refine w_iload_n rfl rfl ?_
  refine w_cvV rfl (by decide) (by first | omega | (simp only [Int.toNat_natCast, upF_2] at *; omega)) rfl (VH_at hH oX (by decide) (by decide) (by decide)) mt_20 (Nat.le_of_ble_eq_true rfl) (Nat.le_of_ble_eq_true rfl) wc ?_
  refine w_ifnull_n rfl ?_
  refine w_aload_n rfl rfl ?_
  refine w_getfield rfl (VH_at hH oV (by decide) (by decide) (by decide)) rfl ?_
  rw [v0]
  refine w_cvV rfl (by decide) (by first | omega | (simp only [Int.toNat_natCast, upF_2] at *; omega)) rfl (VH_at hH oT (by decide) (by decide) (by decide)) mt_21 (Nat.le_of_ble_eq_true rfl) (Nat.le_of_ble_eq_true rfl) wl ?_
  refine w_istore rfl (by decide) ?_
  refine w_iload rfl rfl ?_
  refine w_iconst rfl ?_
  refine w_icne_f rfl (by omega) (by omega) (by omega) (by omega) (by first | omega | (simp only [Int.toNat_natCast, upF_2] at *; omega)) ?_
  refine w_throw rfl (by first | omega | (simp only [Int.toNat_natCast, upF_2] at *; omega)) (Nat.le_of_ble_eq_true rfl) ?_
  exact ⟨rfl, rfl⟩
theorem T_make (hI : IW b m0 tm nc ns ρ of H A c g na cs ad qs oc dt da cn bl E fa ms lo Y) {p : Nat} {w f : Int} (hp : p < 256) (hpk : ρ.2 1 0 p = 2) (w1 : 1 ≤ w) (w2 : w ≤ 30000) (hf : f = 0 ∨ f = 1) {n t : Nat} (hx : ∀ t, t < qs p → ρ.2 3 0 (cs p t) ≠ w) (hn : n < 256) (hn0 : ρ.2 1 0 n = 0) (hl : ∀ j, j < n → ρ.2 1 0 j ≠ 0) (ht : t ≤ qs p) (hlt : ∀ j, j < t → ρ.2 3 0 (cs p j) < w) (hge : t < qs p → w ≤ ρ.2 3 0 (cs p t)) : ∃ hp, na p = some hp ∧ Wp b L xs 8 mi_15 0 (ent (mL mi_15) [.ref (A 0), vI p, vI w, vI f]) [] H (fun h' o => o = .inl (some (vI n)) ∧ VH b (A 3) (Zr b m0) g (adC c n p H.1 hp (if f = 0 then 1 else 2) w (ρ.1 7) (cnt (fun n => ρ.2 1 0 n ≠ 0) 0 256) t (cs p) (va_rf (ptr (ad p) t (qs p))) (rEnt ρ p)) (nc + 1) (ns + 9) (ρ.1 8).toNat (ρ.1 9).toNat bl (ρ.2 30 0) (ρ.2 31 0) h') := by
  have hI0 := hI
  obtain ⟨hH, hZ, hga, hgo, hSI, hTr, hTF, hAU, hHI, hRI, hRQ⟩ := hI
  obtain ⟨oV, oT, oN, oR, oDs, hQI, v0, v1, v2, v3, v4, vT, vw0, vw1, nNb, nDb⟩ := hSI
  obtain ⟨a, hN⟩ := na_ne hTr hp (by rw [hpk]; decide)
  have oX := hN.2.2.1
  have dir := hTr.2.2.2.2.1 p hp (by rw [hpk]; decide)
  have w0 : Wp b L xs 7 mi_16 0 (ent (mL mi_16) [.ref (A 1), vI p]) [] H (Rt H (.ref a)) := by
    rcases V_dir (L := L) (xs := xs) hH hTr.1 hTr.2.1 7 (by decide) (p := (p : Int)) (by omega) (by omega) with ⟨n, a', e1, hn, hk, hN', w0⟩ | ⟨hn, w0⟩
    · obtain rfl : p = n := by omega
      have := hN'.1
      rw [hN.1] at this
      cases this
      exact w0
    · exact absurd ⟨by omega, by omega, by rw [Int.toNat_natCast]; exact hpk⟩ hn
  refine ⟨a, hN.1, ?_⟩
  rcases V_child (L := L) (xs := xs) hH 7 oX dir.2.2.1 (w := w) (by omega) (by omega) with ⟨t, h1, h2, h3, wc⟩ | ⟨h1, wc⟩
  · exact absurd h2 (hx t h1)
  rcases V_lf (L := L) (xs := xs) hH hTr.1 nNb 7 with ⟨n', l1, l2, l3, wl⟩ | ⟨l1, wl⟩
  rotate_left
  · exact absurd hn0 (l1 n hn)
  obtain rfl : n' = n := by
    rcases Nat.lt_trichotomy n' n with z | z | z
    · exact absurd l2 (hl n' z)
    · exact z
    · exact absurd hn0 (l3 n z)
  have hnp : n' ≠ p := fun z => by rw [z, hpk] at hn0; exact absurd hn0 (by decide)
  have nch : ∀ i, i < qs p → cs p i ≠ n' := fun i hi z => by
    have := (dir.1.1 i hi).2.2.1
    rw [z] at this
    exact this hn0
  have f4 : c.2.1 12 p 4 = vI (rEnt ρ p) := by
    rw [hN.2.2.2.2.2.2.2.2.1]
    unfold szv
    rw [hpk, if_neg (by decide)]
  have wa : ∀ k : Int, Wp b L xs 7 mi_22 0 (ent (mL mi_22) [.ref (A 1), vI n', vI k, .ref a, vI w]) [] H _ := fun k => V_add (L := L) (xs := xs) hH 7 (by decide) oT vT oN hTr.1.2.2.2.2.1 hTr.1.2.2.2.1 (n := n') (k := k) (w := w) hn oX (fun x => hTF.1 n' hn hn0 x) hnp dir.2.2.1 nch ht hlt hge (by omega) (by omega) f4
  rcases hf with rfl | rfl
  · refine w_aload_n rfl rfl ?_
    refine w_getfield rfl (VH_at hH oV (by decide) (by decide) (by decide)) rfl ?_
    rw [v0]
    refine w_iload_n rfl rfl ?_
    refine w_cvV rfl (by decide) (by first | omega | (simp only [Int.toNat_natCast, upF_2] at *; omega)) rfl (VH_at hH oT (by decide) (by decide) (by decide)) mt_16 (Nat.le_of_ble_eq_true rfl) (Nat.le_of_ble_eq_true rfl) w0 ?_
    refine w_astore rfl (by decide) ?_
    refine w_aload rfl rfl ?_
    refine w_ifnull_r rfl ?_
    refine w_iload_n rfl rfl ?_
    refine w_csV rfl (by decide) (by first | omega | (simp only [Int.toNat_natCast, upF_2] at *; omega)) rfl mt_19 (Nat.le_of_ble_eq_true rfl) (Nat.le_of_ble_eq_true rfl) (k_isM1 _ (by omega) (by omega)) ?_
    refine w_ifne_t rfl (by omega) (by omega) (by first | omega | (simp only [Int.toNat_natCast, upF_2] at *; omega)) ?_
    refine w_aload rfl rfl ?_
    refine w_iload_n rfl rfl ?_
    refine w_cvV rfl (by decide) (by first | omega | (simp only [Int.toNat_natCast, upF_2] at *; omega)) rfl (VH_at hH oX (by decide) (by decide) (by decide)) mt_20 (Nat.le_of_ble_eq_true rfl) (Nat.le_of_ble_eq_true rfl) wc ?_
    refine w_ifnull_n rfl ?_
    refine w_aload_n rfl rfl ?_
    refine w_getfield rfl (VH_at hH oV (by decide) (by decide) (by decide)) rfl ?_
    rw [v0]
    refine w_cvV rfl (by decide) (by first | omega | (simp only [Int.toNat_natCast, upF_2] at *; omega)) rfl (VH_at hH oT (by decide) (by decide) (by decide)) mt_21 (Nat.le_of_ble_eq_true rfl) (Nat.le_of_ble_eq_true rfl) wl ?_
    refine w_istore rfl (by decide) ?_
    refine w_iload rfl rfl ?_
    refine w_iconst rfl ?_
    refine w_icne_t rfl (by omega) (by omega) (by omega) (by omega) (by first | omega | (simp only [Int.toNat_natCast, upF_2] at *; omega)) ?_
    refine w_aload_n rfl rfl ?_
    refine w_getfield rfl (VH_at hH oV (by decide) (by decide) (by decide)) rfl ?_
    rw [v0]
    refine w_iload rfl rfl ?_
    refine w_iload_n rfl rfl ?_
    refine w_ifeq_t rfl (by omega) (by omega) (by first | omega | (simp only [Int.toNat_natCast, upF_2] at *; omega)) ?_
    refine w_iconst rfl ?_
    refine w_aload rfl rfl ?_
    refine w_iload_n rfl rfl ?_
    refine w_cv rfl (by decide) (by first | omega | (simp only [Int.toNat_natCast, upF_2] at *; omega)) rfl (VH_at hH oT (by decide) (by decide) (by decide)) mt_22 (Nat.le_of_ble_eq_true rfl) (Nat.le_of_ble_eq_true rfl) (wa _) ?_
    rintro _ _ ⟨rfl, eH, hH⟩
    refine ⟨none, rfl, ?_⟩
    refine w_iload rfl rfl ?_
    refine w_ireturn rfl rfl ?_
    exact ⟨rfl, hH⟩
  · refine w_aload_n rfl rfl ?_
    refine w_getfield rfl (VH_at hH oV (by decide) (by decide) (by decide)) rfl ?_
    rw [v0]
    refine w_iload_n rfl rfl ?_
    refine w_cvV rfl (by decide) (by first | omega | (simp only [Int.toNat_natCast, upF_2] at *; omega)) rfl (VH_at hH oT (by decide) (by decide) (by decide)) mt_16 (Nat.le_of_ble_eq_true rfl) (Nat.le_of_ble_eq_true rfl) w0 ?_
    refine w_astore rfl (by decide) ?_
    refine w_aload rfl rfl ?_
    refine w_ifnull_r rfl ?_
    refine w_iload_n rfl rfl ?_
    refine w_csV rfl (by decide) (by first | omega | (simp only [Int.toNat_natCast, upF_2] at *; omega)) rfl mt_19 (Nat.le_of_ble_eq_true rfl) (Nat.le_of_ble_eq_true rfl) (k_isM1 _ (by omega) (by omega)) ?_
    refine w_ifne_t rfl (by omega) (by omega) (by first | omega | (simp only [Int.toNat_natCast, upF_2] at *; omega)) ?_
    refine w_aload rfl rfl ?_
    refine w_iload_n rfl rfl ?_
    refine w_cvV rfl (by decide) (by first | omega | (simp only [Int.toNat_natCast, upF_2] at *; omega)) rfl (VH_at hH oX (by decide) (by decide) (by decide)) mt_20 (Nat.le_of_ble_eq_true rfl) (Nat.le_of_ble_eq_true rfl) wc ?_
    refine w_ifnull_n rfl ?_
    refine w_aload_n rfl rfl ?_
    refine w_getfield rfl (VH_at hH oV (by decide) (by decide) (by decide)) rfl ?_
    rw [v0]
    refine w_cvV rfl (by decide) (by first | omega | (simp only [Int.toNat_natCast, upF_2] at *; omega)) rfl (VH_at hH oT (by decide) (by decide) (by decide)) mt_21 (Nat.le_of_ble_eq_true rfl) (Nat.le_of_ble_eq_true rfl) wl ?_
    refine w_istore rfl (by decide) ?_
    refine w_iload rfl rfl ?_
    refine w_iconst rfl ?_
    refine w_icne_t rfl (by omega) (by omega) (by omega) (by omega) (by first | omega | (simp only [Int.toNat_natCast, upF_2] at *; omega)) ?_
    refine w_aload_n rfl rfl ?_
    refine w_getfield rfl (VH_at hH oV (by decide) (by decide) (by decide)) rfl ?_
    rw [v0]
    refine w_iload rfl rfl ?_
    refine w_iload_n rfl rfl ?_
    refine w_ifeq_f rfl (by omega) (by omega) (by first | omega | (simp only [Int.toNat_natCast, upF_2] at *; omega)) ?_
    refine w_iconst rfl ?_
    refine w_goto rfl ?_
    refine w_aload rfl rfl ?_
    refine w_iload_n rfl rfl ?_
    refine w_cv rfl (by decide) (by first | omega | (simp only [Int.toNat_natCast, upF_2] at *; omega)) rfl (VH_at hH oT (by decide) (by decide) (by decide)) mt_22 (Nat.le_of_ble_eq_true rfl) (Nat.le_of_ble_eq_true rfl) (wa _) ?_
    rintro _ _ ⟨rfl, eH, hH⟩
    refine ⟨none, rfl, ?_⟩
    refine w_iload rfl rfl ?_
    refine w_ireturn rfl rfl ?_
    exact ⟨rfl, hH⟩
end Tm
