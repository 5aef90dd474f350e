/-! move, both together -/
theorem upN_s (ρ : RS) (s : Nat) (x : Int) : upN ρ (s + 1) x = ρ.2 2 0 (upN ρ s x).toNat := by
  rw [upN_add]
  rfl
theorem path_at {ρ : RS} (hA : AU ρ) {p : Nat} (hp : p < 256) (hk : ρ.2 1 0 p ≠ 0) (n : Nat) : ∃ t, (∀ s, s < t → upN ρ s (p : Int) ≠ 0 ∧ upN ρ s (p : Int) ≠ n) ∧ (upN ρ t (p : Int) = n ∨ (upN ρ t (p : Int) ≠ n ∧ upN ρ t (p : Int) = 0)) := by
  obtain ⟨T, hT⟩ := hA p hp hk
  rcases least (P := fun j => upN ρ j (p : Int) = 0 ∨ upN ρ j (p : Int) = n) (T + 1) with h | ⟨t, h1, h2, h3⟩
  · exact absurd (Or.inl hT) (h T (by omega))
  · refine ⟨t, fun s hs => ⟨fun z => h3 s hs (Or.inl z), fun z => h3 s hs (Or.inr z)⟩, ?_⟩
    by_cases z : upN ρ t (p : Int) = n
    · exact Or.inl z
    · exact Or.inr ⟨z, h2.resolve_right z⟩
section Tmw
variable {L : Nat} {xs : Nat → Int32} {b m0 tm nc ns : Nat} {ρ : RS} {of : Nat → Value} {H : AH} {A : Nat → Nat} {c : CS} {g : Nat → Option AO} {na : Nat → Option Nat} {cs ad : Nat → Nat → Nat} {qs : Nat → Nat} {oc : Nat → Option Nat} {dt : Nat → Nat → Int} {da cn : Nat → Nat} {bl : Nat → Nat → Int} {E : Nat} {fa ms lo : Nat → Int} {Y : YS}
theorem V_ab (hI : IW b m0 tm nc ns ρ of H A c g na cs ad qs oc dt da cn bl E fa ms lo Y) {n p a hp t : Nat} {r : Int} (hn1 : 1 ≤ n) (hN : NdIs c ρ na n a) (hp2 : p < 256) (hpk : ρ.2 1 0 p ≠ 0) (hNp : NdIs c ρ na p hp) (hs : ∀ s, s < t → upN ρ s (p : Int) ≠ 0 ∧ upN ρ s (p : Int) ≠ n) (ht : (upN ρ t (p : Int) = n ∧ r = 1) ∨ (upN ρ t (p : Int) = 0 ∧ r = 0)) (d : Nat) : Wp b L xs d mi_35 0 (ent (mL mi_35) [.ref hp, .ref a]) [] H (Rt H (vI r)) := by
  have hI0 := hI
  obtain ⟨hH, hZ, hga, hgo, hSI, hTr, hTF, hAU, hHI, hRI, hRQ⟩ := hI
  obtain ⟨oV, oT, oN, oR, oDs, hQI, v0, v1, v2, v3, v4, vT, vw0, vw1, nNb, nDb⟩ := hSI
  have inn : ∀ s, 0 ≤ upN ρ s (p : Int) ∧ upN ρ s (p : Int) < 256 ∧ ρ.2 1 0 (upN ρ s (p : Int)).toNat ≠ 0 := fun s => upN_in hTr.2.1 (Tr_pr hTr) s p (by omega) (by omega) (by rw [Int.toNat_natCast]; exact hpk)
  have nd : ∀ s, ∃ x, NdIs c ρ na (upN ρ s (p : Int)).toNat x := fun s => na_ne hTr (by have := inn s; omega) (inn s).2.2
  have sp : ∀ s, NdIs c ρ na (upN ρ s (p : Int)).toNat ((na (upN ρ s (p : Int)).toNat).getD 0) := fun s => by
    obtain ⟨x, hx⟩ := nd s
    have e : (na (upN ρ s (p : Int)).toNat).getD 0 = x := by rw [hx.1]; rfl
    rw [e]
    exact hx
  have e0 : (na (upN ρ 0 (p : Int)).toNat).getD 0 = hp := by
    show (na (p : Int).toNat).getD 0 = hp
    rw [Int.toNat_natCast, hNp.1]
    rfl
  have w := VH_lift (L := L) (xs := xs) (d := d) hH (fun h0 c' ho hv => k_ab d (a2 := a) (up := fun s => (upN ρ s (p : Int)).toNat) (pa := fun s => (na (upN ρ s (p : Int)).toNat).getD 0) (t := t) (r := r) (fun s _ => ho _ _ (sp s).2.2.1) (fun s h1 => ?_) (fun s h1 z => ?_) ?_)
  · rw [e0] at w
    exact w
  · rw [hv _ _ _ (by decide) (by decide) (by decide), (sp s).2.2.2.2.2.2.1, if_neg (by have := inn s; have := hs s h1; omega), ← upN_s, (sp (s + 1)).1]
    rfl
  · have o1 := (sp s).2.2.1
    rw [z, hN.2.2.1] at o1
    have e1 := Option.some.inj o1
    have e2 : n = (upN ρ s (p : Int)).toNat := congrArg Prod.snd e1
    have := inn s
    have := (hs s h1).2
    omega
  · rcases ht with ⟨h1, h2⟩ | ⟨h1, h2⟩
    · left
      refine ⟨?_, h2⟩
      rw [h1, Int.toNat_natCast, hN.1]
      rfl
    · right
      refine ⟨fun z => ?_, ?_, h2⟩
      · have o1 := (sp t).2.2.1
        rw [z, hN.2.2.1] at o1
        have e1 := Option.some.inj o1
        have e2 : n = (upN ρ t (p : Int)).toNat := congrArg Prod.snd e1
        rw [h1] at e2
        have : (0 : Int).toNat = 0 := rfl
        omega
      · rw [hv _ _ _ (by decide) (by decide) (by decide), (sp t).2.2.2.2.2.2.1, if_pos (by rw [h1]; rfl)]
        rfl
theorem T_move_3 (hI : IW b m0 tm nc ns ρ of H A c g na cs ad qs oc dt da cn bl E fa ms lo Y) {n p a hp : Nat} {w : Int} (hn : n < 256) (hn1 : 1 ≤ n) (hN : NdIs c ρ na n a) (hp2 : p < 256) (hpk : ρ.2 1 0 p = 2) (hNp : NdIs c ρ na p hp) (w1 : 1 ≤ w) (w2 : w ≤ 30000) (hq : ∀ j, j < qs p → ρ.2 3 0 (cs p j) = w → cs p j = n) {t : Nat} (hs : ∀ s, s < t → upN ρ s (p : Int) ≠ 0 ∧ upN ρ s (p : Int) ≠ n) (ht : upN ρ t (p : Int) = n) : Wp b L xs 8 mi_33 0 (ent (mL mi_33) [.ref (A 0), vI n, vI p, vI w]) [] H (fun h' o => h' = hskip H 6 ∧ o = .inr 3) := by
  obtain ⟨a', hN', wn⟩ := w_n1 (L := L) (xs := xs) hI hn hN.2.2.2.1 7 (by decide)
  obtain rfl : a' = a := by
    have := hN'.1
    rw [hN.1] at this
    cases this
    rfl
  obtain ⟨h', hN2, wd⟩ := w_d1 (L := L) (xs := xs) hI hp2 hpk 7 (by decide)
  obtain rfl : h' = hp := by
    have := hN2.1
    rw [hNp.1] at this
    cases this
    rfl
  obtain ⟨hq9, hpa, f2, oP, wr⟩ := w_r0 (L := L) (xs := xs) hI hn hn1 hN 7
  have oX := hN.2.2.1
  have oD := hNp.2.2.1
  have wa := V_ab (L := L) (xs := xs) hI hn1 hN hp2 (by rw [hpk]; decide) hNp hs (Or.inl ⟨ht, rfl⟩) 7
  have hI0 := hI
  obtain ⟨hH, hZ, hga, hgo, hSI, hTr, hTF, hAU, hHI, hRI, hRQ⟩ := hI
  obtain ⟨oV, oT, oN, oR, oDs, hQI, v0, v1, v2, v3, v4, vT, vw0, vw1, nNb, nDb⟩ := hSI
  have dir := hTr.2.2.2.2.1 p hp2 (by rw [hpk]; decide)
  rcases V_child (L := L) (xs := xs) hH 7 oD dir.2.2.1 (w := w) (by omega) (by omega) with ⟨t', h1, h2, h3, wc⟩ | ⟨h1, wc⟩
  · have oC := (dir.2.2.1.2 t' h1).1
    have e9 : ad p t' = a' := by
      have e8 := dir.2.2.2 t' h1
      rw [hq t' h1 h2, hN.1] at e8
      cases e8
      rfl
    rw [e9] at wc
    refine w_aload_n rfl rfl ?_
    refine w_getfield rfl (VH_at hH oV (by decide) (by decide) (by decide)) rfl ?_
    rw [v0]
    refine w_iload_n rfl rfl ?_
    refine w_cvV rfl (by decide) (by first | omega | (simp only [Int.toNat_natCast, upF_2] at *; omega)) rfl (VH_at hH oT (by decide) (by decide) (by decide)) mt_17 (Nat.le_of_ble_eq_true rfl) (Nat.le_of_ble_eq_true rfl) wn ?_
    refine w_astore rfl (by decide) ?_
    refine w_aload_n rfl rfl ?_
    refine w_getfield rfl (VH_at hH oV (by decide) (by decide) (by decide)) rfl ?_
    rw [v0]
    refine w_iload_n rfl rfl ?_
    refine w_cvV rfl (by decide) (by first | omega | (simp only [Int.toNat_natCast, upF_2] at *; omega)) rfl (VH_at hH oT (by decide) (by decide) (by decide)) mt_16 (Nat.le_of_ble_eq_true rfl) (Nat.le_of_ble_eq_true rfl) wd ?_
    refine w_astore rfl (by decide) ?_
    refine w_aload rfl rfl ?_
    refine w_ifnull_r rfl ?_
    refine w_aload rfl rfl ?_
    refine w_cvV rfl (by decide) (by first | omega | (simp only [Int.toNat_natCast, upF_2] at *; omega)) rfl (VH_at hH oX (by decide) (by decide) (by decide)) mt_34 (Nat.le_of_ble_eq_true rfl) (Nat.le_of_ble_eq_true rfl) wr ?_
    refine w_ifne_f rfl (by omega) (by omega) (by first | omega | (simp only [Int.toNat_natCast, upF_2] at *; omega)) ?_
    refine w_aload rfl rfl ?_
    refine w_ifnull_r rfl ?_
    refine w_iload_n rfl rfl ?_
    refine w_csV rfl (by decide) (by first | omega | (simp only [Int.toNat_natCast, upF_2] at *; omega)) rfl mt_19 (Nat.le_of_ble_eq_true rfl) (Nat.le_of_ble_eq_true rfl) (k_isM1 _ (by omega) (by omega)) ?_
    refine w_ifne_t rfl (by omega) (by omega) (by first | omega | (simp only [Int.toNat_natCast, upF_2] at *; omega)) ?_
    refine w_aload rfl rfl ?_
    refine w_iload_n rfl rfl ?_
    refine w_cvV rfl (by decide) (by first | omega | (simp only [Int.toNat_natCast, upF_2] at *; omega)) rfl (VH_at hH oD (by decide) (by decide) (by decide)) mt_20 (Nat.le_of_ble_eq_true rfl) (Nat.le_of_ble_eq_true rfl) wc ?_
    refine w_astore rfl (by decide) ?_
    refine w_aload rfl rfl ?_
    refine w_ifnull_r rfl ?_
    refine w_aload rfl rfl ?_
    refine w_aload rfl rfl ?_
    refine w_aceq (x := some a') (y := some a') rfl (fun z9 => ?_) (fun z9 => ?_)
    · refine w_aload rfl rfl ?_
      refine w_aload rfl rfl ?_
      refine w_cvV rfl (by decide) (by first | omega | (simp only [Int.toNat_natCast, upF_2] at *; omega)) rfl (VH_at hH oD (by decide) (by decide) (by decide)) mt_35 (Nat.le_of_ble_eq_true rfl) (Nat.le_of_ble_eq_true rfl) wa ?_
      refine w_ifeq_f rfl (by omega) (by omega) (by first | omega | (simp only [Int.toNat_natCast, upF_2] at *; omega)) ?_
      refine w_throw rfl (by first | omega | (simp only [Int.toNat_natCast, upF_2] at *; omega)) (Nat.le_of_ble_eq_true rfl) ?_
      exact ⟨rfl, rfl⟩
    · exact absurd rfl z9
      
  · refine w_aload_n rfl rfl ?_
    refine w_getfield rfl (VH_at hH oV (by decide) (by decide) (by decide)) rfl ?_
    rw [v0]
    refine w_iload_n rfl rfl ?_
    refine w_cvV rfl (by decide) (by first | omega | (simp only [Int.toNat_natCast, upF_2] at *; omega)) rfl (VH_at hH oT (by decide) (by decide) (by decide)) mt_17 (Nat.le_of_ble_eq_true rfl) (Nat.le_of_ble_eq_true rfl) wn ?_
    refine w_astore rfl (by decide) ?_
    refine w_aload_n rfl rfl ?_
    refine w_getfield rfl (VH_at hH oV (by decide) (by decide) (by decide)) rfl ?_
    rw [v0]
    refine w_iload_n rfl rfl ?_
    refine w_cvV rfl (by decide) (by first | omega | (simp only [Int.toNat_natCast, upF_2] at *; omega)) rfl (VH_at hH oT (by decide) (by decide) (by decide)) mt_16 (Nat.le_of_ble_eq_true rfl) (Nat.le_of_ble_eq_true rfl) wd ?_
    refine w_astore rfl (by decide) ?_
    refine w_aload rfl rfl ?_
    refine w_ifnull_r rfl ?_
    refine w_aload rfl rfl ?_
    refine w_cvV rfl (by decide) (by first | omega | (simp only [Int.toNat_natCast, upF_2] at *; omega)) rfl (VH_at hH oX (by decide) (by decide) (by decide)) mt_34 (Nat.le_of_ble_eq_true rfl) (Nat.le_of_ble_eq_true rfl) wr ?_
    refine w_ifne_f rfl (by omega) (by omega) (by first | omega | (simp only [Int.toNat_natCast, upF_2] at *; omega)) ?_
    refine w_aload rfl rfl ?_
    refine w_ifnull_r rfl ?_
    refine w_iload_n rfl rfl ?_
    refine w_csV rfl (by decide) (by first | omega | (simp only [Int.toNat_natCast, upF_2] at *; omega)) rfl mt_19 (Nat.le_of_ble_eq_true rfl) (Nat.le_of_ble_eq_true rfl) (k_isM1 _ (by omega) (by omega)) ?_
    refine w_ifne_t rfl (by omega) (by omega) (by first | omega | (simp only [Int.toNat_natCast, upF_2] at *; omega)) ?_
    refine w_aload rfl rfl ?_
    refine w_iload_n rfl rfl ?_
    refine w_cvV rfl (by decide) (by first | omega | (simp only [Int.toNat_natCast, upF_2] at *; omega)) rfl (VH_at hH oD (by decide) (by decide) (by decide)) mt_20 (Nat.le_of_ble_eq_true rfl) (Nat.le_of_ble_eq_true rfl) wc ?_
    refine w_astoreQ (x := none) rfl (by decide) ?_
    refine w_aloadQ (x := none) rfl rfl ?_
    refine w_ifnull_n rfl ?_
    refine w_aload rfl rfl ?_
    refine w_aload rfl rfl ?_
    refine w_cvV rfl (by decide) (by first | omega | (simp only [Int.toNat_natCast, upF_2] at *; omega)) rfl (VH_at hH oD (by decide) (by decide) (by decide)) mt_35 (Nat.le_of_ble_eq_true rfl) (Nat.le_of_ble_eq_true rfl) wa ?_
    refine w_ifeq_f rfl (by omega) (by omega) (by first | omega | (simp only [Int.toNat_natCast, upF_2] at *; omega)) ?_
    refine w_throw rfl (by first | omega | (simp only [Int.toNat_natCast, upF_2] at *; omega)) (Nat.le_of_ble_eq_true rfl) ?_
    exact ⟨rfl, rfl⟩
theorem T_move (hI : IW b m0 tm nc ns ρ of H A c g na cs ad qs oc dt da cn bl E fa ms lo Y) {n p a hp : Nat} {w : Int} (hn : n < 256) (hn1 : 1 ≤ n) (hN : NdIs c ρ na n a) (hp2 : p < 256) (hpk : ρ.2 1 0 p = 2) (hNp : NdIs c ρ na p hp) (w1 : 1 ≤ w) (w2 : w ≤ 30000) (hq : ∀ j, j < qs p → ρ.2 3 0 (cs p j) = w → cs p j = n) {t3 : Nat} (hs : ∀ s, s < t3 → upN ρ s (p : Int) ≠ 0 ∧ upN ρ s (p : Int) ≠ n) (ht3 : upN ρ t3 (p : Int) = 0) {p0 t t2 : Nat} (hp0 : ρ.2 2 0 n = p0) (hp02 : p0 < 256) (hp0k : ρ.2 1 0 p0 = 2) (ht : t < qs p0) (hc : cs p0 t = n) (hta : ad p0 t = a) (hne : ∀ j, j < t → ad p0 j ≠ a) (ht2 : t2 ≤ (setF qs p0 (qs p0 - 1)) p) (hlt : ∀ j, j < t2 → ρ.2 3 0 ((setF cs p0 (delN (cs p0) t)) p j) < w) (hge : t2 < (setF qs p0 (qs p0 - 1)) p → w ≤ ρ.2 3 0 ((setF cs p0 (delN (cs p0) t)) p t2)) (hnp : n ≠ p) : Wp b L xs 8 mi_33 0 (ent (mL mi_33) [.ref (A 0), vI n, vI p, vI w]) [] H (fun h' o => o = .inl none ∧ VH b (A 3) (Zr b m0) g (rhC (tkC (upC c 1 0 2 (vI (ρ.1 7 + 1))) p0 t (cs p0) (va_rf (ptr (ad p0) (t + 1) (qs p0))) (rEnt ρ p0) (ρ.1 7 + 1)) n p a hp w (ρ.1 7 + 1) t2 ((setF cs p0 (delN (cs p0) t)) p) (va_rf (ptr ((setF ad p0 (delN (ad p0) t)) p) t2 ((setF qs p0 (qs p0 - 1)) p))) ((setF qs p0 (qs p0 - 1)) p : Nat)) nc ns (ρ.1 8).toNat (ρ.1 9).toNat bl (ρ.2 30 0) (ρ.2 31 0) h') := by
  obtain ⟨a', hN', wn⟩ := w_n1 (L := L) (xs := xs) hI hn hN.2.2.2.1 7 (by decide)
  obtain rfl : a' = a := by
    have := hN'.1
    rw [hN.1] at this
    cases this
    rfl
  obtain ⟨h', hN2, wd⟩ := w_d1 (L := L) (xs := xs) hI hp2 hpk 7 (by decide)
  obtain rfl : h' = hp := by
    have := hN2.1
    rw [hNp.1] at this
    cases this
    rfl
  obtain ⟨hq9, hpa, f2, oP, wr⟩ := w_r0 (L := L) (xs := xs) hI hn hn1 hN 7
  have oX := hN.2.2.1
  have oD := hNp.2.2.1
  have wa := V_ab (L := L) (xs := xs) hI hn1 hN hp2 (by rw [hpk]; decide) hNp hs (Or.inr ⟨ht3, rfl⟩) 7
  have hI0 := hI
  obtain ⟨hH, hZ, hga, hgo, hSI, hTr, hTF, hAU, hHI, hRI, hRQ⟩ := hI
  obtain ⟨oV, oT, oN, oR, oDs, hQI, v0, v1, v2, v3, v4, vT, vw0, vw1, nNb, nDb⟩ := hSI
  obtain ⟨dP, ncP⟩ := Tr_move1 hTr hAU hn1 hn hN.2.2.2.1 hp0 ht hc p hp2 (by rw [hpk]; decide)
  have dir0 := hTr.2.2.2.2.1 p0 hp02 (by rw [hp0k]; decide)
  obtain ⟨xp, hxp⟩ := na_ne hTr hp02 (by rw [hp0k]; decide)
  have g4 : c.2.1 12 p0 4 = vI (rEnt ρ p0) := by
    rw [hxp.2.2.2.2.2.2.2.2.1]
    unfold szv
    rw [hp0k, if_neg (by decide)]
  have g42 : (tkC (upC c 1 0 2 (vI (ρ.1 7 + 1))) p0 t (cs p0) (va_rf (ptr (ad p0) (t + 1) (qs p0))) (rEnt ρ p0) (ρ.1 7 + 1)).2.1 12 p 4 = vI ((setF qs p0 (qs p0 - 1)) p : Nat) := by
    by_cases e : p = p0
    · subst e
      rw [tkC_4, setF_eq]
      have := dir0.2.1
      exact congrArg vI (by omega)
    · rw [tkC_o (by decide) (by decide) (by omega), upC_ne (by omega), hNp.2.2.2.2.2.2.2.2.1, setF_ne e]
      unfold szv
      rw [hpk, if_neg (by decide)]
      have := (hTr.2.2.2.2.1 p hp2 (by rw [hpk]; decide)).2.1
      exact congrArg vI (by omega)
  rw [hp0, Int.toNat_natCast] at oP
  have wh := V_rehome (L := L) (xs := xs) hH 7 (by decide) oX oP dir0.2.2.1 ht hta hne g4 hc f2 oT hTr.1.2.2.2.2.1 (c2 := (tkC (upC c 1 0 2 (vI (ρ.1 7 + 1))) p0 t (cs p0) (va_rf (ptr (ad p0) (t + 1) (qs p0))) (rEnt ρ p0) (ρ.1 7 + 1))) rfl oD hnp dP.2.2.1 ncP ht2 (w := w) (fun j hj => by show (upA ρ 2 0 n (-1)).2 3 0 _ < w; rw [upA_g, if_neg (by omega)]; exact hlt j hj) (fun z => by show w ≤ (upA ρ 2 0 n (-1)).2 3 0 _; rw [upA_g, if_neg (by omega)]; exact hge z) (by omega) (by omega) g42
  have dir := hTr.2.2.2.2.1 p hp2 (by rw [hpk]; decide)
  rcases V_child (L := L) (xs := xs) hH 7 oD dir.2.2.1 (w := w) (by omega) (by omega) with ⟨t', h1, h2, h3, wc⟩ | ⟨h1, wc⟩
  · have oC := (dir.2.2.1.2 t' h1).1
    have e9 : ad p t' = a' := by
      have e8 := dir.2.2.2 t' h1
      rw [hq t' h1 h2, hN.1] at e8
      cases e8
      rfl
    rw [e9] at wc
    refine w_aload_n rfl rfl ?_
    refine w_getfield rfl (VH_at hH oV (by decide) (by decide) (by decide)) rfl ?_
    rw [v0]
    refine w_iload_n rfl rfl ?_
    refine w_cvV rfl (by decide) (by first | omega | (simp only [Int.toNat_natCast, upF_2] at *; omega)) rfl (VH_at hH oT (by decide) (by decide) (by decide)) mt_17 (Nat.le_of_ble_eq_true rfl) (Nat.le_of_ble_eq_true rfl) wn ?_
    refine w_astore rfl (by decide) ?_
    refine w_aload_n rfl rfl ?_
    refine w_getfield rfl (VH_at hH oV (by decide) (by decide) (by decide)) rfl ?_
    rw [v0]
    refine w_iload_n rfl rfl ?_
    refine w_cvV rfl (by decide) (by first | omega | (simp only [Int.toNat_natCast, upF_2] at *; omega)) rfl (VH_at hH oT (by decide) (by decide) (by decide)) mt_16 (Nat.le_of_ble_eq_true rfl) (Nat.le_of_ble_eq_true rfl) wd ?_
    refine w_astore rfl (by decide) ?_
    refine w_aload rfl rfl ?_
    refine w_ifnull_r rfl ?_
    refine w_aload rfl rfl ?_
    refine w_cvV rfl (by decide) (by first | omega | (simp only [Int.toNat_natCast, upF_2] at *; omega)) rfl (VH_at hH oX (by decide) (by decide) (by decide)) mt_34 (Nat.le_of_ble_eq_true rfl) (Nat.le_of_ble_eq_true rfl) wr ?_
    refine w_ifne_f rfl (by omega) (by omega) (by first | omega | (simp only [Int.toNat_natCast, upF_2] at *; omega)) ?_
    refine w_aload rfl rfl ?_
    refine w_ifnull_r rfl ?_
    refine w_iload_n rfl rfl ?_
    refine w_csV rfl (by decide) (by first | omega | (simp only [Int.toNat_natCast, upF_2] at *; omega)) rfl mt_19 (Nat.le_of_ble_eq_true rfl) (Nat.le_of_ble_eq_true rfl) (k_isM1 _ (by omega) (by omega)) ?_
    refine w_ifne_t rfl (by omega) (by omega) (by first | omega | (simp only [Int.toNat_natCast, upF_2] at *; omega)) ?_
    refine w_aload rfl rfl ?_
    refine w_iload_n rfl rfl ?_
    refine w_cvV rfl (by decide) (by first | omega | (simp only [Int.toNat_natCast, upF_2] at *; omega)) rfl (VH_at hH oD (by decide) (by decide) (by decide)) mt_20 (Nat.le_of_ble_eq_true rfl) (Nat.le_of_ble_eq_true rfl) wc ?_
    refine w_astore rfl (by decide) ?_
    refine w_aload rfl rfl ?_
    refine w_ifnull_r rfl ?_
    refine w_aload rfl rfl ?_
    refine w_aload rfl rfl ?_
    refine w_aceq (x := some a') (y := some a') rfl (fun z9 => ?_) (fun z9 => ?_)
    · refine w_aload rfl rfl ?_
      refine w_aload rfl rfl ?_
      refine w_cvV rfl (by decide) (by first | omega | (simp only [Int.toNat_natCast, upF_2] at *; omega)) rfl (VH_at hH oD (by decide) (by decide) (by decide)) mt_35 (Nat.le_of_ble_eq_true rfl) (Nat.le_of_ble_eq_true rfl) wa ?_
      refine w_ifeq_t rfl (by omega) (by omega) (by first | omega | (simp only [Int.toNat_natCast, upF_2] at *; omega)) ?_
      refine w_aload_n rfl rfl ?_
      refine w_getfield rfl (VH_at hH oV (by decide) (by decide) (by decide)) rfl ?_
      rw [v0]
      refine w_aload rfl rfl ?_
      refine w_aload rfl rfl ?_
      refine w_iload_n rfl rfl ?_
      refine w_cv rfl (by decide) (by first | omega | (simp only [Int.toNat_natCast, upF_2] at *; omega)) rfl (VH_at hH oT (by decide) (by decide) (by decide)) mt_36 (Nat.le_of_ble_eq_true rfl) (Nat.le_of_ble_eq_true rfl) wh ?_
      rintro _ _ ⟨rfl, eH, hH⟩
      refine ⟨none, rfl, ?_⟩
      refine w_return rfl rfl ?_
      exact ⟨rfl, hH⟩
    · exact absurd rfl z9
      
  · refine w_aload_n rfl rfl ?_
    refine w_getfield rfl (VH_at hH oV (by decide) (by decide) (by decide)) rfl ?_
    rw [v0]
    refine w_iload_n rfl rfl ?_
    refine w_cvV rfl (by decide) (by first | omega | (simp only [Int.toNat_natCast, upF_2] at *; omega)) rfl (VH_at hH oT (by decide) (by decide) (by decide)) mt_17 (Nat.le_of_ble_eq_true rfl) (Nat.le_of_ble_eq_true rfl) wn ?_
    refine w_astore rfl (by decide) ?_
    refine w_aload_n rfl rfl ?_
    refine w_getfield rfl (VH_at hH oV (by decide) (by decide) (by decide)) rfl ?_
    rw [v0]
    refine w_iload_n rfl rfl ?_
    refine w_cvV rfl (by decide) (by first | omega | (simp only [Int.toNat_natCast, upF_2] at *; omega)) rfl (VH_at hH oT (by decide) (by decide) (by decide)) mt_16 (Nat.le_of_ble_eq_true rfl) (Nat.le_of_ble_eq_true rfl) wd ?_
    refine w_astore rfl (by decide) ?_
    refine w_aload rfl rfl ?_
    refine w_ifnull_r rfl ?_
    refine w_aload rfl rfl ?_
    refine w_cvV rfl (by decide) (by first | omega | (simp only [Int.toNat_natCast, upF_2] at *; omega)) rfl (VH_at hH oX (by decide) (by decide) (by decide)) mt_34 (Nat.le_of_ble_eq_true rfl) (Nat.le_of_ble_eq_true rfl) wr ?_
    refine w_ifne_f rfl (by omega) (by omega) (by first | omega | (simp only [Int.toNat_natCast, upF_2] at *; omega)) ?_
    refine w_aload rfl rfl ?_
    refine w_ifnull_r rfl ?_
    refine w_iload_n rfl rfl ?_
    refine w_csV rfl (by decide) (by first | omega | (simp only [Int.toNat_natCast, upF_2] at *; omega)) rfl mt_19 (Nat.le_of_ble_eq_true rfl) (Nat.le_of_ble_eq_true rfl) (k_isM1 _ (by omega) (by omega)) ?_
    refine w_ifne_t rfl (by omega) (by omega) (by first | omega | (simp only [Int.toNat_natCast, upF_2] at *; omega)) ?_
    refine w_aload rfl rfl ?_
    refine w_iload_n rfl rfl ?_
    refine w_cvV rfl (by decide) (by first | omega | (simp only [Int.toNat_natCast, upF_2] at *; omega)) rfl (VH_at hH oD (by decide) (by decide) (by decide)) mt_20 (Nat.le_of_ble_eq_true rfl) (Nat.le_of_ble_eq_true rfl) wc ?_
    refine w_astoreQ (x := none) rfl (by decide) ?_
    refine w_aloadQ (x := none) rfl rfl ?_
    refine w_ifnull_n rfl ?_
    refine w_aload rfl rfl ?_
    refine w_aload rfl rfl ?_
    refine w_cvV rfl (by decide) (by first | omega | (simp only [Int.toNat_natCast, upF_2] at *; omega)) rfl (VH_at hH oD (by decide) (by decide) (by decide)) mt_35 (Nat.le_of_ble_eq_true rfl) (Nat.le_of_ble_eq_true rfl) wa ?_
    refine w_ifeq_t rfl (by omega) (by omega) (by first | omega | (simp only [Int.toNat_natCast, upF_2] at *; omega)) ?_
    refine w_aload_n rfl rfl ?_
    refine w_getfield rfl (VH_at hH oV (by decide) (by decide) (by decide)) rfl ?_
    rw [v0]
    refine w_aload rfl rfl ?_
    refine w_aload rfl rfl ?_
    refine w_iload_n rfl rfl ?_
    refine w_cv rfl (by decide) (by first | omega | (simp only [Int.toNat_natCast, upF_2] at *; omega)) rfl (VH_at hH oT (by decide) (by decide) (by decide)) mt_36 (Nat.le_of_ble_eq_true rfl) (Nat.le_of_ble_eq_true rfl) wh ?_
    rintro _ _ ⟨rfl, eH, hH⟩
    refine ⟨none, rfl, ?_⟩
    refine w_return rfl rfl ?_
    exact ⟨rfl, hH⟩
end Tmw
theorem rMv_g {ρ : RS} (hg : Rg ρ) {n p : Nat} {w : Int} (hp : p < 256) (w1 : 1 ≤ w) (w2 : w ≤ 30000) (t0 : 0 ≤ ρ.1 7) (t1 : ρ.1 7 ≤ 100000) : Rg (rMove ρ n p w) := by
  unfold rMove
  exact ((((((hg.upF 0 (by omega) (by omega)).upF 7 (by omega) (by omega)).upA 5 0 _ (by omega) (by omega)).upA 5 0 _ (by omega) (by omega)).upA 5 0 _ (by omega) (by omega)).upA 2 0 n (by omega) (by omega)).upA 3 0 n (by omega) (by omega)
section Jmv
variable {L : Nat} {xs : Nat → Int32} {b m0 A0 tm nc ns : Nat} {ρ : RS} {of : Nat → Value} {H : AH}
set_option maxHeartbeats 1000000 in
theorem J_move (hI : Iv b m0 A0 tm nc ns ρ of H) (hb : b < m0) (htm : tm ≤ 1000) {n p w : Int} (n1 : -2147483648 ≤ n) (n2 : n ≤ 2147483647) (p1 : -2147483648 ≤ p) (p2 : p ≤ 2147483647) (w1 : -2147483648 ≤ w) (w2 : w ≤ 2147483647) : JN b m0 A0 tm nc ns L xs H mi_32 mi_119 [.ref A0, vI n, vI p, vI w] [.ref m0, vI n, vI p, vI w] := by
  obtain ⟨A, c, g, na, cs, ad, qs, oc, dt, da, cn, bl, E, fa, ms, lo, Y, rfl, hI⟩ := hI
  obtain ⟨fs, ho⟩ := IW_ob hI
  have hI0 := hI
  obtain ⟨hH, hZ, hga, hgo, hSI, hTr, hTF, hAU, hHI, hRI, hRQ⟩ := hI
  obtain ⟨oV, oT, oN, oR, oDs, hQI, v0, v1x, v2x, v3, v4, vT, vw0, vw1, nNb, nDb⟩ := hSI
  obtain ⟨rg, hEn, r16, rE, c8a, c8b, c9a, c9b, r27a, r27b, r28a, r28b, r29a, r29b, t7a, t7b, z46, z47, sp30, sp31, z42⟩ := hRI
  by_cases h1 : (1 ≤ n ∧ n < 256 ∧ ρ.2 1 0 n.toNat ≠ 0) ∧ (0 ≤ p ∧ p < 256 ∧ ρ.2 1 0 p.toNat = 2) ∧ 1 ≤ w ∧ w ≤ 30000
  rotate_left
  · have hcl : ¬ (1 ≤ n ∧ n < 256 ∧ ρ.2 1 0 n.toNat ≠ 0) ∨ ¬ (0 ≤ p ∧ p < 256 ∧ ρ.2 1 0 p.toNat = 2) ∨ ¬ (1 ≤ w ∧ w ≤ 30000) := by
      by_cases z1 : 1 ≤ n ∧ n < 256 ∧ ρ.2 1 0 n.toNat ≠ 0
      · by_cases z2 : 0 ≤ p ∧ p < 256 ∧ ρ.2 1 0 p.toNat = 2
        · exact Or.inr (Or.inr (fun z3 => h1 ⟨z1, z2, z3⟩))
        · exact Or.inr (Or.inl z2)
      · exact Or.inl z1
    exact J_errN hI0 (k := 1) (by decide) (by decide) (hE_move_0 9 (by decide) ho (T_move_1 hI0 n1 n2 p1 p2 w1 w2 hcl)) (fun h => r_move_1 hb rg 9 (by decide) n1 n2 p1 p2 w1 w2 (by
      rcases hcl with z | z | z
      · exact Or.inl z
      · exact Or.inr (Or.inl z)
      · exact Or.inr (Or.inr (by omega))))
  obtain ⟨hnn, hpp, g4, g5⟩ := h1
  obtain ⟨n, rfl⟩ : ∃ m : Nat, n = m := ⟨n.toNat, by omega⟩
  obtain ⟨p, rfl⟩ : ∃ m : Nat, p = m := ⟨p.toNat, by omega⟩
  have hn : n < 256 := by omega
  have hn1 : 1 ≤ n := by omega
  have hp2 : p < 256 := by omega
  have hk : ρ.2 1 0 n ≠ 0 := by have := hnn.2.2; rwa [Int.toNat_natCast] at this
  have hpk : ρ.2 1 0 p = 2 := by have := hpp.2.2; rwa [Int.toNat_natCast] at this
  obtain ⟨a, hN⟩ := na_ne hTr hn hk
  obtain ⟨hp, hNp⟩ := na_ne hTr hp2 (by rw [hpk]; decide)
  have dir := hTr.2.2.2.2.1 p hp2 (by rw [hpk]; decide)
  have tn := hTr.2.1 n hn
  by_cases h2 : ∃ t, t < qs p ∧ ρ.2 3 0 (cs p t) = w ∧ cs p t ≠ n
  · obtain ⟨t, ht, hte, hne⟩ := h2
    have nm := named_p dir.1 ht hte
    exact J_errN hI0 (k := 2) (by decide) (by decide) (hE_move_1 9 (by decide) ho (T_move_2 hI0 hn hn1 hN hp2 hpk hNp g4 g5 ht hte hne)) (fun h => r_move_2 hb rg 9 (by decide) n1 n2 p1 p2 w1 w2 hnn hpp g4 g5 (by rw [nm]; omega) (by rw [nm]; omega))
  have hq : ∀ j, j < qs p → ρ.2 3 0 (cs p j) = w → cs p j = n := fun j hj hw => by
    by_cases e : cs p j = n
    · exact e
    · exact absurd ⟨j, hj, hw, e⟩ h2
  have q3 : rNamed ρ p w < 0 ∨ rNamed ρ p w = n := by
    by_cases z : ∃ t, t < qs p ∧ ρ.2 3 0 (cs p t) = w
    · obtain ⟨t, ht, hte⟩ := z
      right
      rw [named_p dir.1 ht hte, hq t ht hte]
    · left
      rw [named_n dir.1 (fun j hj y => z ⟨j, hj, y⟩)]
      decide
  obtain ⟨t3, s1, s2⟩ := path_at hAU hp2 (by rw [hpk]; decide) n
  have inn : ∀ s, 0 ≤ upN ρ s (p : Int) ∧ upN ρ s (p : Int) < 256 ∧ ρ.2 1 0 (upN ρ s (p : Int)).toNat ≠ 0 := fun s => upN_in hTr.2.1 (Tr_pr hTr) s p (by omega) (by omega) (by rw [Int.toNat_natCast, hpk]; decide)
  have s3 : ∀ s, s < t3 → 0 < upN ρ s (p : Int) ∧ upN ρ s (p : Int) < 256 ∧ upN ρ s (p : Int) ≠ n := fun s hs => by
    have := inn s
    have := s1 s hs
    omega
  rcases s2 with s2 | ⟨s2, s4⟩
  · exact J_errN hI0 (k := 3) (by decide) (by decide) (hE_move_3 9 (by decide) ho (T_move_3 hI0 hn hn1 hN hp2 hpk hNp g4 g5 hq s1 s2)) (fun h => r_move_3 hb rg 9 (by decide) n1 n2 p1 p2 w1 w2 hnn hpp g4 g5 q3 s3 s2)
  have hnp : n ≠ p := fun z => by
    rcases Nat.eq_zero_or_pos t3 with y | y
    · subst y
      have s4 : (p : Int) = 0 := s4
      omega
    · exact (s1 0 y).2 (by show (p : Int) = n; omega)
  obtain ⟨p0, t, hp0, hp02, hp0k, ht, hc, hta, hne⟩ := ch_at hI0 hn hn1 hN
  obtain ⟨t2, u1, u2, u3⟩ := ins_at (nm := fun j => ρ.2 3 0 ((setF cs p0 (delN (cs p0) t)) p j)) w ((setF qs p0 (qs p0 - 1)) p)
  have st1 := Tr_move1 hTr hAU hn1 hn hk hp0 ht hc p hp2 (by rw [hpk]; decide)
  have hne2 : ∀ j, j < (setF qs p0 (qs p0 - 1)) p → ρ.2 3 0 ((setF cs p0 (delN (cs p0) t)) p j) ≠ w := fun j hj z => by
    obtain ⟨k1, k2, k3, k4⟩ := st1.1.1.1 j hj
    have nz := st1.2 j hj
    rw [upA_g, if_neg (by omega)] at k3
    rw [upA_g, if_neg (fun y => nz y.2.2)] at k4
    obtain ⟨i, hi, hie⟩ := dir.1.2.2.1 _ k1 k2 k3 k4
    rw [hie] at z nz
    exact nz (hq i hi z)
  have hsn : ∀ s, s < t3 → (upN ρ s (p : Int)).toNat ≠ n := fun s hs z => by
    have := s3 s hs
    omega
  have tr := Tr_move hTr hAU hTF hn1 hn hk hp0 ht hc hp2 hpk hN.1 hNp.1 g4 g5 hne2 u1 u2 u3 hsn s4 t7a (by omega)
  have own : (rhC (tkC (upC c 1 0 2 (vI (ρ.1 7 + 1))) p0 t (cs p0) (va_rf (ptr (ad p0) (t + 1) (qs p0))) (rEnt ρ p0) (ρ.1 7 + 1)) n p a hp w (ρ.1 7 + 1) t2 ((setF cs p0 (delN (cs p0) t)) p) (va_rf (ptr ((setF ad p0 (delN (ad p0) t)) p) t2 ((setF qs p0 (qs p0 - 1)) p))) ((setF qs p0 (qs p0 - 1)) p : Nat)).1 = c.1 := by rw [rhC_1, tkC_1]; rfl
  refine J_treeN hI0 (c' := (rhC (tkC (upC c 1 0 2 (vI (ρ.1 7 + 1))) p0 t (cs p0) (va_rf (ptr (ad p0) (t + 1) (qs p0))) (rEnt ρ p0) (ρ.1 7 + 1)) n p a hp w (ρ.1 7 + 1) t2 ((setF cs p0 (delN (cs p0) t)) p) (va_rf (ptr ((setF ad p0 (delN (ad p0) t)) p) t2 ((setF qs p0 (qs p0 - 1)) p))) ((setF qs p0 (qs p0 - 1)) p : Nat))) (ρ' := rMove ρ n p w) (nc' := nc) (ns' := ns) (by omega) (by omega) (fun x q hx => hZ x q (by rw [own] at hx; exact hx)) (fun x k i _ _ hx => by rw [own]; exact hx) (fun x e hx => by rw [own] at hx; exact hx) (fun k i f k1 k2 k3 k4 => by rw [rhC_k k1, tkC_k k1, upC_ne (by omega)]) (by rw [rhC_k (by decide), tkC_k (by decide), upC_ne (by omega)]) (fun j r i hj => rMv_o ρ n p w r i (by omega) (by omega) (by omega)) (fun i i1 i2 => by rw [rMv_F, if_neg i2, if_neg i1]) (rMv_g rg hp2 g4 g5 t7a (by omega)) (by rw [rMv_F, if_pos rfl]) (by rw [rMv_F, if_neg (by decide), if_pos rfl]) tr.1 tr.2.2 tr.2.1 (hN_move 9 (by decide) ho (T_move hI0 hn hn1 hN hp2 hpk hNp g4 g5 hq s1 s4 hp0 hp02 hp0k ht hc hta hne u1 u2 u3 hnp)) (fun h => ?_)
  have := r_move (L := L) (xs := xs) (h := h) hb rg 9 (by decide) n1 n2 p1 p2 w1 w2 hnn hpp g4 g5 q3 s3 s4 (by rw [Int.toNat_natCast]; omega) (by rw [Int.toNat_natCast]; omega)
  rw [Int.toNat_natCast, Int.toNat_natCast] at this
  exact this
end Jmv
