/-! dump, both together -/
def nxA (E a : Nat) (f : Nat → Nat) : Nat → Nat := fun e => if e = E then a else f e
theorem nxA_e (E a : Nat) (f : Nat → Nat) : nxA E a f E = a := if_pos rfl
theorem nxA_n {E a e : Nat} {f : Nat → Nat} (h : e ≠ E) : nxA E a f e = f e := if_neg h
def dmG (c : CS) (ρ : RS) (a E : Nat) (l c0 : Int) (da cn : Nat → Nat) : CS := upC (upC (dmF c ρ a E l c0 da cn) 11 0 E (.ref a)) 0 0 5 (vI ((E : Int) + 1))
theorem XI_up {ρ : RS} {E : Nat} {fa ms lo : Nat → Int} {Y : YS} (h : XI ρ E fa ms lo Y) : XI ρ (E + 1) fa ms lo Y := by
  obtain ⟨hY, hX, hA⟩ := h
  refine ⟨hY, hX, fun n hn q hq => ?_⟩
  obtain ⟨e, m, he, r⟩ := hA n hn q hq
  exact ⟨e, m, by omega, r⟩
section Jdm
variable {L : Nat} {xs : Nat → Int32} {b m0 tm nc ns : Nat} {ρ : RS} {of : Nat → Value} {H : AH} {A : Nat → Nat} {c : CS} {g : Nat → Option AO} {na : Nat → Option Nat} {cs ad : Nat → Nat → Nat} {qs : Nat → Nat} {oc : Nat → Option Nat} {dt : Nat → Nat → Int} {da cn : Nat → Nat} {bl : Nat → Nat → Int} {E : Nat} {fa ms lo : Nat → Int} {Y : YS}
theorem IW_dump (hI : IW b m0 tm nc ns ρ of H A c g na cs ad qs oc dt da cn bl E fa ms lo Y) {ρ' : RS} {l c0 : Int} {a : Nat} {bl' : Nat → Nat → Int} {g1 : Nat → Option AO} {of' : Nat → Value} {nc' ns' : Nat} {H2 : AH} (hF : DF ρ ρ' l c0 E cs qs) (hE : E < 100) (l1 : 0 ≤ l) (l2 : l ≤ 9) (d1 : -1 ≤ c0) (d2 : c0 < E) (htm : tm ≤ 1000) (hx : ρ'.1 9 + pts (ρ'.1 9) (ρ'.1 8 - 1) ≤ 4000) (hK : KB ρ' (E + 1) bl') (fr : c.1 a = none) (frZ : Zr b m0 a) (hH2 : VH b (A 3) (Zr b m0) g1 (dmG c ρ a E l c0 da cn) nc' ns' (ρ.1 8).toNat (ρ'.1 9).toNat bl' (ρ.2 30 0) (ρ.2 31 0) H2) (hg1 : g1 (m0 + 1160) = some (.inl (.long, 1, of'))) : IW b m0 tm nc' ns' ρ' of' (RH m0 H2 ρ') A (dmG c ρ a E l c0 da cn) (gR g1 m0 ρ') na cs ad qs oc dt (nxA E a da) (nxA E (cnN c0 cn) cn) bl' (E + 1) fa ms lo Y := by
  have hI0 := hI
  obtain ⟨hH, hZ, hga, hgo, hSI, hTr, hTF, hAU, hHI, hRI, hRQ⟩ := hI
  obtain ⟨oV, oT, oN, oR, oDs, hQI, v0, v1, v2, v3, v4, vT, vw0, vw1, nNb, nDb⟩ := hSI
  obtain ⟨rg, hEn, r16, rE, c8a, c8b, c9a, c9b, r27a, r27b, r28a, r28b, r29a, r29b, t7a, t7b, z46, z47, sp30, sp31, z42⟩ := hRI
  obtain ⟨h1, h2, h3, h4, h5, h6, h7, h8⟩ := hHI
  have hT := hTr.2.1
  have hB0 := dB_ok hT c0
  have hq : ∀ n, n < 256 → ρ.2 1 0 n ≠ 0 → rEnt ρ n = qs n := fun n hn hk => (hTr.2.2.2.2.1 n hn hk).2.1
  have hS := DF_old hF h8
  have f4 := hF.2.2.2.1
  have f3 := hF.2.2.1
  have hP : 0 ≤ pts (ρ'.1 9) (ρ'.1 8 - 1) := Int.ediv_nonneg (by rw [f3 8 (by decide) (by decide) (by decide) (by decide) (by decide) (by decide)]; omega) (by rw [f3 8 (by decide) (by decide) (by decide) (by decide) (by decide) (by decide)]; omega)
  have hx4 : ρ'.1 9 ≤ 4000 := by omega
  have hdd := DF_dump hF hT hq hx4 c9a r27a r27b l1 l2 t7a (by omega) d1 d2
  have hRB := DF_RB hF hT hq hx4 r27a h8
  obtain ⟨f1, f2, f3, ⟨f40, f49, f416, f427⟩, ⟨⟨f5a, f5b⟩, f5c, f5d⟩, f6, f7, f8, ⟨w1, w2, w3, w4, w5, w6, w7⟩, f10, ⟨o1, o2, o3⟩, f12⟩ := hF
  have own : ∀ x q, c.1 x = some q → (dmG c ρ a E l c0 da cn).1 x = some q := fun x q hx => by
    show (if x = a then some (14, E) else c.1 x) = _
    rw [if_neg (fun z => by rw [z, fr] at hx; cases hx)]
    exact hx
  have ow2 : ∀ x q, (dmG c ρ a E l c0 da cn).1 x = some q → (x = a ∧ q = (14, E)) ∨ c.1 x = some q := fun x q hx => by
    have hx : (if x = a then some (14, E) else c.1 x) = some q := hx
    by_cases e : x = a
    · rw [if_pos e] at hx
      cases hx
      exact Or.inl ⟨e, rfl⟩
    · rw [if_neg e] at hx
      exact Or.inr hx
  have val : ∀ k i f, ¬ (k = 14 ∧ i = E) → ¬ (k = 11 ∧ i = 0 ∧ f = E) → ¬ (k = 0 ∧ i = 0 ∧ f = 5) → (dmG c ρ a E l c0 da cn).2.1 k i f = c.2.1 k i f := fun k i f g1 g2 g3 => by
    unfold dmG dmF
    rw [upC_ne g3, upC_ne g2, dmC_k g1]
  have hZ' : CZ (Zr b m0) (dmG c ρ a E l c0 da cn) := fun x q hx => by
    rcases ow2 x q hx with ⟨z, -⟩ | z
    · rw [z]; exact frZ
    · exact hZ x q z
  have hHo : ∀ e, e < E → DmIs (dmG c ρ a E l c0 da cn) ρ' da cn e := fun e he => DmIs_o hS he (fun f => val 14 e f (by omega) (by omega) (by omega)) (fun x hx => own x _ hx) (h4 e he)
  have hDO := DumpsOk_o hS h5 h8
  have hbb : ∀ e, e < E → ρ.2 12 0 e < e := fun e he => (DK h5 he).1
  have chn : ∀ e, e < E → (∀ s, s < cn e → 0 ≤ bsN ρ' s e) ∧ bsN ρ' (cn e) e < 0 := fun e he => by
    obtain ⟨c1, c2, c3, c4⟩ := h6 e he
    refine ⟨fun s hs => ?_, ?_⟩
    · rw [bsN_o hS hbb s e (by omega) (fun i hi => c3 i (by omega))]
      exact c3 s hs
    · rw [bsN_o hS hbb (cn e) e (by omega) c3]
      exact c4
  have e8 : ρ'.1 8 = ρ.1 8 := f3 8 (by decide) (by decide) (by decide) (by decide) (by decide) (by decide)
  have e7 : ρ'.1 7 = ρ.1 7 := f3 7 (by decide) (by decide) (by decide) (by decide) (by decide) (by decide)
  have e42 : ρ'.1 42 = ρ.1 42 := f3 42 (by decide) (by decide) (by decide) (by decide) (by decide) (by decide)
  have e30 : ρ'.2 30 0 = ρ.2 30 0 := funext fun i => f6 30 0 i (by decide)
  have e31 : ρ'.2 31 0 = ρ.2 31 0 := funext fun i => f6 31 0 i (by decide)
  refine ⟨?_, hZ', fun a h1 h2 => if_pos ⟨h1, h2⟩, ?_, ?_, Tr_c hTr (fun x k i _ hx => own _ _ hx) (fun f => val _ _ _ (by omega) (by omega) (by omega)) (fun f => val _ _ _ (by omega) (by omega) (by omega)) (fun m f => val _ _ _ (by omega) (by omega) (by omega)) (fun m f => val _ _ _ (by omega) (by omega) (by omega)) (fun j r i hj => f6 j r i (by omega)) e7, ?_, ?_, ?_, ?_, ?_⟩
  · rw [e8, e30, e31]
    exact VH_ref ρ' hH2 hZ'
  · show (if m0 ≤ m0 + 1160 ∧ m0 + 1160 < m0 + 1160 then _ else g1 (m0 + 1160)) = _
    rw [if_neg (by omega)]
    exact hg1
  · exact SI_c hI0.2.2.2.2.1 (fun x k _ _ _ hx => own _ _ hx) (fun k f k1 k2 k3 k4 k5 k6 k7 k8 k9 k10 k11 => val k 0 f (by omega) (by omega) (by omega)) (val _ _ _ (by omega) (by omega) (by omega))
  · refine ⟨fun n hn hk x hx => ?_, fun n hn hk x hx => ?_⟩
    · rw [f6 1 0 n (by decide)] at hk
      rcases ow2 x _ hx with ⟨-, z⟩ | z
      · cases z
      · exact hTF.1 n hn hk x z
    · rw [f6 1 0 n (by decide)] at hk
      rcases ow2 x _ hx with ⟨-, z⟩ | z
      · cases z
      · exact hTF.2 n hn hk x z
  · intro n hn hk
    rw [f6 1 0 n (by decide)] at hk
    obtain ⟨t, ht⟩ := hAU n hn hk
    exact ⟨t, by rw [upN_2 (ρ := ρ) (ρ' := ρ') (fun m => f6 2 0 m (by decide))]; exact ht⟩
  · refine ⟨?_, fun e he => ?_, fun e he x hx => ?_, fun e he => ?_, fun e he => ?_, fun e he => ?_, hK, hRB⟩
    · unfold dmG
      rw [upC_eq]
      rfl
    · by_cases q : e = E
      · rw [if_pos (by omega), q, nxA_e]
        unfold dmG
        rw [upC_ne (by omega), upC_eq]
        rfl
      · rw [val _ _ _ (by omega) (by omega) (by omega), h2 e he, nxA_n q]
        by_cases z : e < E
        · rw [if_pos z, if_pos (by omega)]
        · rw [if_neg z, if_neg (by omega)]
    · rcases ow2 x _ hx with ⟨-, z⟩ | z
      · have : e = E := congrArg Prod.snd z
        omega
      · exact h3 e (by omega) x z
    · by_cases q : e = E
      · subst q
        obtain ⟨x0, x1, x2, x3, x4, x5, x6, x7⟩ : (dmF c ρ a e l c0 da cn).2.1 14 e 0 = vI e ∧ (dmF c ρ a e l c0 da cn).2.1 14 e 1 = vI l ∧ (dmF c ρ a e l c0 da cn).2.1 14 e 2 = vI (ρ.1 7) ∧ (dmF c ρ a e l c0 da cn).2.1 14 e 3 = boV c0 da ∧ (dmF c ρ a e l c0 da cn).2.1 14 e 4 = vI (cnN c0 cn : Nat) ∧ (dmF c ρ a e l c0 da cn).2.1 14 e 5 = vI (dMany ρ c0 : Nat) ∧ (dmF c ρ a e l c0 da cn).2.1 14 e 6 = vI (ρ.1 9) ∧ (dmF c ρ a e l c0 da cn).2.1 14 e 7 = vI (dBlocks ρ c0) := dmC_f
        have y : ∀ f, (dmG c ρ a e l c0 da cn).2.1 14 e f = (dmF c ρ a e l c0 da cn).2.1 14 e f := fun f => by
          unfold dmG
          rw [upC_ne (by omega), upC_ne (by omega)]
        unfold DmIs
        rw [nxA_e, nxA_e, y, y, y, y, y, y, y, y, x0, x1, x2, x3, x4, x5, x6, x7, w1, w2, w3, w4, w5, w6, w7]
        refine ⟨if_pos rfl, rfl, rfl, rfl, ?_, rfl, ?_, rfl, ?_⟩
        · unfold boV
          by_cases z : c0 < 0
          · rw [if_pos z, if_pos z]
          · rw [if_neg z, if_neg z, nxA_n (by omega)]
        · rw [show ρ.1 27 + (dMany ρ c0 : Int) - ρ.1 27 = (dMany ρ c0 : Int) by omega]
        · rw [show ρ.1 9 + dBlocks ρ c0 - ρ.1 9 = dBlocks ρ c0 by omega]
      · have he' : e < E := by omega
        obtain ⟨z0, z1, z2, z3, z4, z5, z6, z7, z8⟩ := hHo e he'
        have hb1 : ρ'.2 12 0 e < e := (hDO e he').1.2.2.2.2.2.1
        refine ⟨by rw [nxA_n q]; exact z0, z1, z2, z3, ?_, by rw [nxA_n q]; exact z5, z6, z7, z8⟩
        rw [z4]
        by_cases z : ρ'.2 12 0 e < 0
        · rw [if_pos z, if_pos z]
        · rw [if_neg z, if_neg z, nxA_n (by omega)]
    · by_cases q : e = E
      · rw [q]; exact hdd.1
      · exact hDO e (by omega)
    · by_cases q : e = E
      · rw [q, nxA_e]
        have bs : ∀ s, bsN ρ' (s + 1) E = bsN ρ' s c0 := fun s => by
          show bsN ρ' s (ρ'.2 12 0 (E : Int).toNat) = _
          rw [Int.toNat_natCast, w3]
        unfold cnN
        by_cases z : c0 < 0
        · rw [if_pos z]
          refine ⟨Nat.le_refl _, by omega, fun s hs => ?_, ?_⟩
          · obtain rfl : s = 0 := by omega
            show (0 : Int) ≤ (E : Int)
            omega
          · rw [bs 0]
            exact z
        · rw [if_neg z]
          obtain ⟨c1, c2, c3, c4⟩ := h6 c0.toNat (by omega)
          have hcc := chn c0.toNat (by omega)
          rw [Int.toNat_of_nonneg (by omega)] at hcc
          refine ⟨by omega, by omega, fun s hs => ?_, ?_⟩
          · rcases s with - | s
            · show (0 : Int) ≤ (E : Int)
              omega
            · rw [bs s]
              exact hcc.1 s (by omega)
          · rw [bs]
            exact hcc.2
      · have he' : e < E := by omega
        obtain ⟨c1, c2, c3, c4⟩ := h6 e he'
        rw [nxA_n q]
        exact ⟨c1, c2, chn e he'⟩
  · refine ⟨f1, f2, by rw [f416]; rfl, by omega, by omega, by omega, by omega, hx, by omega, hdd.2.2, by omega, f5b, by omega, f5d, by omega, by omega, fun i hi => by rw [f6 46 0 i (by decide)]; exact z46 i hi, by rw [f3 47 (by decide) (by decide) (by decide) (by decide) (by decide) (by decide)]; exact z47, fun i => by rw [f6 30 0 i (by decide)]; exact sp30 i, fun i => by rw [f6 31 0 i (by decide)]; exact sp31 i, by rw [e42]; exact z42⟩
  · obtain ⟨q4, q5, q6, q7, q8, q9, q10, q11⟩ := hRQ
    refine ⟨?_, ?_, ?_, ?_, fun j => ?_, fun j => ?_, fun j => ?_, fun z => ?_⟩
    · rw [val _ _ _ (by omega) (by omega) (by omega), e42]; exact q4
    · rw [val _ _ _ (by omega) (by omega) (by omega), f3 43 (by decide) (by decide) (by decide) (by decide) (by decide) (by decide)]; exact q5
    · rw [val _ _ _ (by omega) (by omega) (by omega), f3 44 (by decide) (by decide) (by decide) (by decide) (by decide) (by decide)]; exact q6
    · rw [val _ _ _ (by omega) (by omega) (by omega), f3 45 (by decide) (by decide) (by decide) (by decide) (by decide) (by decide)]; exact q7
    · rw [val _ _ _ (by omega) (by omega) (by omega)]; exact q8 j
    · rw [val _ _ _ (by omega) (by omega) (by omega)]; exact q9 j
    · rw [val _ _ _ (by omega) (by omega) (by omega)]; exact q10 j
    · rw [e42] at z
      exact XI_up (XI_o hS h5 h8 (fun j r i g1 g2 => f6 j r i (by omega)) (q11 z))
end Jdm
section Jd2
variable {L : Nat} {xs : Nat → Int32} {b m0 A0 tm nc ns : Nat} {ρ : RS} {of : Nat → Value} {H : AH}
theorem J_dump (hI : Iv b m0 A0 tm nc ns ρ of H) (hb : b < m0) (htm : tm ≤ 1000) {l : Int} (l1 : -2147483648 ≤ l) (l2 : l ≤ 2147483647) : JV b m0 A0 tm nc ns L xs H mi_42 mi_122 [.ref A0, vI l, .ref (m0 + 1160)] [.ref m0, vI l] := by
  obtain ⟨A, c, g, na, cs, ad, qs, oc, dt, da, cn, bl, E, fa, ms, lo, Y, rfl, hI⟩ := hI
  obtain ⟨fs, ho⟩ := IW_ob hI
  have hX := IW_X hI
  have hI0 := hI
  obtain ⟨hH, hZ, hga, hgo, hSI, hTr, hTF, hAU, hHI, hRI, hRQ⟩ := hI
  obtain ⟨oV, oT, oN, oR, oDs, hQI, v0, v1, v2, v3, v4, vT, vw0, vw1, nNb, nDb⟩ := hSI
  obtain ⟨rg, hEn, r16, rE, c8a, c8b, c9a, c9b, r27a, r27b, r28a, r28b, r29a, r29b, t7a, t7b, z46, z47, sp30, sp31, z42⟩ := hRI
  by_cases q1 : l < 0 ∨ 9 < l
  · exact J_errV hI0 (k := 1) (by decide) (by decide) (hE_dump_0 9 (by decide) ho (T_dump_1 hI0 l1 l2 q1)) (fun h => r_dump_1 hb rg 9 (by decide) l1 l2 q1)
  have l3 : 0 ≤ l := by omega
  have l4 : l ≤ 9 := by omega
  obtain ⟨c0, hc0⟩ : ∃ c0, lsB ρ l 0 E (-1) = c0 := ⟨_, rfl⟩
  have lsk := lsB_ok (ρ := ρ) (l := l) E 0 (-1) (by omega) (by omega)
  rw [Nat.zero_add, hc0] at lsk
  have hT := hTr.2.1
  have hB := dB_ok hT c0
  have hP9 : 0 ≤ pts (ρ.1 9) (ρ.1 8 - 1) := Int.ediv_nonneg (by omega) (by omega)
  by_cases q2 : E = 100 ∨ 4000 < ρ.1 9 + dBlocks ρ c0 + pts (ρ.1 9 + dBlocks ρ c0) (ρ.1 8 - 1)
  · obtain ⟨h1, hv, hc⟩ := Wp_ex (T_dump_2 (L := L) (xs := xs) hI0 l3 l4 hc0 q2)
    refine ⟨2, 0, fun h => h = h1, by decide, by decide, Wp_im (fun h' o z => ⟨z.2, z.1⟩) (hE_dump_2 9 (by decide) (X := m0 + 1160) ho hc), fun h2 e => ?_⟩
    subst e
    rw [VH_RH hv hZ hga]
    refine ⟨⟨_, RH_obj⟩, ?_⟩
    refine Wp_im ?_ (r_dump_2 hb rg hT 9 (by decide) l3 l4 r16 rE hc0 c8a c8b c9a (by omega) q2)
    rintro _ _ ⟨rfl, rfl⟩
    exact ⟨rfl, _, _, ⟨_, _, _, _, _, _, _, _, _, _, _, _, _, _, _, _, _, rfl, IW_more (IW_0 hI0 (k := 2) (by decide) (by decide) hv hgo) (by omega) (by omega) (by omega)⟩, rfl, fun z => by omega⟩
  have hE : E < 100 := by omega
  have hx : ρ.1 9 + dBlocks ρ c0 + pts (ρ.1 9 + dBlocks ρ c0) (ρ.1 8 - 1) ≤ 4000 := by omega
  have hPx : 0 ≤ pts (ρ.1 9 + dBlocks ρ c0) (ρ.1 8 - 1) := Int.ediv_nonneg (by omega) (by omega)
  have hq : ∀ n, n < 256 → ρ.2 1 0 n ≠ 0 → Kids ρ n (cs n) (qs n) ∧ rEnt ρ n = qs n := fun n hn hk => ⟨(hTr.2.2.2.2.1 n hn hk).1, (hTr.2.2.2.2.1 n hn hk).2.1⟩
  obtain ⟨x, hxk⟩ := cnt_fn (chg ρ c0) 256
  have fr := (VH_fr hH).1 H.1 (Nat.le_refl _)
  have wt := T_dump_ok (L := L) (xs := xs) hI0 l3 l4 hc0 htm hE hx hxk
  have hZ1 : CZ (Zr b m0) (dmG c ρ H.1 E l c0 da cn) := fun x q hx => by
    have hx : (if x = H.1 then some (14, E) else c.1 x) = some q := hx
    by_cases e : x = H.1
    · rw [e]; exact fr.1
    · rw [if_neg e] at hx; exact hZ x q hx
  refine ⟨0, E, _, by decide, by decide, hV_dump 9 (by decide) (of := of) (v := (E : Int)) ho wt (fun h' hh => ?_), ?_⟩
  · obtain ⟨bl', hh, -⟩ := hh
    rw [VH_g (c := dmG c ρ H.1 E l c0 da cn) hh hZ1 (nZ b m0)]
    exact hgo
  · rintro h1' ⟨h', ⟨bl', hh, b0, b1, b2, b3, b4⟩, rfl⟩
    have hH2 := VH_out (c := dmG c ρ H.1 E l c0 da cn) hh hZ1 (nZ b m0) (.inl (.long, 1, updV of 0 (.long (Int32.ofInt (E : Int)).toInt64)))
    rw [VH_RH hH2 hZ1 (up_area hga _)]
    refine ⟨⟨_, RH_obj⟩, ?_⟩
    refine Wp_im ?_ (r_dump hb rg hEn hT 9 (by decide) l3 l4 r16 hE hc0 c8a c8b c9a hx r27a r27b r28a r28b r29a r29b t7a (by omega) (fun n hn hk => hq n hn (by omega)) (fun n hn hk => (hq n hn (by omega)).2))
    rintro _ _ ⟨rfl, τ, hτ, rfl⟩
    have hF := DF_of hT hE lsk.2 c9a (by omega) hτ
    have e8 := hF.2.2.1 8 (by decide) (by decide) (by decide) (by decide) (by decide) (by decide)
    have e9 := hF.2.2.2.1.2.1
    have hK := DF_KB hF hT (fun n hn hk => (hq n hn hk).2) (by rw [e9]; omega) c9a r27a hHI.2.2.2.2.1 hHI.2.2.2.2.2.2.2 hHI.2.2.2.2.2.2.1 hxk b0 b1 b2 b3 b4
    refine ⟨rfl, _, updV of 0 (.long (Int32.ofInt (E : Int)).toInt64), ⟨_, _, _, _, _, _, _, _, _, _, _, _, _, _, _, _, _, rfl, IW_more (IW_dump hI0 hF hE l3 l4 lsk.1 lsk.2 htm (by rw [e8, e9]; exact hx) hK fr.2 fr.1 (by rw [e9]; exact hH2) ?_) (by omega) (by omega) (by omega)⟩, hF.2.2.2.1.1, fun _ => rfl⟩
    show (if m0 + 1160 = m0 + 1160 then _ else _) = _
    rw [if_pos rfl]
end Jd2
