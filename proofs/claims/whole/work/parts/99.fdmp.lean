/-! dump: the class's rest -/
theorem Wp_ex {b L : Nat} {xs : Nat → Int32} {d : Nat} {M : MI} {pc : Nat} {lv : List (Option Value)} {st : List Value} {h : AH} {r : RO} {P : AH → Prop} (hc : Wp b L xs d M pc lv st h (fun h' o => o = r ∧ P h')) : ∃ h1, P h1 ∧ Wp b L xs d M pc lv st h (fun h' o => h' = h1 ∧ o = r) := by
  obtain ⟨n, h', o, e, h1, h2⟩ := hc
  exact ⟨h', h2, n, h', o, e, rfl, h1⟩
theorem VH_v {b V0 : Nat} {Z : Nat → Prop} {g : Nat → Option AO} {c c' : CS} {nc ns cap fi : Nat} {bl : Nat → Nat → Int} {sp ls : Nat → Int} {H : AH} (hH : VH b V0 Z g c nc ns cap fi bl sp ls H) (h1 : c'.1 = c.1) (h2 : c'.2.2 = c.2.2) (h3 : ∀ a k i, c.1 a = some (k, i) → c'.2.1 k i = c.2.1 k i) : VH b V0 Z g c' nc ns cap fi bl sp ls H := by
  obtain ⟨o, v, s⟩ := c
  obtain ⟨o', v', s'⟩ := c'
  obtain rfl : o' = o := h1
  obtain rfl : s' = s := h2
  obtain ⟨wr, W, S, ⟨h, W0, P0, len, rfl, hV, z, y⟩, hv⟩ := hH
  refine ⟨wr, W, S, ⟨h, W0, P0, len, ?_, hV, z, y⟩, hv⟩
  refine Prod.ext rfl (Prod.ext rfl (funext fun a => ?_))
  by_cases e1 : a = W0
  · rw [e1, CH_at (q := (4, 0)) (show (mkV (o', v, s') W0 P0 len cap wr fi W S).1 W0 = _ from if_pos rfl), CH_at (q := (4, 0)) (show (mkV (o', v', s') W0 P0 len cap wr fi W S).1 W0 = _ from if_pos rfl)]
    rfl
  by_cases e2 : a = P0
  · have hp : ∀ w, (mkV (o', w, s') W0 P0 len cap wr fi W S).1 P0 = some (5, 0) := fun w => by
      show (if P0 = W0 then _ else if P0 = P0 then _ else _) = _
      rw [if_neg (fun z => e1 (e2.trans z)), if_pos rfl]
    rw [e2, CH_at (q := (5, 0)) (hp v), CH_at (q := (5, 0)) (hp v')]
    rfl
  have ho : ∀ w, (mkV (o', w, s') W0 P0 len cap wr fi W S).1 a = o' a := fun w => mk_o e1 e2
  cases hc : o' a with
  | none => rw [CH_out ((ho v).trans hc), CH_out ((ho v').trans hc)]
  | some q =>
    obtain ⟨k, i⟩ := q
    rw [CH_at ((ho v).trans hc), CH_at ((ho v').trans hc)]
    have e : (mkV (o', v', s') W0 P0 len cap wr fi W S).2.1 k i = (mkV (o', v, s') W0 P0 len cap wr fi W S).2.1 k i := by
      unfold mkV
      dsimp only
      rw [show v' k i = v k i from h3 a k i hc]
    show some (ccv _ k ((mkV (o', v, s') W0 P0 len cap wr fi W S).2.1 k i)) = some (ccv _ k ((mkV (o', v', s') W0 P0 len cap wr fi W S).2.1 k i))
    rw [e]
    rfl
theorem wrO_pts {f cap : Nat} (hc : 4 ≤ cap) : (wrO cap f : Int) = f + pts f ((cap : Int) - 1) := by
  unfold wrO pts
  rw [Int.natCast_add, Int.natCast_ediv, show ((f + (cap - 1) - 1 : Nat) : Int) = (f : Int) + ((cap : Int) - 1) - 1 by omega, show ((cap - 1 : Nat) : Int) = (cap : Int) - 1 by omega]
theorem chS_chg {ρ : RS} {tb c0 : Int} {n : Nat} (hT : TreeOk ρ) (htb : tb = if c0 < 0 then -1 else ρ.2 11 0 c0.toNat) (hn : n < 256) : chS ρ tb n ↔ chg ρ c0 n := by
  have h5 := (hT n hn).2.2.2.2.2.2.2.1
  by_cases q : c0 < 0
  · rw [if_pos q] at htb
    exact ⟨fun h => ⟨h.1, Or.inl q⟩, fun h => ⟨h.1, by omega⟩⟩
  · rw [if_neg q] at htb
    exact ⟨fun h => ⟨h.1, Or.inr (by have := h.2; omega)⟩, fun h => ⟨h.1, by rcases h.2 with z | z <;> omega⟩⟩
def cnN (c0 : Int) (cn : Nat → Nat) : Nat := if c0 < 0 then 1 else cn c0.toNat + 1
def boV (c0 : Int) (da : Nat → Nat) : Value := va_rf (if c0 < 0 then none else some (da c0.toNat))
def dmF (c : CS) (ρ : RS) (a E : Nat) (l c0 : Int) (da cn : Nat → Nat) : CS := dmC c a E l (ρ.1 7) (boV c0 da) (cnN c0 cn : Nat) (dMany ρ c0 : Nat) (ρ.1 9) (dBlocks ρ c0)
section Vdn
variable {L : Nat} {xs : Nat → Int32} {b m0 tm nc ns : Nat} {ρ : RS} {of : Nat → Value} {H : AH} {A : Nat → Nat} {c : CS} {g : Nat → Option AO} {na : Nat → Option Nat} {cs ad : Nat → Nat → Nat} {qs : Nat → Nat} {oc : Nat → Option Nat} {dt : Nat → Nat → Int} {da cn : Nat → Nat} {bl : Nat → Nat → Int} {E : Nat} {fa ms lo : Nat → Int} {Y : YS}
theorem V_room {V0 cap fi : Nat} {Z : Nat → Prop} {sp ls : Nat → Int} (hH : VH b V0 Z g c nc ns cap fi bl sp ls H) (d : Nat) (hd : 1 ≤ d) {k : Nat} (hf : fi ≤ 4000) (hk : k ≤ 10000) : Wp b L xs d mi_53 0 (ent (mL mi_53) [.ref V0, vI k]) [] H (Rt H (vI (if (fi : Int) + k + pts ((fi : Int) + k) ((cap : Int) - 1) ≤ 4000 then 1 else 0))) := by
  obtain ⟨h, W0, P0, len, wr, W, S, rfl, hV, -⟩ := VV_len hH
  exact k_room d hd hV hf hk
theorem T_dump_b (hI : IW b m0 tm nc ns ρ of H A c g na cs ad qs oc dt da cn bl E fa ms lo Y) {l c0 : Int} (l1 : 0 ≤ l) (l2 : l ≤ 9) (hc0 : lsB ρ l 0 E (-1) = c0) {Q : AH → RO → Prop} (kk : ∀ H1, H1.1 = H.1 + 1 → VH b (A 3) (Zr b m0) g (dmF c ρ H.1 E l c0 da cn) (nc + 1) (ns + 8) (ρ.1 8).toNat (ρ.1 9).toNat bl (ρ.2 30 0) (ρ.2 31 0) H1 → Wp b L xs 8 mi_43 89 [some (.ref (A 0)), some (vI l), some (.ref H.1)] [] H1 Q) : Wp b L xs 8 mi_43 0 (ent (mL mi_43) [.ref (A 0), vI l]) [] H Q := by
  have hT := hI.2.2.2.2.2.1.2.1
  subst hc0
  obtain ⟨tb, htb⟩ : ∃ tb, tb = if lsB ρ l 0 E (-1) < 0 then -1 else ρ.2 11 0 (lsB ρ l 0 E (-1)).toNat := ⟨_, rfl⟩
  refine T_dump_89 (n := ((cnN (lsB ρ l 0 E (-1)) cn : Nat) : Int)) hI l1 l2 htb ?_ (fun H1 e1 hH1 => kk H1 e1 ?_)
  · unfold cnN
    by_cases q : lsB ρ l 0 E (-1) < 0
    · rw [if_pos q, if_pos q]; rfl
    · rw [if_neg q, if_neg q]; rfl
  · have e1 : cnt (chS ρ tb) 0 256 = dMany ρ (lsB ρ l 0 E (-1)) := cnt_congr 256 0 (fun n _ hn => chS_chg hT htb (by omega))
    have e2 : sm (chS ρ tb) (nb ρ) 0 256 = sm (chg ρ (lsB ρ l 0 E (-1))) (nb ρ) 0 256 := sm_congr 256 0 (fun n _ hn => ⟨chS_chg hT htb (by omega), rfl⟩)
    have e3 : dBlocks ρ (lsB ρ l 0 E (-1)) = 2 + pts (dMany ρ (lsB ρ l 0 E (-1)) : Nat) 31 + sm (chg ρ (lsB ρ l 0 E (-1))) (nb ρ) 0 256 := by
      unfold dBlocks
      omega
    rw [e1, e2, ← e3] at hH1
    exact hH1
theorem T_dump_2 (hI : IW b m0 tm nc ns ρ of H A c g na cs ad qs oc dt da cn bl E fa ms lo Y) {l c0 : Int} (l1 : 0 ≤ l) (l2 : l ≤ 9) (hc0 : lsB ρ l 0 E (-1) = c0) (hc : E = 100 ∨ 4000 < ρ.1 9 + dBlocks ρ c0 + pts (ρ.1 9 + dBlocks ρ c0) (ρ.1 8 - 1)) : Wp b L xs 8 mi_43 0 (ent (mL mi_43) [.ref (A 0), vI l]) [] H (fun h' o => o = .inr 2 ∧ VH b (A 3) (Zr b m0) g c (nc + 2) (ns + 14) (ρ.1 8).toNat (ρ.1 9).toNat bl (ρ.2 30 0) (ρ.2 31 0) h') := by
  refine T_dump_b hI l1 l2 hc0 (fun H1 eH1 hH1 => ?_)
  have hI0 := hI
  obtain ⟨hH, hZ, hga, hgo, hSI, hTr, hTF, hAU, hHI, hRI, hRQ⟩ := hI
  obtain ⟨oV, oT, oN, oR, oDs, hQI, v0, v1, v2, v3, v4, vT, vw0, vw1, nNb, nDb⟩ := hSI
  obtain ⟨rg, hEn, r16, rE, c8a, c8b, c9a, c9b, r27a, r27b, r28a, r28b, r29a, r29b, t7a, t7b, z46, z47, sp30, sp31, z42⟩ := hRI
  obtain ⟨h1, h2, h3, h4, h5, h6, h7, h8⟩ := hHI
  have hB := dB_ok hTr.2.1 c0
  have hP : 0 ≤ pts (ρ.1 9) (ρ.1 8 - 1) := Int.ediv_nonneg (by omega) (by omega)
  have fr := (VH_fr hH).1 H.1 (Nat.le_refl _)
  have oC : ∀ x q, c.1 x = some q → (dmF c ρ H.1 E l c0 da cn).1 x = some q := fun x q hx => by
    show (if x = H.1 then some (14, E) else c.1 x) = _
    rw [if_neg (fun z => by rw [z, fr.2] at hx; cases hx)]
    exact hx
  have oX : (dmF c ρ H.1 E l c0 da cn).1 H.1 = some (14, E) := if_pos rfl
  have vC : ∀ k i f, ¬ (k = 14 ∧ i = E) → (dmF c ρ H.1 E l c0 da cn).2.1 k i f = c.2.1 k i f := fun k i f h => dmC_k h
  have x7 : (dmF c ρ H.1 E l c0 da cn).2.1 14 E 7 = vI (dBlocks ρ c0) := dmC_f.2.2.2.2.2.2.2
  have hZ1 : CZ (Zr b m0) (dmF c ρ H.1 E l c0 da cn) := fun x q hx => by
    have hx : (if x = H.1 then some (14, E) else c.1 x) = some q := hx
    by_cases e : x = H.1
    · rw [e]; exact fr.1
    · rw [if_neg e] at hx; exact hZ x q hx
  have fin : VH b (A 3) (Zr b m0) g c (nc + 2) (ns + 14) (ρ.1 8).toNat (ρ.1 9).toNat bl (ρ.2 30 0) (ρ.2 31 0) (hskip H1 6) := by
    have hd := VH_drop (VH_skip hH1 6) hZ1 (fun q => decide (q = (14, E))) (by simp)
    refine VH_v hd ?_ rfl (fun a k i ha => ?_)
    · funext a
      show _ = (match (if a = H.1 then some (14, E) else c.1 a) with | some q => if decide (q = (14, E)) = true then none else some q | none => none)
      by_cases e : a = H.1
      · rw [if_pos e, e, fr.2]
        simp
      · rw [if_neg e]
        cases ha : c.1 a with
        | none => rfl
        | some q =>
          have : q ≠ (14, E) := fun z => h3 E (Nat.le_refl _) a (by rw [ha, z])
          simp [this]
    · obtain ⟨g1, g2⟩ := dpP_i ha
      have : ¬ (k = 14 ∧ i = E) := fun z => by
        rw [z.1, z.2] at g2
        simp at g2
      funext f
      exact (vC k i f this).symm
  refine w_aload_n rfl rfl ?_
  refine w_getfield rfl (VH_at hH1 (oC _ _ oV) (by decide) (by decide) (by decide)) rfl ?_
  rw [vC 0 0 5 (by omega), h1]
  refine w_bipush rfl rfl ?_
  by_cases q : E = 100
  · refine w_icge_t rfl (by omega) (by omega) (by omega) (by omega) (by omega) ?_
    refine w_throw rfl (by decide) (Nat.le_of_ble_eq_true rfl) ?_
    exact ⟨rfl, fin⟩
  · refine w_icge_f rfl (by omega) (by omega) (by omega) (by omega) (by omega) ?_
    refine w_aload_n rfl rfl ?_
    refine w_getfield rfl (VH_at hH1 (oC _ _ oV) (by decide) (by decide) (by decide)) rfl ?_
    rw [vC 0 0 1 (by omega), v1]
    refine w_aload_n rfl rfl ?_
    refine w_getfield rfl (VH_at hH1 oX (by decide) (by decide) (by decide)) rfl ?_
    rw [x7]
    obtain ⟨kn, hkn⟩ : ∃ kn : Nat, dBlocks ρ c0 = kn := ⟨(dBlocks ρ c0).toNat, by omega⟩
    obtain ⟨W0, P0, hvf⟩ := VH_vf hH1
    have wr := V_room (L := L) (xs := xs) hH1 7 (by decide) (k := kn) (by omega) (by omega)
    rw [Int.toNat_of_nonneg c9a, Int.toNat_of_nonneg (show 0 ≤ ρ.1 8 by omega), ← hkn, if_neg (by omega)] at wr
    refine w_cvV rfl (by decide) (by decide) rfl hvf mt_53 (Nat.le_of_ble_eq_true rfl) (Nat.le_of_ble_eq_true rfl) wr ?_
    refine w_ifne_f rfl (by omega) (by omega) (by omega) ?_
    refine w_throw rfl (by decide) (Nat.le_of_ble_eq_true rfl) ?_
    exact ⟨rfl, fin⟩
theorem T_dump_ok (hI : IW b m0 tm nc ns ρ of H A c g na cs ad qs oc dt da cn bl E fa ms lo Y) {l c0 : Int} (l1 : 0 ≤ l) (l2 : l ≤ 9) (hc0 : lsB ρ l 0 E (-1) = c0) (htm : tm ≤ 1000) (hE : E < 100) (hx : ρ.1 9 + dBlocks ρ c0 + pts (ρ.1 9 + dBlocks ρ c0) (ρ.1 8 - 1) ≤ 4000) {x : Nat → Nat} (hxk : ∀ k, k < 256 → chg ρ c0 k → x (cnt (chg ρ c0) 0 k) = k) : Wp b L xs 8 mi_43 0 (ent (mL mi_43) [.ref (A 0), vI l]) [] H (fun h' o => o = .inl (some (vI E)) ∧ ∃ bl', VH b (A 3) (Zr b m0) g (upC (upC (dmF c ρ H.1 E l c0 da cn) 11 0 E (.ref H.1)) 0 0 5 (vI ((E : Int) + 1))) (nc + 1) (ns + 8) (ρ.1 8).toNat (ρ.1 9 + dBlocks ρ c0).toNat bl' (ρ.2 30 0) (ρ.2 31 0) h' ∧ (∀ q, q < (ρ.1 9).toNat → bl' q = bl q) ∧ bl' (ρ.1 9).toNat = hdT l E (ρ.1 7) c0 (dMany ρ c0 : Nat) ∧ bl' ((ρ.1 9).toNat + 1) = mpB (fun n => ρ.2 1 0 n ≠ 0) (putK zB 0 77 1) 0 256 ∧ (∀ i, i < wN 31 (dMany ρ c0) → bl' ((ρ.1 9).toNat + 2 + i) = ixF (fun i => (x i : Int)) (fun i => nb ρ (x i)) (dMany ρ c0 : Nat) (31 * i) (min (dMany ρ c0) (31 * i + 31) - 31 * i)) ∧ ∀ n, n < 256 → chg ρ c0 n → ∀ cc, cc < (nb ρ n).toNat → bl' ((ρ.1 9).toNat + 2 + wN 31 (dMany ρ c0) + (sm (chg ρ c0) (nb ρ) 0 n).toNat + cc) = ndT ρ (cs n) (qs n) n cc) := by
  refine T_dump_b hI l1 l2 hc0 (fun H1 eH1 hH1 => ?_)
  have hI0 := hI
  obtain ⟨hH, hZ, hga, hgo, hSI, hTr, hTF, hAU, hHI, hRI, hRQ⟩ := hI
  obtain ⟨oV, oT, oN, oR, oDs, hQI, v0, v1, v2, v3, v4, vT, vw0, vw1, nNb, nDb⟩ := hSI
  obtain ⟨rg, hEn, r16, rE, c8a, c8b, c9a, c9b, r27a, r27b, r28a, r28b, r29a, r29b, t7a, t7b, z46, z47, sp30, sp31, z42⟩ := hRI
  obtain ⟨h1, h2, h3, h4, h5, h6, h7, h8⟩ := hHI
  have hT := hTr.2.1
  have hB := dB_ok hT c0
  have hP : 0 ≤ pts (ρ.1 9 + dBlocks ρ c0) (ρ.1 8 - 1) := Int.ediv_nonneg (by omega) (by omega)
  have fr := (VH_fr hH).1 H.1 (Nat.le_refl _)
  have lsk := lsB_ok (ρ := ρ) (l := l) E 0 (-1) (by omega) (by omega)
  rw [Nat.zero_add, hc0] at lsk
  have oC : ∀ x q, c.1 x = some q → (dmF c ρ H.1 E l c0 da cn).1 x = some q := fun x q hx => by
    show (if x = H.1 then some (14, E) else c.1 x) = _
    rw [if_neg (fun z => by rw [z, fr.2] at hx; cases hx)]
    exact hx
  have oX : (dmF c ρ H.1 E l c0 da cn).1 H.1 = some (14, E) := if_pos rfl
  have vC : ∀ k i f, ¬ (k = 14 ∧ i = E) → (dmF c ρ H.1 E l c0 da cn).2.1 k i f = c.2.1 k i f := fun k i f h => dmC_k h
  obtain ⟨x0, x1, x2, x3, x4, x5, x6, x7⟩ : (dmF c ρ H.1 E l c0 da cn).2.1 14 E 0 = vI E ∧ (dmF c ρ H.1 E l c0 da cn).2.1 14 E 1 = vI l ∧ (dmF c ρ H.1 E l c0 da cn).2.1 14 E 2 = vI (ρ.1 7) ∧ (dmF c ρ H.1 E l c0 da cn).2.1 14 E 3 = boV c0 da ∧ (dmF c ρ H.1 E l c0 da cn).2.1 14 E 4 = vI (cnN c0 cn : Nat) ∧ (dmF c ρ H.1 E l c0 da cn).2.1 14 E 5 = vI (dMany ρ c0 : Nat) ∧ (dmF c ρ H.1 E l c0 da cn).2.1 14 E 6 = vI (ρ.1 9) ∧ (dmF c ρ H.1 E l c0 da cn).2.1 14 E 7 = vI (dBlocks ρ c0) := dmC_f
  obtain ⟨tb, htb⟩ : ∃ tb, tb = if c0 < 0 then -1 else ρ.2 11 0 c0.toNat := ⟨_, rfl⟩
  have tbr : -1 ≤ tb ∧ tb ≤ 1000000 := by
    rw [htb]
    split
    · omega
    · have := (h5 c0.toNat (by omega)).1
      have a1 := this.2.2.1
      have a2 := this.2.2.2.1
      omega
  have e1 : cnt (chS ρ tb) 0 256 = dMany ρ c0 := cnt_congr 256 0 (fun n _ hn => chS_chg hT htb (by omega))
  have ek : ∀ k, k ≤ 256 → cnt (chS ρ tb) 0 k = cnt (chg ρ c0) 0 k := fun k hk => cnt_congr k 0 (fun n _ hn => chS_chg hT htb (by omega))
  have es : ∀ k, k ≤ 256 → sm (chS ρ tb) (nb ρ) 0 k = sm (chg ρ c0) (nb ρ) 0 k := fun k hk => sm_congr k 0 (fun n _ hn => ⟨chS_chg hT htb (by omega), rfl⟩)
  have dB : dBlocks ρ c0 = 2 + sm (chg ρ c0) (nb ρ) 0 256 + pts (dMany ρ c0) 31 := rfl
  have sp := (sm_ok (p := chg ρ c0) (f := nb ρ) (fun n hn => nb_ok hT hn) 256 0 (Nat.le_refl _)).1
  have en : pts (dMany ρ c0) 31 = (wN 31 (dMany ρ c0) : Nat) := by
    unfold pts
    rw [wN_31]
    omega
  have efi : (ρ.1 9).toNat + 2 + wN 31 (dMany ρ c0) + (sm (chg ρ c0) (nb ρ) 0 256).toNat = (ρ.1 9 + dBlocks ρ c0).toNat := by omega
  have hcap : ((ρ.1 8).toNat : Int) = ρ.1 8 := Int.toNat_of_nonneg (by omega)
  have hw : wrO (ρ.1 8).toNat (ρ.1 9 + dBlocks ρ c0).toNat ≤ 4000 := by
    have := wrO_pts (f := (ρ.1 9 + dBlocks ρ c0).toNat) (cap := (ρ.1 8).toNat) (by omega)
    rw [hcap, Int.toNat_of_nonneg (show 0 ≤ ρ.1 9 + dBlocks ρ c0 by omega)] at this
    omega
  have sB : ((dmF c ρ H.1 E l c0 da cn).2.1 14 E 3 = .null ∧ c0 = -1 ∧ tb = -1) ∨ ∃ D1 e1 : Nat, (dmF c ρ H.1 E l c0 da cn).2.1 14 E 3 = .ref D1 ∧ (dmF c ρ H.1 E l c0 da cn).1 D1 = some (14, e1) ∧ (dmF c ρ H.1 E l c0 da cn).2.1 14 e1 0 = vI e1 ∧ (dmF c ρ H.1 E l c0 da cn).2.1 14 e1 2 = vI tb ∧ c0 = e1 := by
    unfold boV at x3
    by_cases q : c0 < 0
    · rw [if_pos q] at x3 htb
      exact Or.inl ⟨x3, by omega, htb⟩
    · rw [if_neg q] at x3 htb
      have hd := h4 c0.toNat (by omega)
      exact Or.inr ⟨_, c0.toNat, x3, oC _ _ hd.1, (vC _ _ _ (by omega)).trans hd.2.1, by rw [vC _ _ _ (by omega), hd.2.2.2.1, htb], by omega⟩
  have trD : TrOk b (A 1) (A 2) (dmF c ρ H.1 E l c0 da cn) ρ na cs ad qs oc dt := Tr_c hTr (fun x k i _ hx => oC _ _ hx) (fun f => vC _ _ _ (by omega)) (fun f => vC _ _ _ (by omega)) (fun m f => vC _ _ _ (by omega)) (fun m f => vC _ _ _ (by omega)) (fun _ _ _ _ => rfl) rfl
  refine w_aload_n rfl rfl ?_
  refine w_getfield rfl (VH_at hH1 (oC _ _ oV) (by decide) (by decide) (by decide)) rfl ?_
  rw [vC 0 0 5 (by omega), h1]
  refine w_bipush rfl rfl ?_
  refine w_icge_f rfl (by omega) (by omega) (by omega) (by omega) (by omega) ?_
  refine w_aload_n rfl rfl ?_
  refine w_getfield rfl (VH_at hH1 (oC _ _ oV) (by decide) (by decide) (by decide)) rfl ?_
  rw [vC 0 0 1 (by omega), v1]
  refine w_aload_n rfl rfl ?_
  refine w_getfield rfl (VH_at hH1 oX (by decide) (by decide) (by decide)) rfl ?_
  rw [x7]
  obtain ⟨kn, hkn⟩ : ∃ kn : Nat, dBlocks ρ c0 = kn := ⟨(dBlocks ρ c0).toNat, by omega⟩
  obtain ⟨W0, P0, hvf⟩ := VH_vf hH1
  have wr := V_room (L := L) (xs := xs) hH1 7 (by decide) (k := kn) (by omega) (by omega)
  rw [Int.toNat_of_nonneg c9a, hcap, ← hkn, if_pos hx] at wr
  refine w_cvV rfl (by decide) (by decide) rfl hvf mt_53 (Nat.le_of_ble_eq_true rfl) (Nat.le_of_ble_eq_true rfl) wr ?_
  refine w_ifne_t rfl (by omega) (by omega) (by omega) ?_
  refine w_aload_n rfl rfl ?_
  refine w_getfield rfl (VH_at hH1 (oC _ _ oV) (by decide) (by decide) (by decide)) rfl ?_
  rw [vC 0 0 2 (by omega), v2]
  refine w_aload_n rfl rfl ?_
  have ww := V_wall (L := L) (xs := xs) 7 (by decide) hH1 (oC _ _ oR) ((vC 6 0 0 (by omega)).trans vw0) ((vC 6 0 1 (by omega)).trans vw1) trD oX x0 x1 x2 x5 sB l1 l2 (by omega) t7a (by omega) (by omega) tbr.1 tbr.2 (x := fun i => (x i : Int)) (y := fun i => nb ρ (x i)) (fun k hk hc => by
    have := hxk k hk ((chS_chg hT htb hk).mp hc)
    rw [ek k (by omega)]
    show (x _ : Int) = k ∧ nb ρ (x _) = nb ρ k
    rw [this]
    exact ⟨rfl, rfl⟩) (by rw [e1]) (by rw [e1, es 256 (Nat.le_refl _), efi]; exact hw)
  rw [e1, es 256 (Nat.le_refl _), efi] at ww
  refine w_cv rfl (by decide) (by decide) rfl (VH_at hH1 (oC _ _ oR) (by decide) (by decide) (by decide)) mt_54 (Nat.le_of_ble_eq_true rfl) (Nat.le_of_ble_eq_true rfl) ww ?_
  rintro H2 _ ⟨rfl, bl', hH2, q0, q1, q2, q3, q4⟩
  refine ⟨none, rfl, ?_⟩
  refine w_aload_n rfl rfl ?_
  refine w_getfield rfl (VH_at hH2 (oC _ _ oV) (by decide) (by decide) (by decide)) rfl ?_
  rw [vC 0 0 4 (by omega), v4]
  refine w_aload_n rfl rfl ?_
  refine w_getfield rfl (VH_at hH2 (oC _ _ oV) (by decide) (by decide) (by decide)) rfl ?_
  rw [vC 0 0 5 (by omega), h1]
  refine w_aload_n rfl rfl ?_
  refine v_aastore hH2 rfl (oC _ _ oDs) (by decide) (by decide) (by decide) (fun _ => rfl) oX (by decide) (by decide) (by decide) rfl rfl (by omega) (by omega) (by decide) ?_
  intro H3 eH3 hH3
  rw [Int.toNat_natCast] at hH3
  refine w_aload_n rfl rfl ?_
  refine w_dupR rfl ?_
  refine w_getfield rfl (VH_at hH3 (oC _ _ oV) (by decide) (by decide) (by decide)) rfl ?_
  rw [upC_ne (by omega), vC 0 0 5 (by omega), h1]
  refine w_iconst rfl ?_
  refine w_iadd rfl ?_
  refine v_put hH3 rfl (oC _ _ oV) (by decide) (by decide) (by decide) rfl rfl rfl rfl ?_
  intro H4 eH4 hH4
  refine w_aload_n rfl rfl ?_
  refine w_getfield rfl (VH_at hH4 oX (by decide) (by decide) (by decide)) rfl ?_
  rw [upC_ne (by omega), upC_ne (by omega), x0]
  refine w_ireturn rfl rfl ?_
  refine ⟨rfl, bl', hH4, q0, q1, q2, q3, fun n hn hc cc hcc => ?_⟩
  have := q4 n hn ((chS_chg hT htb hn).mpr hc) cc hcc
  rw [es n (by omega)] at this
  exact this
end Vdn
