/-! spoil, both together -/
theorem ps_k {u : Nat} (hu : 0 < u) (v : Nat) {c : Nat} (c1 : c ≠ 0) (c2 : c < u + 1) : psB (u + 1) (v * u + c - 1) = v * (u + 1) + c := by
  have e : (v * u + c - 1) / u = v := by
    refine Nat.div_eq_of_lt_le (by omega) ?_
    rw [Nat.succ_mul]
    omega
  rw [psB_e hu, e, Nat.mul_succ]
  omega
theorem wr_ps {u : Nat} (hu : 0 < u) (fi : Nat) : wrO (u + 1) fi ≤ psB (u + 1) fi := by
  by_cases hr : fi % u = 0
  · have el := lab_e hu (fi / u)
    rw [fi_q hu hr] at el
    rw [wrO_0 hu hr]
    omega
  · rw [wrO_1 hu hr]
    exact Nat.le_refl _
theorem ps_iff {u fi v c : Nat} (hu : 3 ≤ u) (hc : c < u + 1) : v * (u + 1) + c < wrO (u + 1) fi ↔ (if c = 0 then v * u < fi else v * u + c - 1 < fi) := by
  by_cases e : c = 0
  · subst e
    rw [if_pos rfl, Nat.add_zero]
    refine ⟨fun z => ?_, fun z => lab_wr (by omega) z⟩
    rcases Nat.lt_or_ge (v * u) fi with y | y
    · exact y
    · have h1 := wrO_le (cap := u + 1) (by omega) y
      rw [wrO_0 (show 0 < u by omega) (Nat.mul_mod_left _ _), Nat.mul_div_cancel _ (show 0 < u by omega)] at h1
      omega
  · rw [if_neg e, ← ps_k (show 0 < u by omega) v e hc]
    refine ⟨fun z => ?_, fun z => psB_wr (by omega) z⟩
    rcases Nat.lt_or_ge (v * u + c - 1) fi with y | y
    · exact y
    · have h1 := wr_ps (show 0 < u by omega) fi
      rcases Nat.lt_or_ge fi (v * u + c - 1) with x | x
      · have := psB_lt (show 0 < u by omega) x
        omega
      · obtain rfl : fi = v * u + c - 1 := by omega
        omega
section Vps
variable {L : Nat} {xs : Nat → Int32} {b m0 tm nc ns : Nat} {ρ : RS} {of : Nat → Value} {H : AH} {A : Nat → Nat} {c : CS} {g : Nat → Option AO} {na : Nat → Option Nat} {cs ad : Nat → Nat → Nat} {qs : Nat → Nat} {oc : Nat → Option Nat} {dt : Nat → Nat → Int} {da cn : Nat → Nat} {bl : Nat → Nat → Int} {E : Nat} {fa ms lo : Nat → Int} {Y : YS}
theorem V_posZ {V0 cap fi : Nat} {Z : Nat → Prop} {sp ls : Nat → Int} (hH : VH b V0 Z g c nc ns cap fi bl sp ls H) (d : Nat) {x y : Int} (x1 : -2147483648 ≤ x) (x2 : x ≤ 2147483647) (y1 : -2147483648 ≤ y) (y2 : y ≤ 2147483647) : (∃ v k : Nat, x = v ∧ y = k ∧ k < cap ∧ v < 4000 ∧ v * cap + k < wrO cap fi ∧ Wp b L xs d mi_70 0 (ent (mL mi_70) [.ref V0, vI x, vI y]) [] H (Rt H (vI ((v * cap + k : Nat) : Int)))) ∨ (¬ (∃ v k : Nat, x = v ∧ y = k ∧ k < cap ∧ v < 4000 ∧ v * cap + k < wrO cap fi) ∧ Wp b L xs d mi_70 0 (ent (mL mi_70) [.ref V0, vI x, vI y]) [] H (Rt H (vI (-1)))) := by
  obtain ⟨h, W0, P0, len, wr, W, S, rfl, hV, hv⟩ := VV_len hH
  rw [← hv.1]
  by_cases q : ∃ v k : Nat, x = v ∧ y = k ∧ k < cap ∧ v < 4000 ∧ v * cap + k < wr
  · obtain ⟨v, k, rfl, rfl, h1, h2, h3⟩ := q
    exact Or.inl ⟨v, k, rfl, rfl, h1, h2, h3, k_pOf1 d hV h1 h2 h3⟩
  · refine Or.inr ⟨q, k_pOf0 d hV x1 x2 y1 y2 (fun z => ?_)⟩
    obtain ⟨z1, z2, z3, z4, z5⟩ := z
    obtain ⟨v, rfl⟩ : ∃ m : Nat, x = m := ⟨x.toNat, by omega⟩
    obtain ⟨k, rfl⟩ : ∃ m : Nat, y = m := ⟨y.toNat, by omega⟩
    refine q ⟨v, k, rfl, rfl, by omega, by omega, ?_⟩
    rw [← Int.natCast_mul] at z5
    omega
theorem V_spoilL {V0 u fi v : Nat} {Z : Nat → Prop} {sp ls : Nat → Int} (hu : 3 ≤ u) (hH : VH b V0 Z g c nc ns (u + 1) fi bl sp ls H) (d : Nat) (hv : v * u < fi) : Wp b L xs d mi_71 0 (ent (mL mi_71) [.ref V0, vI ((v * (u + 1) : Nat) : Int)]) [] H (fun h' o => o = .inl none ∧ VH b V0 Z g c nc ns (u + 1) fi bl sp (upB ls v 1) h') := by
  obtain ⟨wr, W, S, ⟨h, W0, P0, len, rfl, hV, z, y⟩, e1, e2, e3, e4, e5⟩ := hH
  have pl := lab_wr (show 0 < u by omega) hv
  have hl := hV.2.2.2.2.2.2.2.2.2.2.2.1
  refine Wp_im ?_ (k_spoil d hV (p := v * (u + 1)) (by omega))
  rintro _ _ ⟨rfl, rfl⟩
  obtain ⟨a1, a2, a3, a4, a5, a6, a7, a8, a9, a10, a11, a12, a13, a14, a15⟩ := hV
  simp only [Nat.add_sub_cancel] at e3 e5
  refine ⟨rfl, wr, W, _, ⟨h, W0, P0, len, rfl, ⟨a1, a2, a3, a4, a5, a6, a7, a8, a9, a10, a11, a12, a13, a14, fun i => ?_⟩, z, y⟩, e1, fun k hk => ⟨(e2 k hk).1, ?_⟩, fun x hx => ?_, e4, fun x hx => ?_⟩
  · unfold upB
    split
    · exact Or.inr rfl
    · exact a15 i
  · rw [upB_ne (fun q => lab_ne (show 0 < u by omega) v k q.symm)]
    exact (e2 k hk).2
  · rw [Nat.add_sub_cancel] at hx
    refine ⟨(e3 x hx).1, ?_⟩
    by_cases q : x = v
    · rw [q, upB_eq, upB_eq]
    · rw [upB_ne q, upB_ne (fun q2 => q (Nat.eq_of_mul_eq_mul_right (by omega) q2))]
      exact (e3 x hx).2
  · rw [Nat.add_sub_cancel] at hx
    rw [upB_ne (fun q => by rw [q] at hx; omega)]
    exact e5 x hx
theorem V_spoilB {V0 u fi k : Nat} {Z : Nat → Prop} {sp ls : Nat → Int} (hu : 3 ≤ u) (hH : VH b V0 Z g c nc ns (u + 1) fi bl sp ls H) (d : Nat) (hk : k < fi) : Wp b L xs d mi_71 0 (ent (mL mi_71) [.ref V0, vI ((psB (u + 1) k : Nat) : Int)]) [] H (fun h' o => o = .inl none ∧ VH b V0 Z g c nc ns (u + 1) fi bl (upB sp k 1) ls h') := by
  obtain ⟨wr, W, S, ⟨h, W0, P0, len, rfl, hV, z, y⟩, e1, e2, e3, e4, e5⟩ := hH
  have pl := psB_wr (show 0 < u by omega) hk
  have hl := hV.2.2.2.2.2.2.2.2.2.2.2.1
  refine Wp_im ?_ (k_spoil d hV (p := psB (u + 1) k) (by omega))
  rintro _ _ ⟨rfl, rfl⟩
  obtain ⟨a1, a2, a3, a4, a5, a6, a7, a8, a9, a10, a11, a12, a13, a14, a15⟩ := hV
  refine ⟨rfl, wr, W, _, ⟨h, W0, P0, len, rfl, ⟨a1, a2, a3, a4, a5, a6, a7, a8, a9, a10, a11, a12, a13, a14, fun i => ?_⟩, z, y⟩, e1, fun x hx => ⟨(e2 x hx).1, ?_⟩, fun x hx => ⟨(e3 x hx).1, ?_⟩, fun x hx => ?_, e5⟩
  · unfold upB
    split
    · exact Or.inr rfl
    · exact a15 i
  · by_cases q : x = k
    · rw [q, upB_eq, upB_eq]
    · rw [upB_ne q, upB_ne (fun q2 => ?_)]
      · exact (e2 x hx).2
      · rcases Nat.lt_trichotomy x k with r | r | r
        · have := psB_lt (show 0 < u by omega) r
          omega
        · exact q r
        · have := psB_lt (show 0 < u by omega) r
          omega
  · rw [upB_ne (lab_ne (show 0 < u by omega) x k)]
    exact (e3 x hx).2
  · rw [upB_ne (by omega)]
    exact e4 x hx
/-- what lies at a place -/
theorem V_at {V0 u fi v k : Nat} {Z : Nat → Prop} {sp ls : Nat → Int} (hu : 3 ≤ u) (hH : VH b V0 Z g c nc ns (u + 1) fi bl sp ls H) (d : Nat) (hk : k < u + 1) (hw : v * (u + 1) + k < wrO (u + 1) fi) : Wp b L xs d mi_74 0 (ent (mL mi_74) [.ref V0, vI ((v * (u + 1) + k : Nat) : Int)]) [] H (Rt H (vI (if k = 0 then ls v else sp (v * u + k - 1)))) ∧ ∀ w : Nat, w < 8 → ∃ x : Int64, (∀ j, j < 8 → (by8 x j : Int) = (if k = 0 then lbB v (8 * w + j) else bl (v * u + k - 1) (8 * w + j))) ∧ Wp b L xs d mi_75 0 (ent (mL mi_75) [.ref V0, vI ((v * (u + 1) + k : Nat) : Int), vI w]) [] H (Rt H (.long x)) := by
  have iff := (ps_iff (v := v) (fi := fi) hu hk).mp hw
  obtain ⟨h, W0, P0, len, wr, W, S, rfl, hV, e1, e2, e3, -⟩ := VV_len hH
  have hl := hV.2.2.2.2.2.2.2.2.2.2.2.1
  have key : S (v * (u + 1) + k) = (if k = 0 then ls v else sp (v * u + k - 1)) ∧ ∀ j, j < 64 → ocW W (v * (u + 1) + k) j = (if k = 0 then lbB v j else bl (v * u + k - 1) j) := by
    by_cases e : k = 0
    · subst e
      rw [if_pos rfl] at iff ⊢
      obtain ⟨f1, f2⟩ := e3 v (by rw [Nat.add_sub_cancel]; exact iff)
      exact ⟨f2, fun j hj => by rw [if_pos rfl]; exact f1 j hj⟩
    · rw [if_neg e] at iff ⊢
      obtain ⟨f1, f2⟩ := e2 _ iff
      rw [ps_k (show 0 < u by omega) v e hk] at f1 f2
      exact ⟨f2, fun j hj => by rw [if_neg e]; exact f1 j hj⟩
  refine ⟨?_, fun w hw8 => ⟨W (8 * (v * (u + 1) + k) + w), fun j hj => ?_, k_word d hV (by omega) hw8⟩⟩
  · rw [← key.1]
    exact k_spAt d hV (by omega)
  · rw [← key.2 (8 * w + j) (by omega)]
    unfold ocW
    rw [show (8 * w + j) / 8 = w by omega, show (8 * w + j) % 8 = j by omega]
end Vps
theorem rWr_iff {ρ : RS} {u fi : Nat} (hu : 3 ≤ u) (h8 : ρ.1 8 = ((u + 1 : Nat) : Int)) (h9 : ρ.1 9 = fi) (hf : fi ≤ 4000) (x y : Int) : rWr ρ x y ↔ ∃ v k : Nat, x = v ∧ y = k ∧ k < u + 1 ∧ v < 4000 ∧ v * (u + 1) + k < wrO (u + 1) fi := by
  unfold rWr
  rw [h8, h9]
  constructor
  · rintro ⟨z1, z2, z3, z4, z5⟩
    obtain ⟨v, rfl⟩ : ∃ m : Nat, x = m := ⟨x.toNat, by omega⟩
    obtain ⟨k, rfl⟩ : ∃ m : Nat, y = m := ⟨y.toNat, by omega⟩
    have e : (v : Int) * (((u + 1 : Nat) : Int) - 1) = ((v * u : Nat) : Int) := by rw [show ((u + 1 : Nat) : Int) - 1 = (u : Int) by omega, Int.natCast_mul]
    rw [e] at z5
    have hk : k < u + 1 := by omega
    have vu : v * 3 ≤ v * u := Nat.mul_le_mul_left v hu
    refine ⟨v, k, rfl, rfl, hk, ?_, (ps_iff hu hk).mpr ?_⟩
    · split at z5 <;> omega
    · by_cases ek : k = 0
      · rw [if_pos (by omega)] at z5
        rw [if_pos ek]
        omega
      · rw [if_neg (by omega)] at z5
        rw [if_neg ek]
        omega
  · rintro ⟨v, k, rfl, rfl, hk, hv, hw⟩
    have e : (v : Int) * (((u + 1 : Nat) : Int) - 1) = ((v * u : Nat) : Int) := by rw [show ((u + 1 : Nat) : Int) - 1 = (u : Int) by omega, Int.natCast_mul]
    have iff := (ps_iff hu hk).mp hw
    rw [e]
    refine ⟨by omega, by omega, by omega, by omega, ?_⟩
    by_cases ek : k = 0
    · rw [if_pos ek] at iff
      rw [if_pos (by omega)]
      omega
    · rw [if_neg ek] at iff
      rw [if_neg (by omega)]
      omega
section Jsp
variable {L : Nat} {xs : Nat → Int32} {b m0 A0 tm nc ns : Nat} {ρ : RS} {of : Nat → Value} {H : AH}
theorem J_spoil (hI : Iv b m0 A0 tm nc ns ρ of H) (hb : b < m0) {x y : Int} (x1 : -2147483648 ≤ x) (x2 : x ≤ 2147483647) (y1 : -2147483648 ≤ y) (y2 : y ≤ 2147483647) : JN b m0 A0 tm nc ns L xs H mi_68 mi_127 [.ref A0, vI x, vI y] [.ref m0, vI x, vI y] := by
  obtain ⟨A, c, g, na, cs, ad, qs, oc, dt, da, cn, bl, E, fa, ms, lo, Y, rfl, hI⟩ := hI
  obtain ⟨fs, ho⟩ := IW_ob hI
  have hX := IW_X hI
  have hI0 := hI
  obtain ⟨hH, hZ, hga, hgo, hSI, hTr, hTF, hAU, hHI, hRI, hRQ⟩ := hI
  obtain ⟨oV, oT, oN, oR, oDs, hQI, v0, v1, v2, v3, v4, vT, vw0, vw1, nNb, nDb⟩ := hSI
  obtain ⟨rg, hEn, r16, rE, c8a, c8b, c9a, c9b, r27a, r27b, r28a, r28b, r29a, r29b, t7a, t7b, z46, z47, sp30, sp31, z42⟩ := hRI
  have hpt : 0 ≤ pts (ρ.1 9) (ρ.1 8 - 1) := Int.ediv_nonneg (by omega) (by omega)
  obtain ⟨u, hu8⟩ : ∃ u : Nat, ρ.1 8 = ((u + 1 : Nat) : Int) := ⟨(ρ.1 8 - 1).toNat, by omega⟩
  obtain ⟨fi, hfi⟩ : ∃ fi : Nat, ρ.1 9 = fi := ⟨(ρ.1 9).toNat, by omega⟩
  have hu : 3 ≤ u := by omega
  have wr4 : wrO (u + 1) fi ≤ 4000 := by
    have h1 := (vol_n (u := u) (fi := fi) (by omega)).1
    have h2 := c9b
    rw [hfi, hu8, show ((u + 1 : Nat) : Int) - 1 = (u : Int) by omega] at h2
    omega
  have wi := rWr_iff hu hu8 hfi (by omega) x y
  have hH9 := hH
  rw [hu8, hfi, Int.toNat_natCast, Int.toNat_natCast] at hH
  rcases V_posZ (L := L) (xs := xs) hH 7 x1 x2 y1 y2 with ⟨v, k, rfl, rfl, hk, hv, hw, wp⟩ | ⟨hn, wp⟩
  rotate_left
  · have wt : Wp b L xs 8 mi_69 0 (ent (mL mi_69) [.ref (A 0), vI x, vI y]) [] H (fun h' o => h' = hskip H 6 ∧ o = .inr 2) := by
      refine w_aload_n rfl rfl ?_
      refine w_getfield rfl (VH_at hH oV (by decide) (by decide) (by decide)) rfl ?_
      rw [v1]
      refine w_iload_n rfl rfl ?_
      refine w_iload_n rfl rfl ?_
      refine w_cvV rfl (by decide) (by first | omega | (simp only [Int.toNat_natCast, upF_2] at *; omega)) rfl (VH_ob hH).choose_spec mt_70 (Nat.le_of_ble_eq_true rfl) (Nat.le_of_ble_eq_true rfl) wp ?_
      refine w_istore_n rfl (by decide) ?_
      refine w_iload_n rfl rfl ?_
      refine w_iconst rfl ?_
      refine w_icne_f rfl (by omega) (by omega) (by omega) (by omega) (by first | omega | (simp only [Int.toNat_natCast, upF_2] at *; omega)) ?_
      refine w_throw rfl (by first | omega | (simp only [Int.toNat_natCast, upF_2] at *; omega)) (Nat.le_of_ble_eq_true rfl) ?_
      exact ⟨rfl, rfl⟩
    exact J_errN hI0 (k := 1) (by decide) (by decide) (hE_spoil_2 9 (by decide) ho wt) (fun h => r_spoil_1 hb rg 9 (by decide) x1 x2 y1 y2 c8a c8b c9a (by omega) (fun z => hn (wi.mp z)))
  have iff := (ps_iff (v := v) (fi := fi) hu hk).mp hw
  have rw_ := wi.mpr ⟨v, k, rfl, rfl, hk, hv, hw⟩
  have sp' : ∃ sp ls : Nat → Int, (∀ i, sp i = (rSpoil ρ v k).2 30 0 i) ∧ (∀ i, ls i = (rSpoil ρ v k).2 31 0 i) ∧ (∀ i, sp i = 0 ∨ sp i = 1) ∧ (∀ i, ls i = 0 ∨ ls i = 1) ∧ Wp b L xs 7 mi_71 0 (ent (mL mi_71) [.ref (A 3), vI ((v * (u + 1) + k : Nat) : Int)]) [] H (fun h' o => o = .inl none ∧ VH b (A 3) (Zr b m0) g c nc ns (u + 1) fi bl sp ls h') := by
    have kz : ((k : Int) = 0) ↔ k = 0 := by omega
    by_cases e : k = 0
    · subst e
      rw [if_pos rfl] at iff
      have r0 : rSpoil ρ v ((0 : Nat) : Int) = upA (upF ρ 0 0) 31 0 v 1 := by
        unfold rSpoil
        rw [if_pos (show ((0 : Nat) : Int) = 0 from rfl), Int.toNat_natCast]
      rw [r0]
      refine ⟨ρ.2 30 0, upB (ρ.2 31 0) v 1, fun i => by rw [upA_g, if_neg (by omega)]; rfl, fun i => ?_, sp30, fun i => ?_, V_spoilL hu hH 7 iff⟩
      · rw [upA_g]
        unfold upB
        by_cases e : i = v
        · rw [if_pos e, if_pos ⟨rfl, rfl, e⟩]
        · rw [if_neg e, if_neg (fun z => e z.2.2)]
          rfl
      · unfold upB
        split
        · exact Or.inr rfl
        · exact sp31 i
    · rw [if_neg e] at iff
      have r0 : rSpoil ρ v k = upA (upF ρ 0 0) 30 0 (v * u + k - 1) 1 := by
        unfold rSpoil
        rw [if_neg (by omega), hu8, show ((v : Int) * (((u + 1 : Nat) : Int) - 1) + k - 1).toNat = v * u + k - 1 from by
          rw [show ((u + 1 : Nat) : Int) - 1 = (u : Int) by omega, ← Int.natCast_mul]
          omega]
      rw [r0]
      have wb := V_spoilB (L := L) (xs := xs) hu hH 7 iff
      rw [ps_k (show 0 < u by omega) v e hk] at wb
      refine ⟨upB (ρ.2 30 0) (v * u + k - 1) 1, ρ.2 31 0, fun i => ?_, fun i => by rw [upA_g, if_neg (by omega)]; rfl, fun i => ?_, sp31, wb⟩
      · rw [upA_g]
        unfold upB
        by_cases e : i = v * u + k - 1
        · rw [if_pos e, if_pos ⟨rfl, rfl, e⟩]
        · rw [if_neg e, if_neg (fun z => e z.2.2)]
          rfl
      · unfold upB
        split
        · exact Or.inr rfl
        · exact sp30 i
  obtain ⟨sp, ls, s1, s2, s3, s4, ws⟩ := sp'
  have sL : ∀ j r i, j ≠ 30 → j ≠ 31 → (rSpoil ρ v k).2 j r i = ρ.2 j r i := fun j r i h1 h2 => by
    unfold rSpoil
    split <;> (rw [upA_g, if_neg (by omega)]; rfl)
  have sF : ∀ i, i ≠ 0 → (rSpoil ρ v k).1 i = ρ.1 i := fun i h1 => by
    unfold rSpoil
    split <;> exact if_neg h1
  have sF0 : (rSpoil ρ v k).1 0 = 0 := by
    unfold rSpoil
    split <;> rfl
  have sG : Rg (rSpoil ρ v k) := by
    unfold rSpoil
    split
    · exact (rg.upF 0 (by omega) (by omega)).upA 31 0 _ (by omega) (by omega)
    · exact (rg.upF 0 (by omega) (by omega)).upA 30 0 _ (by omega) (by omega)
  have wt : Wp b L xs 8 mi_69 0 (ent (mL mi_69) [.ref (A 0), vI v, vI k]) [] H (fun h' o => o = .inl none ∧ VH b (A 3) (Zr b m0) g c nc ns (u + 1) fi bl sp ls h') := by
    refine w_aload_n rfl rfl ?_
    refine w_getfield rfl (VH_at hH oV (by decide) (by decide) (by decide)) rfl ?_
    rw [v1]
    refine w_iload_n rfl rfl ?_
    refine w_iload_n rfl rfl ?_
    refine w_cvV rfl (by decide) (by first | omega | (simp only [Int.toNat_natCast, upF_2] at *; omega)) rfl (VH_ob hH).choose_spec mt_70 (Nat.le_of_ble_eq_true rfl) (Nat.le_of_ble_eq_true rfl) wp ?_
    refine w_istore_n rfl (by decide) ?_
    refine w_iload_n rfl rfl ?_
    refine w_iconst rfl ?_
    refine w_icne_t rfl (by omega) (by omega) (by omega) (by omega) (by first | omega | (simp only [Int.toNat_natCast, upF_2] at *; omega)) ?_
    refine w_aload_n rfl rfl ?_
    refine w_getfield rfl (VH_at hH oV (by decide) (by decide) (by decide)) rfl ?_
    rw [v1]
    refine w_iload_n rfl rfl ?_
    refine w_cv rfl (by decide) (by first | omega | (simp only [Int.toNat_natCast, upF_2] at *; omega)) rfl (VH_ob hH).choose_spec mt_71 (Nat.le_of_ble_eq_true rfl) (Nat.le_of_ble_eq_true rfl) ws ?_
    rintro _ _ ⟨rfl, hH⟩
    refine ⟨none, rfl, ?_⟩
    refine w_return rfl rfl ?_
    exact ⟨rfl, hH⟩
  refine ⟨0, _, by decide, by decide, hN_spoil 9 (by decide) ho wt, fun h1 hh => ?_⟩
  rw [VH_RH hh hZ hga]
  refine ⟨⟨_, RH_obj⟩, ?_⟩
  refine Wp_im ?_ (r_spoil hb rg 9 (by decide) x1 x2 y1 y2 c8a c8b c9a (by omega) rw_)
  rintro _ _ ⟨rfl, rfl⟩
  have e30 : (rSpoil ρ v k).2 30 0 = sp := funext fun i => (s1 i).symm
  have e31 : (rSpoil ρ v k).2 31 0 = ls := funext fun i => (s2 i).symm
  have hS : OldS ρ (rSpoil ρ v k) E := ⟨fun e _ => ⟨sL _ _ _ (by decide) (by decide), sL _ _ _ (by decide) (by decide), sL _ _ _ (by decide) (by decide), fun n => sL _ _ _ (by decide) (by decide)⟩, fun e _ _ => ⟨sL _ _ _ (by decide) (by decide), sL _ _ _ (by decide) (by decide)⟩, fun j r h1 h2 _ => sL _ _ _ (by omega) (by omega), fun i _ => sL _ _ _ (by decide) (by decide), fun i _ => ⟨sL _ _ _ (by decide) (by decide), sL _ _ _ (by decide) (by decide)⟩⟩
  refine ⟨rfl, rSpoil ρ v k, of, ⟨_, _, _, _, _, _, _, _, _, _, _, _, _, _, _, _, _, rfl, IW_more (IW_r hI0 (c' := c) (τ := rSpoil ρ v k) (fa' := fa) (ms' := ms) (lo' := lo) (Y' := Y) (by rw [e30, e31, hu8, hfi, Int.toNat_natCast, Int.toNat_natCast]; exact hh) hgo rfl (fun _ _ _ _ _ _ _ => rfl) (fun _ _ => rfl) (fun j r i hj => sL j r i (by omega) (by omega)) (fun i h0 _ _ _ _ _ => sF i h0) sG (fun i hi => by rw [sL 46 0 i (by decide) (by decide)]; exact z46 i hi) (by rw [sF 47 (by decide)]; exact z47) (fun i => by rw [← s1]; exact s3 i) (fun i => by rw [← s2]; exact s4 i) (by rw [sF 42 (by decide)]; exact z42) ?_) (by omega) (by omega) (by omega)⟩, sF0⟩
  obtain ⟨q4, q5, q6, q7, q8, q9, q10, q11⟩ := hRQ
  refine ⟨by rw [sF 42 (by decide)]; exact q4, by rw [sF 43 (by decide)]; exact q5, by rw [sF 44 (by decide)]; exact q6, by rw [sF 45 (by decide)]; exact q7, q8, q9, q10, fun z => ?_⟩
  rw [sF 42 (by decide)] at z
  exact XI_o hS hHI.2.2.2.2.1 hHI.2.2.2.2.2.2.2 (fun j r i h1 h2 => sL j r i (by omega) (by omega)) (q11 z)
end Jsp
