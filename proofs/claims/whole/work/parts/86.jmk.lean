/-! the tree's calls, both together -/
section Jt
variable {L : Nat} {xs : Nat → Int32} {b m0 tm nc ns : Nat} {ρ : RS} {of : Nat → Value} {H : AH} {A : Nat → Nat} {c : CS} {g : Nat → Option AO} {na : Nat → Option Nat} {cs ad : Nat → Nat → Nat} {qs : Nat → Nat} {oc : Nat → Option Nat} {dt : Nat → Nat → Int} {da cn : Nat → Nat} {bl : Nat → Nat → Int} {E : Nat} {fa ms lo : Nat → Int} {Y : YS}
theorem J_treeV (hI : IW b m0 tm nc ns ρ of H A c g na cs ad qs oc dt da cn bl E fa ms lo Y) {c' : CS} {ρ' : RS} {na' : Nat → Option Nat} {cs' ad' : Nat → Nat → Nat} {qs' : Nat → Nat} {oc' : Nat → Option Nat} {dt' : Nat → Nat → Int} {nc' ns' : Nat} (hc1 : nc' ≤ nc + 3) (hs1 : ns' ≤ ns + 600) (hZ' : CZ (Zr b m0) c') (so : ∀ x k i, k ≠ 12 → k ≠ 13 → c.1 x = some (k, i) → c'.1 x = some (k, i)) (so2 : ∀ x e, c'.1 x = some (14, e) → c.1 x = some (14, e)) (sv : ∀ k i f, k ≠ 12 → k ≠ 13 → k ≠ 1 → k ≠ 2 → c'.2.1 k i f = c.2.1 k i f) (s1 : c'.2.1 1 0 0 = c.2.1 1 0 0) (r2 : ∀ j r i, 10 ≤ j → ρ'.2 j r i = ρ.2 j r i) (r1 : ∀ i, i ≠ 0 → i ≠ 7 → ρ'.1 i = ρ.1 i) (rg : Rg ρ') (t1 : ρ'.1 7 = ρ.1 7 + 1) (h0 : ρ'.1 0 = 0) (hTr' : TrOk b (A 1) (A 2) c' ρ' na' cs' ad' qs' oc' dt') (hTF' : TF c' ρ' oc') (hAU' : AU ρ') {kh kr : MI} {ah ar : List Value} {v : Int} (hh : Wp b L xs 9 kh 0 (ent (mL kh) ah) [] H (fun h2 o => o = .inl (some (vI 0)) ∧ ∃ h', VH b (A 3) (Zr b m0) g c' nc' ns' (ρ.1 8).toNat (ρ.1 9).toNat bl (ρ.2 30 0) (ρ.2 31 0) h' ∧ h2 = hput h' (m0 + 1160) (.inl (.long, 1, updV of 0 (.long (Int32.ofInt v).toInt64))))) (hr : ∀ h, Wp b L xs 9 kr 0 (ent (mL kr) ar) [] (RH m0 h ρ) (Rt (RH m0 h ρ') (vI v))) : JV b m0 (A 0) tm nc ns L xs H kh kr ah ar := by
  obtain ⟨hH, hZ, hga, hgo, hSI, hTr, hTF, hAU, hHI, hRI, hRQ⟩ := id hI
  obtain ⟨rg0, hEn, r16, rE, c8a, c8b, c9a, c9b, r27a, r27b, r28a, r28b, r29a, r29b, t7a, t7b, z46, z47, sp30, sp31, z42⟩ := hRI
  refine ⟨0, v, _, by omega, by omega, hh, ?_⟩
  rintro h1 ⟨h', hH', rfl⟩
  have hH2 := VH_out hH' hZ' (nZ b m0) (.inl (.long, 1, updV of 0 (.long (Int32.ofInt v).toInt64)))
  rw [VH_RH hH2 hZ' (up_area hga _)]
  refine ⟨⟨_, RH_obj⟩, ?_⟩
  refine Wp_im ?_ (hr _)
  rintro _ _ ⟨rfl, rfl⟩
  refine ⟨rfl, ρ', updV of 0 (.long (Int32.ofInt v).toInt64), ⟨_, _, _, _, _, _, _, _, _, _, _, _, _, _, _, _, _, rfl, IW_more (IW_step hI hH2 ?_ hZ' so so2 sv s1 (fun j r i hj _ => r2 j r i hj) (fun i h1 h2 _ => r1 i h1 h2) rg (by omega) (tm' := tm + 1) (by omega) (fun i hi => by rw [r2 46 0 i (by decide)]; exact z46 i hi) (by rw [r1 47 (by decide) (by decide)]; exact z47) hTr' hTF' hAU') (by omega) hc1 hs1⟩, h0, fun _ => rfl⟩
  show (if m0 + 1160 = m0 + 1160 then _ else _) = _
  rw [if_pos rfl]
theorem J_treeN (hI : IW b m0 tm nc ns ρ of H A c g na cs ad qs oc dt da cn bl E fa ms lo Y) {c' : CS} {ρ' : RS} {na' : Nat → Option Nat} {cs' ad' : Nat → Nat → Nat} {qs' : Nat → Nat} {oc' : Nat → Option Nat} {dt' : Nat → Nat → Int} {nc' ns' : Nat} (hc1 : nc' ≤ nc + 3) (hs1 : ns' ≤ ns + 600) (hZ' : CZ (Zr b m0) c') (so : ∀ x k i, k ≠ 12 → k ≠ 13 → c.1 x = some (k, i) → c'.1 x = some (k, i)) (so2 : ∀ x e, c'.1 x = some (14, e) → c.1 x = some (14, e)) (sv : ∀ k i f, k ≠ 12 → k ≠ 13 → k ≠ 1 → k ≠ 2 → c'.2.1 k i f = c.2.1 k i f) (s1 : c'.2.1 1 0 0 = c.2.1 1 0 0) (r2 : ∀ j r i, 10 ≤ j → ρ'.2 j r i = ρ.2 j r i) (r1 : ∀ i, i ≠ 0 → i ≠ 7 → ρ'.1 i = ρ.1 i) (rg : Rg ρ') (t1 : ρ'.1 7 = ρ.1 7 + 1) (h0 : ρ'.1 0 = 0) (hTr' : TrOk b (A 1) (A 2) c' ρ' na' cs' ad' qs' oc' dt') (hTF' : TF c' ρ' oc') (hAU' : AU ρ') {kh kr : MI} {ah ar : List Value} (hh : Wp b L xs 9 kh 0 (ent (mL kh) ah) [] H (fun h2 o => o = .inl (some (vI 0)) ∧ VH b (A 3) (Zr b m0) g c' nc' ns' (ρ.1 8).toNat (ρ.1 9).toNat bl (ρ.2 30 0) (ρ.2 31 0) h2)) (hr : ∀ h, Wp b L xs 9 kr 0 (ent (mL kr) ar) [] (RH m0 h ρ) (Rn (RH m0 h ρ'))) : JN b m0 (A 0) tm nc ns L xs H kh kr ah ar := by
  obtain ⟨hH, hZ, hga, hgo, hSI, hTr, hTF, hAU, hHI, hRI, hRQ⟩ := id hI
  obtain ⟨rg0, hEn, r16, rE, c8a, c8b, c9a, c9b, r27a, r27b, r28a, r28b, r29a, r29b, t7a, t7b, z46, z47, sp30, sp31, z42⟩ := hRI
  refine ⟨0, _, by omega, by omega, hh, ?_⟩
  intro h1 hH'
  rw [VH_RH hH' hZ' hga]
  refine ⟨⟨_, RH_obj⟩, ?_⟩
  refine Wp_im ?_ (hr _)
  rintro _ _ ⟨rfl, rfl⟩
  exact ⟨rfl, ρ', of, ⟨_, _, _, _, _, _, _, _, _, _, _, _, _, _, _, _, _, rfl, IW_more (IW_step hI hH' hgo hZ' so so2 sv s1 (fun j r i hj _ => r2 j r i hj) (fun i h1 h2 _ => r1 i h1 h2) rg (by omega) (tm' := tm + 1) (by omega) (fun i hi => by rw [r2 46 0 i (by decide)]; exact z46 i hi) (by rw [r1 47 (by decide) (by decide)]; exact z47) hTr' hTF' hAU') (by omega) hc1 hs1⟩, h0⟩
end Jt
theorem ins_at {nm : Nat → Int} (w : Int) (q : Nat) : ∃ t, t ≤ q ∧ (∀ j, j < t → nm j < w) ∧ (t < q → w ≤ nm t) := by
  rcases least (P := fun j => w ≤ nm j) q with h | ⟨t, h1, h2, h3⟩
  · exact ⟨q, Nat.le_refl _, fun j hj => by have := h j hj; omega, fun z => absurd z (Nat.lt_irrefl _)⟩
  · exact ⟨t, by omega, fun j hj => by have := h3 j hj; omega, fun _ => h2⟩
theorem rMk_g {ρ : RS} (hg : Rg ρ) {p n : Nat} {w f : Int} (hp : p < 256) (w1 : 1 ≤ w) (w2 : w ≤ 30000) (t0 : 0 ≤ ρ.1 7) (t1 : ρ.1 7 ≤ 100000) : Rg (rMake ρ p w f n) := by
  unfold rMake
  refine (((((((hg.upF 0 (by omega) (by omega)).upF 7 (by omega) (by omega)).upA 1 0 n ?_ ?_).upA 2 0 n (by omega) (by omega)).upA 3 0 n (by omega) (by omega)).upA 4 0 n (by omega) (by omega)).upA 5 0 n (by omega) (by omega)).upA 5 0 _ (by omega) (by omega)
  · split <;> omega
  · split <;> omega
section Jm
variable {L : Nat} {xs : Nat → Int32} {b m0 A0 tm nc ns : Nat} {ρ : RS} {of : Nat → Value} {H : AH}
theorem J_make (hI : Iv b m0 A0 tm nc ns ρ of H) (hb : b < m0) (htm : tm ≤ 1000) {p w f : Int} (p1 : -2147483648 ≤ p) (p2 : p ≤ 2147483647) (w1 : -2147483648 ≤ w) (w2 : w ≤ 2147483647) (hf : f = 0 ∨ f = 1) : JV b m0 A0 tm nc ns L xs H mi_14 mi_114 [.ref A0, vI p, vI w, vI f, .ref (m0 + 1160)] [.ref m0, vI p, vI w, vI f] := by
  obtain ⟨A, c, g, na, cs, ad, qs, oc, dt, da, cn, bl, E, fa, ms, lo, Y, rfl, hI⟩ := hI
  obtain ⟨fs, ho⟩ := IW_ob hI
  have hI0 := hI
  obtain ⟨hH, hZ, hga, hgo, hSI, hTr, hTF, hAU, hHI, hRI, hRQ⟩ := hI
  obtain ⟨oV, oT, oN, oR, oDs, hQI, v0, v1x, v2x, v3, v4, vT, vw0, vw1, nNb, nDb⟩ := hSI
  obtain ⟨rg, hEn, r16, rE, c8a, c8b, c9a, c9b, r27a, r27b, r28a, r28b, r29a, r29b, t7a, t7b, z46, z47, sp30, sp31, z42⟩ := hRI
  by_cases h1 : (0 ≤ p ∧ p < 256 ∧ ρ.2 1 0 p.toNat = 2) ∧ 1 ≤ w ∧ w ≤ 30000
  rotate_left
  · exact J_errV hI0 (k := 1) (by decide) (by decide) (hE_make_0 9 (by decide) ho (T_make_1 hI0 p1 p2 w1 w2 (by
      by_cases z : 0 ≤ p ∧ p < 256 ∧ ρ.2 1 0 p.toNat = 2
      · exact Or.inr (fun y => h1 ⟨z, y⟩)
      · exact Or.inl z))) (fun h => r_make_1 hb rg 9 (by decide) p1 p2 w1 w2 hf (by
      by_cases z : 0 ≤ p ∧ p < 256 ∧ ρ.2 1 0 p.toNat = 2
      · exact Or.inr (by
          by_cases y : w < 1
          · exact Or.inl y
          · exact Or.inr (by
              by_cases y2 : 30000 < w
              · exact y2
              · exact absurd ⟨z, by omega, by omega⟩ h1))
      · exact Or.inl z))
  obtain ⟨⟨g1, g2, g3⟩, g4, g5⟩ := h1
  obtain ⟨p, rfl⟩ : ∃ n : Nat, p = n := ⟨p.toNat, by omega⟩
  have hp : p < 256 := by omega
  have g3b := g3
  rw [Int.toNat_natCast] at g3
  have dir := hTr.2.2.2.2.1 p hp (by rw [g3]; decide)
  by_cases h2 : ∃ t, t < qs p ∧ ρ.2 3 0 (cs p t) = w
  · refine J_errV hI0 (k := 2) (by decide) (by decide) (hE_make_1 9 (by decide) ho (T_make_2 hI0 hp g3 g4 g5 h2)) (fun h => r_make_2 hb rg 9 (by decide) p1 p2 w1 w2 hf ⟨g1, g2, g3b⟩ g4 g5 ?_)
    obtain ⟨t, ht, hte⟩ := h2
    rw [named_p dir.1 ht hte]
    omega
  have h2 : ∀ t, t < qs p → ρ.2 3 0 (cs p t) ≠ w := fun t ht z => h2 ⟨t, ht, z⟩
  have nn := named_n dir.1 h2
  rcases least (P := fun j => ρ.2 1 0 j = 0) 256 with hfull | ⟨n, n1, n2, n3⟩
  · exact J_errV hI0 (k := 3) (by decide) (by decide) (hE_make_2 9 (by decide) ho (T_make_3 hI0 hp g3 g4 g5 h2 hfull)) (fun h => r_make_3 hb rg 9 (by decide) p1 p2 w1 w2 hf ⟨g1, g2, g3b⟩ g4 g5 (by rw [nn]; decide) (fun j _ j2 => hfull j j2))
  have n0 : 1 ≤ n := by
    rcases Nat.eq_zero_or_pos n with z | z
    · rw [z] at n2
      have := hTr.2.2.1.1
      omega
    · exact z
  obtain ⟨t, t1, t2, t3⟩ := ins_at (nm := fun j => ρ.2 3 0 (cs p j)) w (qs p)
  obtain ⟨hp', hpa, wm⟩ := T_make (L := L) (xs := xs) hI0 hp g3 g4 g5 hf h2 n1 n2 n3 t1 t2 t3
  have fr := (VH_fr hH).1 H.1 (Nat.le_refl _)
  have tr := Tr_make hTr hAU hTF n0 n1 n2 hp g3 hpa fr.2 g4 g5 h2 t1 t2 t3 hf rfl t7a (by omega)
  have hZ' : CZ (Zr b m0) (adC c n p H.1 hp' (if f = 0 then 1 else 2) w (ρ.1 7) (cnt (fun n => ρ.2 1 0 n ≠ 0) 0 256) t (cs p) (va_rf (ptr (ad p) t (qs p))) (rEnt ρ p)) := fun x q hx => by
    rw [adC_own] at hx
    by_cases e : x = H.1
    · rw [e]; exact fr.1
    · rw [if_neg e] at hx
      exact hZ x q hx
  refine J_treeV hI0 (v := n) (by omega) (by omega) hZ' (fun x k i k1 k2 hx => ?_) (fun x e hx => ?_) (fun k i f' k1 k2 k3 k4 => adC_k k1 (by omega) (by omega)) (adC_k (by decide) (by omega) (by omega)) (fun j r i hj => rMk_6 ρ p n w f r i (by omega)) (fun i i1 i2 => by rw [rMk_F, if_neg i2, if_neg i1]) (rMk_g rg hp g4 g5 t7a (by omega)) (by rw [rMk_F, if_pos rfl]) (by rw [rMk_F, if_neg (by decide), if_pos rfl]) tr.1 tr.2.2 tr.2.1 (hV_make 9 (by decide) ho wm (fun h' hh => by rw [VH_g hh hZ' (nZ b m0)]; exact hgo)) (fun h => r_make hb rg 9 (by decide) p1 p2 w1 w2 hf ⟨g1, g2, g3b⟩ g4 g5 (by rw [nn]; decide) n0 n1 n2 (fun j _ j2 => n3 j j2))
  · rw [adC_own, if_neg (fun z => by rw [z, fr.2] at hx; cases hx)]
    exact hx
  · rw [adC_own] at hx
    by_cases e9 : x = H.1
    · rw [if_pos e9] at hx
      cases hx
    · rw [if_neg e9] at hx
      exact hx
end Jm
