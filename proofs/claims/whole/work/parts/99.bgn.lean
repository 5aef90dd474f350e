/-! begin, both together -/
section Rbg
variable (ρ : RS) (v : Int)
theorem rB_1 (m : Nat) : (rBegin ρ v).2 1 0 m = if m = 0 then 2 else if m < 256 then 0 else ρ.2 1 0 m := by simp [rBegin, upA_g, upF_2, rz]
theorem rB_2 (m : Nat) : (rBegin ρ v).2 2 0 m = if m = 0 then 0 else ρ.2 2 0 m := by simp [rBegin, upA_g, upF_2, rz]
theorem rB_3 (m : Nat) : (rBegin ρ v).2 3 0 m = if m = 0 then 0 else ρ.2 3 0 m := by simp [rBegin, upA_g, upF_2, rz]
theorem rB_5 (m : Nat) : (rBegin ρ v).2 5 0 m = if m = 0 then 0 else ρ.2 5 0 m := by simp [rBegin, upA_g, upF_2, rz]
theorem rB_30 (i : Nat) : (rBegin ρ v).2 30 0 i = if i < 4001 then 0 else ρ.2 30 0 i := by simp [rBegin, upA_g, upF_2, rz]
theorem rB_31 (i : Nat) : (rBegin ρ v).2 31 0 i = if i < 4001 then 0 else ρ.2 31 0 i := by simp [rBegin, upA_g, upF_2, rz]
theorem rB_o {j : Nat} (r i : Nat) (h1 : j ≠ 1) (h2 : j ≠ 2) (h3 : j ≠ 3) (h5 : j ≠ 5) (h30 : j ≠ 30) (h31 : j ≠ 31) : (rBegin ρ v).2 j r i = ρ.2 j r i := by simp [rBegin, upA_g, upF_2, rz, h1, h2, h3, h5, h30, h31]
theorem rB_F : (rBegin ρ v).1 0 = 0 ∧ (rBegin ρ v).1 7 = 0 ∧ (rBegin ρ v).1 8 = v ∧ (rBegin ρ v).1 9 = 0 ∧ (rBegin ρ v).1 16 = 0 ∧ (rBegin ρ v).1 27 = 0 ∧ (rBegin ρ v).1 28 = 0 ∧ (rBegin ρ v).1 29 = 0 ∧ (rBegin ρ v).1 42 = 0 ∧ (rBegin ρ v).1 43 = 0 ∧ (rBegin ρ v).1 44 = 0 ∧ (rBegin ρ v).1 45 = 0 ∧ (rBegin ρ v).1 47 = ρ.1 47 := by simp [rBegin, upA, upF_g, rz]
end Rbg
theorem rz_g {ρ : RS} (hg : Rg ρ) (j n : Nat) : Rg (rz ρ j n) := ⟨hg.1, fun j' r i => by
  show -2147483648 ≤ (if j' = j ∧ r = 0 ∧ i < n then 0 else ρ.2 j' r i) ∧ (if j' = j ∧ r = 0 ∧ i < n then 0 else ρ.2 j' r i) ≤ 2147483647
  split
  · decide
  · exact hg.2 j' r i⟩
theorem rB_g {ρ : RS} (hg : Rg ρ) {v : Int} (v1 : 4 ≤ v) (v2 : v ≤ 1000) : Rg (rBegin ρ v) := by
  unfold rBegin
  exact ((((rz_g (rz_g ((((((((((((rz_g (hg.upF 0 (by omega) (by omega)) 1 256).upA 1 0 0 (by omega) (by omega)).upA 2 0 0 (by omega) (by omega)).upA 3 0 0 (by omega) (by omega)).upA 5 0 0 (by omega) (by omega)).upF 7 (by omega) (by omega)).upF 8 (by omega) (by omega)).upF 9 (by omega) (by omega)).upF 16 (by omega) (by omega)).upF 27 (by omega) (by omega)).upF 28 (by omega) (by omega)).upF 29 (by omega) (by omega)) 30 4001) 31 4001).upF 42 (by omega) (by omega)).upF 43 (by omega) (by omega)).upF 44 (by omega) (by omega)).upF 45 (by omega) (by omega)
section Nwa
variable {c : CS} {a : Nat} {fa ms lo : Nat → Int}
theorem nwA_k {k i f : Nat} (h0 : ¬ (k = 0 ∧ f = 5)) (h7 : k ≠ 7) (h8 : k ≠ 8) (h9 : k ≠ 9) (h10 : k ≠ 10) (h11 : k ≠ 11) : (nwA c a fa ms lo).2.1 k i f = (clC (dpP c pdA) a).2.1 k i f := by
  unfold nwA
  rw [upC_ne (by omega)]
  show (if k = 11 ∧ i = 0 then _ else (if k = 7 ∧ i = 0 then _ else if k = 8 ∧ i = 0 then _ else if k = 9 ∧ i = 0 then _ else if k = 10 ∧ i = 0 then _ else (clC (dpP c pdA) a).2.1 k i)) f = _
  rw [if_neg (fun z => h11 z.1), if_neg (fun z => h7 z.1), if_neg (fun z => h8 z.1), if_neg (fun z => h9 z.1), if_neg (fun z => h10 z.1)]
theorem clC_k {k i f : Nat} (h12 : k ≠ 12) (h2 : k ≠ 2) (h1 : ¬ (k = 1 ∧ (f = 1 ∨ f = 2))) : (clC (dpP c pdA) a).2.1 k i f = c.2.1 k i f := by
  unfold clC
  rw [upC_ne (by omega), upC_ne (by omega), upC_ne (by omega), upC_ne (by omega), upC_ne (by omega), nw_v (by omega)]
  show (if k = 2 ∧ i = 0 then _ else c.2.1 k i) f = _
  rw [if_neg (fun z => h2 z.1)]
theorem clC_2 (m : Nat) (hm : m < 256) : (clC (dpP c pdA) a).2.1 2 0 m = if m = 0 then .ref a else .null := by
  unfold clC
  rw [upC_ne (by omega), upC_ne (by omega)]
  by_cases e : m = 0
  · rw [if_pos e, e, upC_eq]
  · rw [if_neg e, upC_ne (by omega), upC_ne (by omega), upC_ne (by omega), nw_v (by omega)]
    exact if_pos hm
theorem clC_n (f : Nat) (h0 : f ≠ 0) (h1 : f ≠ 1) : (clC (dpP c pdA) a).2.1 12 0 f = nd0 f := by
  unfold clC
  rw [upC_ne (by omega), upC_ne (by omega), upC_ne (by omega), upC_ne (by omega), upC_ne (by omega), nw_s]
theorem clC_n01 : (clC (dpP c pdA) a).2.1 12 0 0 = vI 0 ∧ (clC (dpP c pdA) a).2.1 12 0 1 = vI 2 := by
  unfold clC
  refine ⟨?_, ?_⟩
  · rw [upC_ne (by omega), upC_ne (by omega), upC_ne (by omega), upC_ne (by omega), upC_eq]
  · rw [upC_ne (by omega), upC_ne (by omega), upC_ne (by omega), upC_eq]
theorem nwA_own (x : Nat) : (nwA c a fa ms lo).1 x = if x = a then some (12, 0) else (dpP c pdA).1 x := rfl
end Nwa
theorem IW_new {b m0 nc' ns' v : Nat} {ρ : RS} {of : Nat → Value} {H' : AH} {A : Nat → Nat} {c : CS} {g1 : Nat → Option AO} {bl : Nat → Nat → Int} {a : Nat} {fa ms lo : Nat → Int} (tm : Nat) (hH : VH b (A 3) (Zr b m0) g1 (nwA c a fa ms lo) nc' ns' v 0 bl (fun _ => 0) (fun _ => 0) H') (hg1 : g1 (m0 + 1160) = some (.inl (.long, 1, of))) (hSI : SI b c A) (hZ : CZ (Zr b m0) c) (fr : c.1 a = none) (frZ : Zr b m0 a) (v1 : 4 ≤ v) (v2 : v ≤ 1000) (rg : Rg ρ) (hT : TreeOk ρ) (hE : EntOk ρ) (z46 : ∀ i, 64 ≤ i → ρ.2 46 0 i = 0) (z47 : 0 ≤ ρ.1 47) (h30 : ∀ i, 4001 ≤ i → ρ.2 30 0 i = 0) (h31 : ∀ i, 4001 ≤ i → ρ.2 31 0 i = 0) : IW b m0 tm nc' ns' (rBegin ρ v) of (RH m0 H' (rBegin ρ v)) A (nwA c a fa ms lo) (gR g1 m0 (rBegin ρ v)) (fun m => if m = 0 then some a else none) (fun _ _ => 0) (fun _ _ => 0) (fun _ => 0) (fun _ => none) (fun _ _ => 0) (fun _ => 0) (fun _ => 0) bl 0 fa ms lo (fun _ => yNo) := by
  obtain ⟨F0, F7, F8, F9, F16, F27, F28, F29, F42, F43, F44, F45, F47⟩ := rB_F ρ (v : Int)
  have own : ∀ x k, k ≠ 12 → k ≠ 13 → k ≠ 14 → c.1 x = some (k, 0) → (nwA c a fa ms lo).1 x = some (k, 0) := fun x k h1 h2 h3 hx => by
    rw [nwA_own, if_neg (fun z => by rw [z, fr] at hx; cases hx)]
    exact dpP_o hx (pdA_f h1 h2 h3)
  have oi : ∀ x q, (nwA c a fa ms lo).1 x = some q → (x = a ∧ q = (12, 0)) ∨ (c.1 x = some q ∧ pdA q = false) := fun x q hx => by
    rw [nwA_own] at hx
    by_cases e : x = a
    · rw [if_pos e] at hx
      cases hx
      exact Or.inl ⟨e, rfl⟩
    · rw [if_neg e] at hx
      exact Or.inr (dpP_i hx)
  have hZ' : CZ (Zr b m0) (nwA c a fa ms lo) := fun x q hx => by
    rcases oi x q hx with ⟨e, -⟩ | ⟨h1, -⟩
    · rw [e]; exact frZ
    · exact hZ x q h1
  have e30 : (rBegin ρ v).2 30 0 = fun _ => 0 := funext fun i => by
    rw [rB_30]
    split
    · rfl
    · exact h30 i (by omega)
  have e31 : (rBegin ρ v).2 31 0 = fun _ => 0 := funext fun i => by
    rw [rB_31]
    split
    · rfl
    · exact h31 i (by omega)
  have k1 : ∀ m, m < 256 → m ≠ 0 → (rBegin ρ v).2 1 0 m = 0 := fun m h1 h2 => by rw [rB_1, if_neg h2, if_pos h1]
  have k0 : (rBegin ρ v).2 1 0 0 = 2 := by rw [rB_1, if_pos rfl]
  have r0 : rEnt (rBegin ρ v) 0 = 0 := cnt_0 255 1 (fun j j1 j2 z => z.1 (k1 j (by omega) (by omega)))
  have kd : ∀ m, m < 256 → (rBegin ρ v).2 1 0 m ≠ 0 → m = 0 := fun m h1 h2 => by
    by_cases e : m = 0
    · exact e
    · exact absurd (k1 m h1 e) h2
  have oA : (nwA c a fa ms lo).1 a = some (12, 0) := by rw [nwA_own, if_pos rfl]
  have n12 : ∀ f, (nwA c a fa ms lo).2.1 12 0 f = (clC (dpP c pdA) a).2.1 12 0 f := fun f => nwA_k (by omega) (by decide) (by decide) (by decide) (by decide) (by decide)
  have cc : cnt (fun n => (rBegin ρ v).2 1 0 n ≠ 0) 0 256 = 1 := by
    rw [show (256 : Nat) = 255 + 1 from rfl, cnt_pos_s, if_pos (show (rBegin ρ v).2 1 0 0 ≠ 0 from by rw [k0]; decide), cnt_0 255 (0 + 1) (fun j j1 j2 z => z (k1 j (by omega) (by omega)))]
  refine ⟨?_, hZ', fun a h1 h2 => if_pos ⟨h1, h2⟩, ?_, SI_c hSI own (fun k f h1 h2 h3 h4 h5 h6 h7 h8 h9 h10 h11 => ?_) ?_, ⟨⟨own _ 1 (by decide) (by decide) (by decide) hSI.2.1, ?_, own _ 2 (by decide) (by decide) (by decide) hSI.2.2.1, ?_, ?_, fun m hm => ?_⟩, fun m hm => ?_, ⟨k0, by rw [rB_2, if_pos rfl], by rw [rB_3, if_pos rfl]⟩, fun m hm hm0 hmk => absurd (k1 m hm hm0) hmk, fun m hm hmk => ?_, fun m hm hmk => ?_⟩, ⟨fun n hn hk x hx => ?_, fun n hn hk x hx => ?_⟩, fun n hn hk => ?_, ⟨?_, fun e he => ?_, fun e _ x hx => ?_, fun e he => absurd he (Nat.not_lt_zero _), fun e he => absurd he (Nat.not_lt_zero _), fun e he => absurd he (Nat.not_lt_zero _), fun e a B he => absurd he (Nat.not_lt_zero _), fun _ => ⟨F9, F27⟩, fun z => absurd z (Nat.not_lt_zero _), fun r hr => by rw [F27] at hr; omega⟩, ?_, ?_⟩
  · rw [F8, F9, e30, e31, Int.toNat_natCast]
    exact VH_ref _ hH hZ'
  · show (if m0 ≤ m0 + 1160 ∧ m0 + 1160 < m0 + 1160 then _ else g1 (m0 + 1160)) = _
    rw [if_neg (by omega)]
    exact hg1
  · by_cases e : k = 7
    · subst e
      unfold nwA
      rw [upC_ne (by omega)]
      show qfl ((clC (dpP c pdA) a).2.1 7 0) 0 0 0 0 f = _
      unfold qfl
      rw [if_neg (by omega), if_neg (by omega), if_neg (by omega), if_neg (by omega)]
      exact clC_k (by decide) (by decide) (by omega)
    · rw [nwA_k h6 e h8 h9 h10 h11, clC_k h1 h5 (by omega)]
  · rw [nwA_k (by decide) (by decide) (by decide) (by decide) (by decide) (by decide), clC_k (by decide) (by decide) (by decide)]
  · rw [nwA_k (by decide) (by decide) (by decide) (by decide) (by decide) (by decide), clC_k (by decide) (by decide) (by decide)]
    exact hSI.2.2.2.2.2.2.2.2.2.2.2.1
  · rw [nwA_k (by decide) (by decide) (by decide) (by decide) (by decide) (by decide), cc]
    unfold clC
    rw [upC_ne (by omega), upC_eq]
    rfl
  · rw [nwA_k (by decide) (by decide) (by decide) (by decide) (by decide) (by decide), F7]
    unfold clC
    rw [upC_eq]
  · have n2m : (nwA c a fa ms lo).2.1 2 0 m = if m = 0 then .ref a else .null := by rw [nwA_k (by omega) (by decide) (by decide) (by decide) (by decide) (by decide), clC_2 m hm]
    by_cases e : m = 0
    · subst e
      right
      refine ⟨a, rfl, n2m, oA, by rw [k0]; decide, by rw [n12, clC_n01.1]; rfl, by rw [n12, clC_n01.2, k0], by rw [n12, clC_n _ (by decide) (by decide), if_pos rfl]; rfl, by rw [n12, clC_n _ (by decide) (by decide), rB_3, if_pos rfl]; rfl, ?_, by rw [n12, clC_n _ (by decide) (by decide), rB_5, if_pos rfl]; rfl⟩
      rw [n12, clC_n _ (by decide) (by decide)]
      unfold szv
      rw [k0, if_neg (by decide), show ((0 : Nat) : Int) = (0 : Int) from rfl, r0]
      rfl
    · left
      exact ⟨if_neg e, by rw [n2m, if_neg e], k1 m hm e⟩
  · have t1 := hT m hm
    rw [rB_1, rB_2, rB_3, rB_5, rB_o ρ v 0 m (by decide) (by decide) (by decide) (by decide) (by decide) (by decide)]
    by_cases e : m = 0
    · rw [if_pos e, if_pos e, if_pos e, if_pos e]
      omega
    · rw [if_neg e, if_neg e, if_neg e, if_neg e, if_pos hm]
      omega
  · obtain rfl := kd m hm hmk
    refine ⟨⟨fun i hi => absurd hi (Nat.not_lt_zero _), fun i j _ hj => absurd hj (Nat.not_lt_zero _), fun x x1 x2 x3 _ => absurd (k1 x x2 (by omega)) x3, fun i hi => absurd hi (Nat.not_lt_zero _)⟩, r0, ⟨?_, fun i hi => absurd hi (Nat.not_lt_zero _)⟩, fun i hi => absurd hi (Nat.not_lt_zero _)⟩
    rw [n12, clC_n _ (by decide) (by decide)]
    rfl
  · obtain rfl := kd m hm (by rw [hmk]; decide)
    rw [k0] at hmk
    exact absurd hmk (by decide)
  · rcases oi x _ hx with ⟨-, e⟩ | ⟨-, h2⟩
    · cases e
      rw [k0] at hk
      exact absurd hk (by decide)
    · exact absurd h2 (by simp [pdA])
  · rcases oi x _ hx with ⟨-, e⟩ | ⟨-, h2⟩
    · cases e
    · exact absurd h2 (by simp [pdA])
  · obtain rfl := kd n hn hk
    exact ⟨0, rfl⟩
  · exact upC_eq _ _ _ _ _
  · unfold nwA
    rw [upC_ne (by omega), if_neg (Nat.not_lt_zero _)]
    exact if_pos he
  · rcases oi x _ hx with ⟨-, e9⟩ | ⟨-, h2⟩
    · cases e9
    · exact absurd h2 (by simp [pdA])
  · unfold RI
    rw [F7, F8, F9, F16, F27, F28, F29, F42, F47, e30, e31]
    refine ⟨rB_g rg (by omega) (by omega), fun k => ?_, rfl, by decide, by omega, by omega, by decide, ?_, by decide, by decide, by decide, by decide, by decide, by decide, by decide, by omega, fun i hi => by rw [rB_o ρ v 0 i (by decide) (by decide) (by decide) (by decide) (by decide) (by decide)]; exact z46 i hi, z47, fun _ => Or.inl rfl, fun _ => Or.inl rfl, Or.inl rfl⟩
    · rw [rB_o ρ v 0 k (by decide) (by decide) (by decide) (by decide) (by decide) (by decide), rB_o ρ v 0 k (by decide) (by decide) (by decide) (by decide) (by decide) (by decide)]
      exact hE k
    · have : pts 0 ((v : Int) - 1) = 0 := by
        unfold pts
        exact Int.ediv_eq_zero_of_lt (by omega) (by omega)
      omega
  · rw [RQ, F42, F43, F44, F45]
    exact ⟨rfl, rfl, rfl, rfl, fun j => rfl, fun j => rfl, fun j => rfl, fun z => absurd z (by decide)⟩
section Jbg
variable {L : Nat} {xs : Nat → Int32} {b m0 A0 tm nc ns : Nat} {ρ : RS} {of : Nat → Value} {H : AH}
theorem J_begin (hI : Iv b m0 A0 tm nc ns ρ of H) (hb : b < m0) {v : Int} (v1 : -2147483648 ≤ v) (v2 : v ≤ 2147483647) : JN b m0 A0 tm nc ns L xs H mi_12 mi_111 [.ref A0, vI v] [.ref m0, vI v] := by
  obtain ⟨A, c, g, na, cs, ad, qs, oc, dt, da, cn, bl, E, fa, ms, lo, Y, rfl, hI⟩ := hI
  obtain ⟨fs, ho⟩ := IW_ob hI
  have hI0 := hI
  obtain ⟨hH, hZ, hga, hgo, hSI, hTr, hTF, hAU, hHI, hRI, hRQ⟩ := hI
  obtain ⟨oV, oT, oN, oR, oDs, hQI, v0, v1x, v2x, v3, v4, vT, vw0, vw1, nNb, nDb⟩ := hSI
  obtain ⟨rg, hEn, r16, rE, c8a, c8b, c9a, c9b, r27a, r27b, r28a, r28b, r29a, r29b, t7a, t7b, z46, z47, sp30, sp31, z42⟩ := hRI
  by_cases h1 : v < 4 ∨ 1000 < v
  · have wt : Wp b L xs 8 mi_13 0 (ent (mL mi_13) [.ref (A 0), vI v]) [] H (fun h' o => h' = hskip H 6 ∧ o = .inr 0) := by
      by_cases q : v < 4
      · refine w_iload_n rfl rfl ?_
        refine w_iconst rfl ?_
        refine w_iclt_t rfl (by omega) (by omega) (by omega) (by omega) (by first | omega | (simp only [Int.toNat_natCast, upF_2] at *; omega)) ?_
        refine w_throw rfl (by first | omega | (simp only [Int.toNat_natCast, upF_2] at *; omega)) (Nat.le_of_ble_eq_true rfl) ?_
        exact ⟨rfl, rfl⟩
      · refine w_iload_n rfl rfl ?_
        refine w_iconst rfl ?_
        refine w_iclt_f rfl (by omega) (by omega) (by omega) (by omega) (by first | omega | (simp only [Int.toNat_natCast, upF_2] at *; omega)) ?_
        refine w_iload_n rfl rfl ?_
        refine w_sipush rfl rfl ?_
        refine w_icle_f rfl (by omega) (by omega) (by omega) (by omega) (by first | omega | (simp only [Int.toNat_natCast, upF_2] at *; omega)) ?_
        refine w_throw rfl (by first | omega | (simp only [Int.toNat_natCast, upF_2] at *; omega)) (Nat.le_of_ble_eq_true rfl) ?_
        exact ⟨rfl, rfl⟩
    exact J_errN hI0 (k := 1) (by decide) (by decide) (hE_begin_0 9 (by decide) ho wt) (fun h => r_begin_e hb rg 9 (by decide) v1 v2 h1)
  obtain ⟨n, rfl⟩ : ∃ m : Nat, v = m := ⟨v.toNat, by omega⟩
  have hSI2 := hI0.2.2.2.2.1
  have wn := V_new6 (L := L) (xs := xs) hH hZ hSI2 ⟨hRQ.1, hRQ.2.1, hRQ.2.2.1, hRQ.2.2.2.1, hRQ.2.2.2.2.1, hRQ.2.2.2.2.2.1, hRQ.2.2.2.2.2.2.1⟩ 7 (by decide) (n := n) (by omega) (by omega)
  have wt : Wp b L xs 8 mi_13 0 (ent (mL mi_13) [.ref (A 0), vI n]) [] H (fun h' o => o = .inl none ∧ ∃ fa' ms' lo', VH b (A 3) (Zr b m0) g (nwA c H.1 fa' ms' lo') (nc + 1) (ns + 9) n 0 bl (fun _ => 0) (fun _ => 0) h') := by
    refine w_iload_n rfl rfl ?_
    refine w_iconst rfl ?_
    refine w_iclt_f rfl (by omega) (by omega) (by omega) (by omega) (by first | omega | (simp only [Int.toNat_natCast, upF_2] at *; omega)) ?_
    refine w_iload_n rfl rfl ?_
    refine w_sipush rfl rfl ?_
    refine w_icle_t rfl (by omega) (by omega) (by omega) (by omega) (by first | omega | (simp only [Int.toNat_natCast, upF_2] at *; omega)) ?_
    refine w_aload_n rfl rfl ?_
    refine w_iload_n rfl rfl ?_
    refine w_cv rfl (by decide) (by first | omega | (simp only [Int.toNat_natCast, upF_2] at *; omega)) rfl (VH_at hH oV (by decide) (by decide) (by decide)) mt_6 (Nat.le_of_ble_eq_true rfl) (Nat.le_of_ble_eq_true rfl) wn ?_
    rintro _ _ ⟨rfl, hq9⟩
    refine ⟨none, rfl, ?_⟩
    refine w_return rfl rfl ?_
    exact ⟨rfl, hq9⟩
  have fr := (VH_fr hH).1 H.1 (Nat.le_refl _)
  have hpt : 0 ≤ pts (ρ.1 9) (ρ.1 8 - 1) := Int.ediv_nonneg (by omega) (by omega)
  have hz : (∀ i, 4001 ≤ i → ρ.2 30 0 i = 0) ∧ (∀ i, 4001 ≤ i → ρ.2 31 0 i = 0) := by
    obtain ⟨h9, W0, P0, len, wr, W, S, -, hV, hvv⟩ := VV_len hH
    refine ⟨fun i hi => hvv.2.2.2.1 i (by omega), fun i hi => hvv.2.2.2.2 i ?_⟩
    have : i * 3 ≤ i * ((ρ.1 8).toNat - 1) := Nat.mul_le_mul_left i (by omega)
    omega
  refine ⟨0, _, by decide, by decide, hN_begin 9 (by decide) ho wt, ?_⟩
  rintro h1' ⟨fa', ms', lo', hh⟩
  have hZ' : CZ (Zr b m0) (nwA c H.1 fa' ms' lo') := fun x q hx => by
    rw [nwA_own] at hx
    by_cases e : x = H.1
    · rw [e]; exact fr.1
    · rw [if_neg e] at hx
      exact hZ x q (dpP_i hx).1
  rw [VH_RH hh hZ' hga]
  refine ⟨⟨_, RH_obj⟩, ?_⟩
  refine Wp_im ?_ (r_begin hb rg 9 (by decide) (by omega) (by omega))
  rintro _ _ ⟨rfl, rfl⟩
  exact ⟨rfl, _, of, ⟨_, _, _, _, _, _, _, _, _, _, _, _, _, _, _, _, _, rfl, IW_more (IW_new (tm + 1) hh hgo hSI2 hZ fr.2 fr.1 (by omega) (by omega) rg hTr.2.1 hEn z46 z47 hz.1 hz.2) (by omega) (by omega) (by omega)⟩, (rB_F ρ n).1⟩
end Jbg
