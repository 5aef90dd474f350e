/-! restore, both together -/
section Tre
variable {L : Nat} {xs : Nat → Int32} {b m0 tm nc ns : Nat} {ρ : RS} {of : Nat → Value} {H : AH} {A : Nat → Nat} {c : CS} {g : Nat → Option AO} {na : Nat → Option Nat} {cs ad : Nat → Nat → Nat} {qs : Nat → Nat} {oc : Nat → Option Nat} {dt : Nat → Nat → Int} {da cn : Nat → Nat} {bl : Nat → Nat → Int} {E : Nat} {fa ms lo : Nat → Int} {Y : YS}
theorem T_rest_1 (hI : IW b m0 tm nc ns ρ of H A c g na cs ad qs oc dt da cn bl E fa ms lo Y) {k : Int} (k1 : -2147483648 ≤ k) (k2 : k ≤ 2147483647) (hc : k < 0 ∨ (E : Int) ≤ k) : Wp b L xs 8 mi_77 0 (ent (mL mi_77) [.ref (A 0), vI k]) [] H (fun h' o => h' = hskip H 6 ∧ o = .inr 2) := by
  have hI0 := hI
  obtain ⟨hH, hZ, hga, hgo, hSI, hTr, hTF, hAU, hHI, hRI, hRQ⟩ := hI
  obtain ⟨oV, oT, oN, oR, oDs, hQI, v0, v1, v2, v3, v4, vT, vw0, vw1, nNb, nDb⟩ := hSI
  have vE := hHI.1
  have rE := hRI.2.2.2.1
  by_cases q : k < 0
  · refine w_iload_n rfl rfl ?_
    refine w_iflt_t rfl (by omega) (by omega) (by first | omega | (simp only [Int.toNat_natCast, upF_2] at *; omega)) ?_
    refine w_aconst_null rfl ?_
    refine w_goto rfl ?_
    refine w_astore_nQ (x := none) rfl (by decide) ?_
    refine w_aload_nQ (x := none) rfl rfl ?_
    refine w_ifnonnull_n rfl ?_
    refine w_throw rfl (by decide) (Nat.le_of_ble_eq_true rfl) ?_
    exact ⟨rfl, rfl⟩
  · refine w_iload_n rfl rfl ?_
    refine w_iflt_f rfl (by omega) (by omega) (by first | omega | (simp only [Int.toNat_natCast, upF_2] at *; omega)) ?_
    refine w_iload_n rfl rfl ?_
    refine w_aload_n rfl rfl ?_
    refine w_getfield rfl (VH_at hH oV (by decide) (by decide) (by decide)) rfl ?_
    rw [vE]
    refine w_iclt_f rfl (by omega) (by omega) (by omega) (by omega) (by first | omega | (simp only [Int.toNat_natCast, upF_2] at *; omega)) ?_
    refine w_aconst_null rfl ?_
    refine w_goto rfl ?_
    refine w_astore_nQ (x := none) rfl (by decide) ?_
    refine w_aload_nQ (x := none) rfl rfl ?_
    refine w_ifnonnull_n rfl ?_
    refine w_throw rfl (by decide) (Nat.le_of_ble_eq_true rfl) ?_
    exact ⟨rfl, rfl⟩
theorem T_rest (hI : IW b m0 tm nc ns ρ of H A c g na cs ad qs oc dt da cn bl E fa ms lo Y) {k : Nat} (hk : k < E) : Wp b L xs 8 mi_77 0 (ent (mL mi_77) [.ref (A 0), vI k]) [] H (fun h' o => (¬ whl ρ (cn k) k ∧ o = .inl (some (vI 2)) ∧ ∃ fa ms lo, VH b (A 3) (Zr b m0) g (mkQ c 0 (cn k) 0 0 fa ms lo) nc ns (ρ.1 8).toNat (ρ.1 9).toNat bl (ρ.2 30 0) (ρ.2 31 0) h') ∨ (whl ρ (cn k) k ∧ o = .inl (some (vI (if 0 < lostN (yst ρ k (cn k) (fun _ => yNo)) then 1 else 0))) ∧ ∃ fa ms lo, QY ρ fa ms lo (yst ρ k (cn k) (fun _ => yNo)) ∧ VH b (A 3) (Zr b m0) g (mkQ c 1 (cn k) (lostN (yst ρ k (cn k) (fun _ => yNo))) (rdS ρ k (cn k)) fa ms lo) nc ns (ρ.1 8).toNat (ρ.1 9).toNat bl (ρ.2 30 0) (ρ.2 31 0) h')) := by
  have hq := T_q hI
  have hfe := T_fe hI
  have hI0 := hI
  obtain ⟨hH, hZ, hga, hgo, hSI, hTr, hTF, hAU, hHI, hRI, hRQ⟩ := hI
  obtain ⟨oV, oT, oN, oR, oDs, hQI, v0, v1, v2, v3, v4, vT, vw0, vw1, nNb, nDb⟩ := hSI
  have vE := hHI.1
  have rE := hRI.2.2.2.1
  have sp30 := hRI.2.2.2.2.2.2.2.2.2.2.2.2.2.2.2.2.2.2.1
  have va : c.2.1 11 0 (k : Int).toNat = .ref (da k) := by
    rw [Int.toNat_natCast, hHI.2.1 k (by omega), if_pos hk]
    rfl
  have oD := (hHI.2.2.2.1 k hk).1
  obtain ⟨c1, c2, c3, c4⟩ := hHI.2.2.2.2.2.1 k hk
  have wb := V_bb (L := L) (xs := xs) 7 (by decide) hq hQI hHI.2.2.2.1 hHI.2.2.2.2.1 hHI.2.2.2.2.2.2.1 sp30 hfe hk (by omega) c3 (fun s hs => bsN_E (fun e he => (DK hHI.2.2.2.2.1 he).1) s k (by omega) (fun i hi => c3 i (by omega)))
  refine w_iload_n rfl rfl ?_
  refine w_iflt_f rfl (by omega) (by omega) (by first | omega | (simp only [Int.toNat_natCast, upF_2] at *; omega)) ?_
  refine w_iload_n rfl rfl ?_
  refine w_aload_n rfl rfl ?_
  refine w_getfield rfl (VH_at hH oV (by decide) (by decide) (by decide)) rfl ?_
  rw [vE]
  refine w_iclt_t rfl (by omega) (by omega) (by omega) (by omega) (by first | omega | (simp only [Int.toNat_natCast, upF_2] at *; omega)) ?_
  refine w_aload_n rfl rfl ?_
  refine w_getfield rfl (VH_at hH oV (by decide) (by decide) (by decide)) rfl ?_
  rw [v4]
  refine w_iload_n rfl rfl ?_
  refine v_aaload hH rfl oDs (by decide) (by decide) (by decide) rfl (by first | omega | (simp only [Int.toNat_natCast, upF_2] at *; omega)) (by first | omega | (simp only [Int.toNat_natCast, upF_2] at *; omega)) (by decide) va ?_
  refine w_astore_n rfl (by decide) ?_
  refine w_aload_n rfl rfl ?_
  refine w_ifnonnull_r rfl ?_
  refine w_aload_n rfl rfl ?_
  refine w_getfield rfl (VH_at hH oV (by decide) (by decide) (by decide)) rfl ?_
  rw [v3]
  refine w_aload_n rfl rfl ?_
  refine w_cv rfl (by decide) (by first | omega | (simp only [Int.toNat_natCast, upF_2] at *; omega)) rfl (VH_at hH hQI.1 (by decide) (by decide) (by decide)) mt_78 (Nat.le_of_ble_eq_true rfl) (Nat.le_of_ble_eq_true rfl) wb ?_
  rintro h9 o9 hq9
  rcases hq9 with ⟨z1, rfl, z3⟩ | ⟨z1, rfl, z3⟩
  · refine ⟨some _, rfl, ?_⟩
    refine w_ireturn rfl rfl ?_
    exact Or.inl ⟨z1, rfl, z3⟩
  · refine ⟨some _, rfl, ?_⟩
    refine w_ireturn rfl rfl ?_
    exact Or.inr ⟨z1, rfl, z3⟩
  
end Tre
section Jre
variable {L : Nat} {xs : Nat → Int32} {b m0 A0 tm nc ns : Nat} {ρ : RS} {of : Nat → Value} {H : AH}
set_option maxHeartbeats 1000000 in
theorem J_rest (hI : Iv b m0 A0 tm nc ns ρ of H) (hb : b < m0) {k : Int} (k1 : -2147483648 ≤ k) (k2 : k ≤ 2147483647) : JV b m0 A0 tm nc ns L xs H mi_76 mi_137 [.ref A0, vI k, .ref (m0 + 1160)] [.ref m0, vI k] := by
  obtain ⟨A, c, g, na, cs, ad, qs, oc, dt, da, cn, bl, E, fa, ms, lo, Y, rfl, hI⟩ := hI
  obtain ⟨fs, ho⟩ := IW_ob hI
  have hX := IW_X hI
  have hI0 := hI
  obtain ⟨hH, hZ, hga, hgo, hSI, hTr, hTF, hAU, hHI, hRI, hRQ⟩ := hI
  obtain ⟨oV, oT, oN, oR, oDs, hQI, v0, v1x, v2x, v3, v4, vT, vw0, vw1, nNb, nDb⟩ := hSI
  obtain ⟨rg, hEn, r16, rE, c8a, c8b, c9a, c9b, r27a, r27b, r28a, r28b, r29a, r29b, t7a, t7b, z46, z47, sp30, sp31, z42⟩ := hRI
  by_cases h1 : k < 0 ∨ (E : Int) ≤ k
  · exact J_errV hI0 (k := 1) (by decide) (by decide) (hE_restore_2 9 (by decide) ho (T_rest_1 hI0 k1 k2 h1)) (fun h => r_rest_1 hb rg 9 (by decide) k1 k2 r16 rE h1)
  obtain ⟨k, rfl⟩ : ∃ m : Nat, k = m := ⟨k.toNat, by omega⟩
  have hk : k < E := by omega
  obtain ⟨c1, c2, c3, c4⟩ := hHI.2.2.2.2.2.1 k hk
  have hDk := hHI.2.2.2.2.1
  have bE : ∀ s, s < cn k → 0 ≤ bsN ρ s k ∧ bsN ρ s k < E := fun s hs => ⟨c3 s hs, bsN_E (fun e he => (DK hDk he).1) s k (by omega) (fun i hi => c3 i (by omega))⟩
  have wt := T_rest (L := L) (xs := xs) hI0 hk
  have wh : whl ρ (cn k) k ∨ ¬ whl ρ (cn k) k := Classical.em _
  have stp : ∀ (th lc rc : Int) (fa' ms' lo' : Nat → Int) (Y' : YS) (v : Int) (h' : AH) (τ : RS), VH b (A 3) (Zr b m0) g (mkQ c th (cn k) lc rc fa' ms' lo') nc ns (ρ.1 8).toNat (ρ.1 9).toNat bl (ρ.2 30 0) (ρ.2 31 0) h' → Rg τ → SameX ρ τ → (∀ i, i ≠ 0 → i ≠ 42 → i ≠ 43 → i ≠ 44 → i ≠ 45 → τ.1 i = ρ.1 i) → τ.1 0 = 0 → τ.1 43 = (cn k : Int) → τ.1 42 = th → τ.1 44 = lc → τ.1 45 = rc → (th = 0 ∨ th = 1) → (th = 1 → XI τ E fa' ms' lo' Y') → ∃ ρ' of', Iv b m0 (A 0) (tm + 1) (nc + 3) (ns + 600) ρ' of' (RH m0 (hput h' (m0 + 1160) (.inl (.long, 1, updV of 0 (.long (Int32.ofInt v).toInt64)))) τ) ∧ ρ'.1 0 = 0 ∧ ((0 : Int) = 0 → of' 0 = .long (Int32.ofInt v).toInt64) := fun th lc rc fa' ms' lo' Y' v h' τ hh rgt sx f1 f0 f43 f42 f44 f45 tz xi => by
    have hZq : CZ (Zr b m0) (mkQ c th (cn k) lc rc fa' ms' lo') := hZ
    have hH2 := VH_out hh hZq (nZ b m0) (.inl (.long, 1, updV of 0 (.long (Int32.ofInt v).toInt64)))
    have e30 : τ.2 30 0 = ρ.2 30 0 := funext fun i => sx 30 0 i (Or.inl (by decide))
    have e31 : τ.2 31 0 = ρ.2 31 0 := funext fun i => sx 31 0 i (Or.inl (by decide))
    refine ⟨τ, updV of 0 (.long (Int32.ofInt v).toInt64), ⟨_, _, _, _, _, _, _, _, _, _, _, _, _, _, _, _, _, rfl, IW_more (IW_r hI0 (c' := mkQ c th (cn k) lc rc fa' ms' lo') (τ := τ) (fa' := fa') (ms' := ms') (lo' := lo') (Y' := Y') (by rw [e30, e31]; exact hH2) ?_ rfl (fun k' i f n7 n8 n9 n10 => ?_) (fun f hf => ?_) (fun j r i hj => sx j r i (Or.inl (by omega))) (fun i h0 h42 h43 h44 h45 _ => f1 i h0 h42 h43 h44 h45) rgt (fun i hi => by rw [sx 46 0 i (Or.inr (by decide))]; exact z46 i hi) (by rw [f1 47 (by decide) (by decide) (by decide) (by decide) (by decide)]; exact z47) (fun i => by rw [sx 30 0 i (Or.inl (by decide))]; exact sp30 i) (fun i => by rw [sx 31 0 i (Or.inl (by decide))]; exact sp31 i) (by rw [f42]; exact tz) ?_) (by omega) (by omega) (by omega)⟩, f0, fun _ => rfl⟩
    · show (if m0 + 1160 = m0 + 1160 then _ else _) = _
      rw [if_pos rfl]
    · show (if k' = 7 ∧ i = 0 then _ else if k' = 8 ∧ i = 0 then _ else if k' = 9 ∧ i = 0 then _ else if k' = 10 ∧ i = 0 then _ else c.2.1 k' i) f = _
      rw [if_neg (fun z => n7 z.1), if_neg (fun z => n8 z.1), if_neg (fun z => n9 z.1), if_neg (fun z => n10 z.1)]
    · show qfl (c.2.1 7 0) th (cn k) lc rc f = c.2.1 7 0 f
      unfold qfl
      rw [if_neg (by omega), if_neg (by omega), if_neg (by omega), if_neg (by omega)]
    · rw [RQ, f42, f43, f44, f45]
      exact ⟨rfl, rfl, rfl, rfl, fun j => rfl, fun j => rfl, fun j => rfl, xi⟩
  rcases wh with wh | wh
  · refine ⟨0, if 0 < lostN (yst ρ k (cn k) (fun _ => yNo)) then 1 else 0, _, by decide, by decide, hV_restore 9 (by decide) (of := of) (v := if 0 < lostN (yst ρ k (cn k) (fun _ => yNo)) then 1 else 0) ho (P := fun h' => ∃ fa ms lo, QY ρ fa ms lo (yst ρ k (cn k) (fun _ => yNo)) ∧ VH b (A 3) (Zr b m0) g (mkQ c 1 (cn k) (lostN (yst ρ k (cn k) (fun _ => yNo))) (rdS ρ k (cn k)) fa ms lo) nc ns (ρ.1 8).toNat (ρ.1 9).toNat bl (ρ.2 30 0) (ρ.2 31 0) h') (Wp_im (fun h' o z => ?_) wt) (fun h' hh => ?_), ?_⟩
    · rcases z with ⟨z1, -⟩ | ⟨z1, z2, z3⟩
      · exact absurd wh z1
      · exact ⟨z2, z3⟩
    · obtain ⟨fa', ms', lo', -, hh⟩ := hh
      have hZq : CZ (Zr b m0) (mkQ c 1 (cn k) (lostN (yst ρ k (cn k) (fun _ => yNo))) (rdS ρ k (cn k)) fa' ms' lo') := hZ
      rw [VH_g hh hZq (nZ b m0)]
      exact hgo
    · rintro h1' ⟨h', ⟨fa', ms', lo', hy, hh⟩, rfl⟩
      have hZq : CZ (Zr b m0) (mkQ c 1 (cn k) (lostN (yst ρ k (cn k) (fun _ => yNo))) (rdS ρ k (cn k)) fa' ms' lo') := hZ
      have hH2 := VH_out hh hZq (nZ b m0) (.inl (.long, 1, updV of 0 (.long (Int32.ofInt (if 0 < lostN (yst ρ k (cn k) (fun _ => yNo)) then 1 else 0)).toInt64)))
      rw [VH_RH hH2 hZq (up_area hga _)]
      refine ⟨⟨_, RH_obj⟩, ?_⟩
      refine Wp_im ?_ (r_rest hb rg 9 (by decide) r16 rE (by omega) (by omega) hDk sp30 (by omega) c3 c4 hEn wh)
      rintro h9 o9 ⟨τ, rfl, g1, g2, g3, g4, g5, g6, g7, g8, g9, g10⟩
      refine ⟨g10, stp 1 _ _ fa' ms' lo' (yst ρ k (cn k) (fun _ => yNo)) _ h' τ hh g1 g2 g3 g4 g5 g6 g7 g8 (Or.inr rfl) (fun _ => ?_)⟩
      have hS : OldS ρ τ E := ⟨fun e _ => ⟨g2 _ _ _ (Or.inl (by decide)), g2 _ _ _ (Or.inl (by decide)), g2 _ _ _ (Or.inl (by decide)), fun n => g2 _ _ _ (Or.inl (by decide))⟩, fun e _ _ => ⟨g2 _ _ _ (Or.inl (by decide)), g2 _ _ _ (Or.inl (by decide))⟩, fun j r h1 h2 _ => g2 _ _ _ (Or.inl (by omega)), fun i _ => g2 _ _ _ (Or.inl (by decide)), fun i _ => ⟨g2 _ _ _ (Or.inl (by decide)), g2 _ _ _ (Or.inl (by decide))⟩⟩
      have ra := yat_st hDk (k := (k : Int)) (cn k) (fun _ => yNo) bE (fun n hn q hq => by cases hq)
      refine ⟨fun n hn => ?_, g9, fun n hn q hq => (RecAt_o hS hDk hHI.2.2.2.2.2.2.2 (ra n hn q hq)).1⟩
      obtain ⟨y1, y2⟩ := hy n hn
      refine ⟨y1, ?_⟩
      cases hyy : (yst ρ k (cn k) (fun _ => yNo) n).1 with
      | none => rw [hyy] at y2; exact y2
      | some q =>
        rw [hyy] at y2
        refine ⟨y2.1, ?_⟩
        rw [cont_o hS (RecAt_o hS hDk hHI.2.2.2.2.2.2.2 (ra n hn q hyy)).2.1]
        exact y2.2
  · refine ⟨0, 2, _, by decide, by decide, hV_restore 9 (by decide) (of := of) (v := 2) ho (P := fun h' => ∃ fa ms lo, VH b (A 3) (Zr b m0) g (mkQ c 0 (cn k) 0 0 fa ms lo) nc ns (ρ.1 8).toNat (ρ.1 9).toNat bl (ρ.2 30 0) (ρ.2 31 0) h') (Wp_im (fun h' o z => ?_) wt) (fun h' hh => ?_), ?_⟩
    · rcases z with ⟨z1, z2, z3⟩ | ⟨z1, -⟩
      · exact ⟨z2, z3⟩
      · exact absurd z1 wh
    · obtain ⟨fa', ms', lo', hh⟩ := hh
      have hZq : CZ (Zr b m0) (mkQ c 0 (cn k) 0 0 fa' ms' lo') := hZ
      rw [VH_g hh hZq (nZ b m0)]
      exact hgo
    · rintro h1' ⟨h', ⟨fa', ms', lo', hh⟩, rfl⟩
      have hZq : CZ (Zr b m0) (mkQ c 0 (cn k) 0 0 fa' ms' lo') := hZ
      have hH2 := VH_out hh hZq (nZ b m0) (.inl (.long, 1, updV of 0 (.long (Int32.ofInt 2).toInt64)))
      rw [VH_RH hH2 hZq (up_area hga _)]
      refine ⟨⟨_, RH_obj⟩, ?_⟩
      refine Wp_im ?_ (r_rest_2 hb rg 9 (by decide) r16 rE (by omega) (by omega) hDk sp30 (by omega) c3 c4 wh)
      rintro h9 o9 ⟨τ, rfl, g1, g2, g3, g4, g5, g6, g7, g8, g10⟩
      exact ⟨g10, stp 0 0 0 fa' ms' lo' (fun _ => yNo) _ h' τ hh g1 g2 g3 g4 g5 g6 g7 g8 (Or.inl rfl) (fun z => absurd z (by decide))⟩
end Jre
