/-! a step of both -/
theorem IW_step {b m0 tm nc ns : Nat} {ρ : RS} {of : Nat → Value} {H : AH} {A : Nat → Nat} {c : CS} {g : Nat → Option AO} {na : Nat → Option Nat} {cs ad : Nat → Nat → Nat} {qs : Nat → Nat} {oc : Nat → Option Nat} {dt : Nat → Nat → Int} {da cn : Nat → Nat} {bl : Nat → Nat → Int} {E : Nat} {fa ms lo : Nat → Int} {Y : YS} (hI : IW b m0 tm nc ns ρ of H A c g na cs ad qs oc dt da cn bl E fa ms lo Y) {c' : CS} {ρ' : RS} {g1 : Nat → Option AO} {of' : Nat → Value} {tm' nc' ns' : Nat} {H1 : AH} {na' : Nat → Option Nat} {cs' ad' : Nat → Nat → Nat} {qs' : Nat → Nat} {oc' : Nat → Option Nat} {dt' : Nat → Nat → Int} (hH1 : VH b (A 3) (Zr b m0) g1 c' nc' ns' (ρ.1 8).toNat (ρ.1 9).toNat bl (ρ.2 30 0) (ρ.2 31 0) H1) (hg1 : g1 (m0 + 1160) = some (.inl (.long, 1, of'))) (hZ' : CZ (Zr b m0) c') (so : ∀ x k i, k ≠ 12 → k ≠ 13 → c.1 x = some (k, i) → c'.1 x = some (k, i)) (so2 : ∀ x e, c'.1 x = some (14, e) → c.1 x = some (14, e)) (sv : ∀ k i f, k ≠ 12 → k ≠ 13 → k ≠ 1 → k ≠ 2 → c'.2.1 k i f = c.2.1 k i f) (s1 : c'.2.1 1 0 0 = c.2.1 1 0 0) (r2 : ∀ j r i, 10 ≤ j → j ≠ 46 → ρ'.2 j r i = ρ.2 j r i) (r1 : ∀ i, i ≠ 0 → i ≠ 7 → i ≠ 47 → ρ'.1 i = ρ.1 i) (rg : Rg ρ') (t0 : 0 ≤ ρ'.1 7) (t1 : ρ'.1 7 ≤ tm') (z46 : ∀ i, 64 ≤ i → ρ'.2 46 0 i = 0) (z47 : 0 ≤ ρ'.1 47) (hTr' : TrOk b (A 1) (A 2) c' ρ' na' cs' ad' qs' oc' dt') (hTF' : TF c' ρ' oc') (hAU' : AU ρ') : IW b m0 tm' nc' ns' ρ' of' (RH m0 H1 ρ') A c' (gR g1 m0 ρ') na' cs' ad' qs' oc' dt' da cn bl E fa ms lo Y := by
  obtain ⟨i1, i2, i3, i4, i5, i6, i7, i8, i9, i10, i11⟩ := hI
  obtain ⟨j1, j2, j3, j4, j5, j6, j7, j8, j9, j10, j11, j12, j13, j14, j15, j16, j17, j18, j19, j20, j21⟩ := i10
  have hS : OldS ρ ρ' E := ⟨fun e _ => ⟨r2 _ _ _ (by decide) (by decide), r2 _ _ _ (by decide) (by decide), r2 _ _ _ (by decide) (by decide), fun n => r2 _ _ _ (by decide) (by decide)⟩, fun e _ _ => ⟨r2 _ _ _ (by decide) (by decide), r2 _ _ _ (by decide) (by decide)⟩, fun j r h1 h2 _ => r2 _ _ _ (by omega) (by omega), fun i _ => r2 _ _ _ (by decide) (by decide), fun i _ => ⟨r2 _ _ _ (by decide) (by decide), r2 _ _ _ (by decide) (by decide)⟩⟩
  have hB : RB ρ' E := by
    obtain ⟨b1, b2, b3⟩ := i9.2.2.2.2.2.2.2
    refine ⟨fun z => by rw [r1 9 (by decide) (by decide) (by decide), r1 27 (by decide) (by decide) (by decide)]; exact b1 z, fun z => by rw [r1 9 (by decide) (by decide) (by decide), r1 27 (by decide) (by decide) (by decide), r2 13 0 0 (by decide) (by decide), r2 13 0 E (by decide) (by decide), r2 14 0 0 (by decide) (by decide), r2 14 0 E (by decide) (by decide)]; exact b2 z, fun r hr => ?_⟩
    rw [r1 27 (by decide) (by decide) (by decide)] at hr
    rw [r1 28 (by decide) (by decide) (by decide), r1 29 (by decide) (by decide) (by decide), r2 18 0 r (by decide) (by decide), r2 21 0 r (by decide) (by decide), r2 23 0 r (by decide) (by decide)]
    exact b3 r hr
  have e30 : ρ'.2 30 0 = ρ.2 30 0 := funext fun i => r2 _ _ _ (by decide) (by decide)
  have e31 : ρ'.2 31 0 = ρ.2 31 0 := funext fun i => r2 _ _ _ (by decide) (by decide)
  refine ⟨?_, hZ', fun a h1 h2 => if_pos ⟨h1, h2⟩, ?_, SI_c i5 (fun x k k1 k2 _ hx => so x k 0 k1 k2 hx) (fun k f k1 k2 k3 k4 k5 _ _ _ _ _ _ => sv k 0 f k1 k2 k4 k5) s1, hTr', hTF', hAU', HI_o i9 hS hB (sv _ _ _ (by decide) (by decide) (by decide) (by decide)) (fun e => sv _ _ _ (by decide) (by decide) (by decide) (by decide)) (fun e f => sv _ _ _ (by decide) (by decide) (by decide) (by decide)) (fun x e hx => so x 14 e (by decide) (by decide) hx) so2, ?_, ?_⟩
  · rw [r1 8 (by decide) (by decide) (by decide), r1 9 (by decide) (by decide) (by decide), e30, e31]
    exact VH_ref ρ' hH1 hZ'
  · show (if m0 ≤ m0 + 1160 ∧ m0 + 1160 < m0 + 1160 then _ else g1 (m0 + 1160)) = _
    rw [if_neg (by omega)]
    exact hg1
  · unfold RI
    rw [r1 8 (by decide) (by decide) (by decide), r1 9 (by decide) (by decide) (by decide), r1 16 (by decide) (by decide) (by decide), r1 27 (by decide) (by decide) (by decide), r1 28 (by decide) (by decide) (by decide), r1 29 (by decide) (by decide) (by decide), r1 42 (by decide) (by decide) (by decide)]
    refine ⟨rg, fun k => ?_, j3, j4, j5, j6, j7, j8, j9, j10, j11, j12, j13, j14, t0, t1, z46, z47, fun i => by rw [r2 30 0 i (by decide) (by decide)]; exact j19 i, fun i => by rw [r2 31 0 i (by decide) (by decide)]; exact j20 i, j21⟩
    rw [r2 25 0 k (by decide) (by decide), r2 26 0 k (by decide) (by decide)]
    exact j2 k
  · obtain ⟨q4, q5, q6, q7, q8, q9, q10, q11⟩ := i11
    refine ⟨?_, ?_, ?_, ?_, fun j => ?_, fun j => ?_, fun j => ?_, fun z => ?_⟩
    · rw [sv _ _ _ (by decide) (by decide) (by decide) (by decide), r1 42 (by decide) (by decide) (by decide)]; exact q4
    · rw [sv _ _ _ (by decide) (by decide) (by decide) (by decide), r1 43 (by decide) (by decide) (by decide)]; exact q5
    · rw [sv _ _ _ (by decide) (by decide) (by decide) (by decide), r1 44 (by decide) (by decide) (by decide)]; exact q6
    · rw [sv _ _ _ (by decide) (by decide) (by decide) (by decide), r1 45 (by decide) (by decide) (by decide)]; exact q7
    · rw [sv _ _ _ (by decide) (by decide) (by decide) (by decide)]; exact q8 j
    · rw [sv _ _ _ (by decide) (by decide) (by decide) (by decide)]; exact q9 j
    · rw [sv _ _ _ (by decide) (by decide) (by decide) (by decide)]; exact q10 j
    · rw [r1 42 (by decide) (by decide) (by decide)] at z
      exact XI_o hS i9.2.2.2.2.1 i9.2.2.2.2.2.2.2 (fun j r i h1 h2 => r2 j r i (by omega) (by omega)) (q11 z)
/-- where only the error's number changes -/
theorem IW_0 {b m0 tm nc ns : Nat} {ρ : RS} {of : Nat → Value} {H : AH} {A : Nat → Nat} {c : CS} {g : Nat → Option AO} {na : Nat → Option Nat} {cs ad : Nat → Nat → Nat} {qs : Nat → Nat} {oc : Nat → Option Nat} {dt : Nat → Nat → Int} {da cn : Nat → Nat} {bl : Nat → Nat → Int} {E : Nat} {fa ms lo : Nat → Int} {Y : YS} (hI : IW b m0 tm nc ns ρ of H A c g na cs ad qs oc dt da cn bl E fa ms lo Y) {g1 : Nat → Option AO} {of' : Nat → Value} {nc' ns' : Nat} {H1 : AH} {k : Int} (k1 : 0 ≤ k) (k2 : k ≤ 3) (hH1 : VH b (A 3) (Zr b m0) g1 c nc' ns' (ρ.1 8).toNat (ρ.1 9).toNat bl (ρ.2 30 0) (ρ.2 31 0) H1) (hg1 : g1 (m0 + 1160) = some (.inl (.long, 1, of'))) : IW b m0 tm nc' ns' (upF ρ 0 k) of' (RH m0 H1 (upF ρ 0 k)) A c (gR g1 m0 (upF ρ 0 k)) na cs ad qs oc dt da cn bl E fa ms lo Y := by
  have hI0 := hI
  obtain ⟨i1, i2, i3, i4, i5, i6, i7, i8, i9, i10, i11⟩ := hI
  obtain ⟨j1, j2, j3, j4, j5, j6, j7, j8, j9, j10, j11, j12, j13, j14, j15, j16, j17, j18, j19, j20, j21⟩ := i10
  exact IW_step hI0 hH1 hg1 i2 (fun _ _ _ _ _ h => h) (fun _ _ h => h) (fun _ _ _ _ _ _ _ => rfl) rfl (fun _ _ _ _ _ => rfl) (fun i h1 _ _ => if_neg h1) (j1.upF 0 (by omega) (by omega)) j15 j16 j17 j18 i6 i7 (fun n hn hk => by
    obtain ⟨t, ht⟩ := i8 n hn hk
    exact ⟨t, by rw [upN_2 (ρ := ρ) (ρ' := upF ρ 0 k) (fun _ => rfl)]; exact ht⟩)
theorem VH_lift {b V0 L : Nat} {xs : Nat → Int32} {Z : Nat → Prop} {g : Nat → Option AO} {c : CS} {nc ns cap fi : Nat} {bl : Nat → Nat → Int} {sp ls : Nat → Int} {H : AH} {d : Nat} {M : MI} {lv : List (Option Value)} {v : Value} (hH : VH b V0 Z g c nc ns cap fi bl sp ls H) (w : ∀ h c', (∀ x q, c.1 x = some q → c'.1 x = some q) → (∀ k i f, k ≠ 3 → k ≠ 4 → k ≠ 5 → c'.2.1 k i f = c.2.1 k i f) → Wp b L xs d M 0 lv [] (CH h c') (Rt (CH h c') v)) : Wp b L xs d M 0 lv [] H (Rt H v) := by
  obtain ⟨h, W0, P0, len, wr, W, S, rfl, h1, h2⟩ := VH_ch hH
  exact w h _ (fun x q hx => mk_s h1 h2 hx) (fun k i f k3 k4 k5 => by rw [mk_k k3 k4 k5])
section Rd
variable {b V0 L : Nat} {xs : Nat → Int32} {Z : Nat → Prop} {g : Nat → Option AO} {c : CS} {nc ns cap fi : Nat} {bl : Nat → Nat → Int} {sp ls : Nat → Int} {H : AH} {ρ : RS} {T0 N0 : Nat} {na : Nat → Option Nat}
theorem V_dir (hH : VH b V0 Z g c nc ns cap fi bl sp ls H) (hP : TP T0 N0 c ρ na) (hT : TreeOk ρ) (d : Nat) (hd : 2 ≤ d) {p : Int} (p1 : -2147483648 ≤ p) (p2 : p ≤ 2147483647) : (∃ n a : Nat, p = n ∧ n < 256 ∧ ρ.2 1 0 n = 2 ∧ NdIs c ρ na n a ∧ Wp b L xs d mi_16 0 (ent (mL mi_16) [.ref T0, vI p]) [] H (Rt H (.ref a))) ∨ (¬ (0 ≤ p ∧ p < 256 ∧ ρ.2 1 0 p.toNat = 2) ∧ Wp b L xs d mi_16 0 (ent (mL mi_16) [.ref T0, vI p]) [] H (Rt H .null)) := by
  obtain ⟨oT, vT, oN, v1, v2, hN⟩ := hP
  by_cases q : 0 ≤ p ∧ p < 256
  · obtain ⟨n, rfl⟩ : ∃ n : Nat, p = n := ⟨p.toNat, by omega⟩
    have hn : n < 256 := by omega
    have t1 := hT n hn
    rcases hN n hn with h | ⟨a, h⟩
    · refine Or.inr ⟨fun z => by rw [Int.toNat_natCast, h.2.2] at z; exact absurd z.2.2 (by decide), ?_⟩
      exact VH_lift hH (fun h0 c' ho hv => k_dirN d hd (ho _ _ oT) (by rw [hv _ _ _ (by decide) (by decide) (by decide)]; exact vT) (ho _ _ oN) hn (by rw [hv _ _ _ (by decide) (by decide) (by decide)]; exact h.2.1))
    · by_cases qk : ρ.2 1 0 n = 2
      · refine Or.inl ⟨n, a, rfl, hn, qk, h, ?_⟩
        exact VH_lift hH (fun h0 c' ho hv => k_dirR d hd (ho _ _ oT) (by rw [hv _ _ _ (by decide) (by decide) (by decide)]; exact vT) (ho _ _ oN) hn (by rw [hv _ _ _ (by decide) (by decide) (by decide)]; exact h.2.1) (ho _ _ h.2.2.1) (by rw [hv _ _ _ (by decide) (by decide) (by decide)]; exact h.2.2.2.2.2.1) qk)
      · refine Or.inr ⟨fun z => by rw [Int.toNat_natCast] at z; exact qk z.2.2, ?_⟩
        exact VH_lift hH (fun h0 c' ho hv => k_dirX d hd (ho _ _ oT) (by rw [hv _ _ _ (by decide) (by decide) (by decide)]; exact vT) (ho _ _ oN) hn (by rw [hv _ _ _ (by decide) (by decide) (by decide)]; exact h.2.1) (ho _ _ h.2.2.1) (by rw [hv _ _ _ (by decide) (by decide) (by decide)]; exact h.2.2.2.2.2.1) qk (by omega) (by omega))
  · exact Or.inr ⟨fun z => q ⟨z.1, z.2.1⟩, VH_lift hH (fun h0 c' ho hv => k_dir0 d hd (ho _ _ oT) p1 p2 q)⟩
theorem V_file (hH : VH b V0 Z g c nc ns cap fi bl sp ls H) (hP : TP T0 N0 c ρ na) (hT : TreeOk ρ) (d : Nat) (hd : 2 ≤ d) {p : Int} (p1 : -2147483648 ≤ p) (p2 : p ≤ 2147483647) : (∃ n a : Nat, p = n ∧ n < 256 ∧ ρ.2 1 0 n = 1 ∧ NdIs c ρ na n a ∧ Wp b L xs d mi_26 0 (ent (mL mi_26) [.ref T0, vI p]) [] H (Rt H (.ref a))) ∨ (¬ (0 ≤ p ∧ p < 256 ∧ ρ.2 1 0 p.toNat = 1) ∧ Wp b L xs d mi_26 0 (ent (mL mi_26) [.ref T0, vI p]) [] H (Rt H .null)) := by
  obtain ⟨oT, vT, oN, v1, v2, hN⟩ := hP
  by_cases q : 0 ≤ p ∧ p < 256
  · obtain ⟨n, rfl⟩ : ∃ n : Nat, p = n := ⟨p.toNat, by omega⟩
    have hn : n < 256 := by omega
    have t1 := hT n hn
    rcases hN n hn with h | ⟨a, h⟩
    · refine Or.inr ⟨fun z => by rw [Int.toNat_natCast, h.2.2] at z; exact absurd z.2.2 (by decide), ?_⟩
      exact VH_lift hH (fun h0 c' ho hv => k_fileN d hd (ho _ _ oT) (by rw [hv _ _ _ (by decide) (by decide) (by decide)]; exact vT) (ho _ _ oN) hn (by rw [hv _ _ _ (by decide) (by decide) (by decide)]; exact h.2.1))
    · by_cases qk : ρ.2 1 0 n = 1
      · refine Or.inl ⟨n, a, rfl, hn, qk, h, ?_⟩
        exact VH_lift hH (fun h0 c' ho hv => k_fileR d hd (ho _ _ oT) (by rw [hv _ _ _ (by decide) (by decide) (by decide)]; exact vT) (ho _ _ oN) hn (by rw [hv _ _ _ (by decide) (by decide) (by decide)]; exact h.2.1) (ho _ _ h.2.2.1) (by rw [hv _ _ _ (by decide) (by decide) (by decide)]; exact h.2.2.2.2.2.1) qk)
      · refine Or.inr ⟨fun z => by rw [Int.toNat_natCast] at z; exact qk z.2.2, ?_⟩
        exact VH_lift hH (fun h0 c' ho hv => k_fileX d hd (ho _ _ oT) (by rw [hv _ _ _ (by decide) (by decide) (by decide)]; exact vT) (ho _ _ oN) hn (by rw [hv _ _ _ (by decide) (by decide) (by decide)]; exact h.2.1) (ho _ _ h.2.2.1) (by rw [hv _ _ _ (by decide) (by decide) (by decide)]; exact h.2.2.2.2.2.1) qk (by omega) (by omega))
  · exact Or.inr ⟨fun z => q ⟨z.1, z.2.1⟩, VH_lift hH (fun h0 c' ho hv => k_file0 d hd (ho _ _ oT) p1 p2 q)⟩
theorem V_nodeZ (hH : VH b V0 Z g c nc ns cap fi bl sp ls H) (hP : TP T0 N0 c ρ na) (d : Nat) (hd : 1 ≤ d) {p : Int} (p1 : -2147483648 ≤ p) (p2 : p ≤ 2147483647) : (∃ n a : Nat, p = n ∧ n < 256 ∧ NdIs c ρ na n a ∧ Wp b L xs d mi_17 0 (ent (mL mi_17) [.ref T0, vI p]) [] H (Rt H (.ref a))) ∨ (¬ (0 ≤ p ∧ p < 256 ∧ ρ.2 1 0 p.toNat ≠ 0) ∧ Wp b L xs d mi_17 0 (ent (mL mi_17) [.ref T0, vI p]) [] H (Rt H .null)) := by
  obtain ⟨oT, vT, oN, v1, v2, hN⟩ := hP
  by_cases q : 0 ≤ p ∧ p < 256
  · obtain ⟨n, rfl⟩ : ∃ n : Nat, p = n := ⟨p.toNat, by omega⟩
    have hn : n < 256 := by omega
    rcases hN n hn with h | ⟨a, h⟩
    · refine Or.inr ⟨fun z => by rw [Int.toNat_natCast, h.2.2] at z; exact absurd rfl z.2.2, ?_⟩
      exact VH_lift hH (fun h0 c' ho hv => k_nodeN d hd (ho _ _ oT) (by rw [hv _ _ _ (by decide) (by decide) (by decide)]; exact vT) (ho _ _ oN) hn (by rw [hv _ _ _ (by decide) (by decide) (by decide)]; exact h.2.1))
    · refine Or.inl ⟨n, a, rfl, hn, h, ?_⟩
      exact VH_lift hH (fun h0 c' ho hv => k_nodeR d hd (ho _ _ oT) (by rw [hv _ _ _ (by decide) (by decide) (by decide)]; exact vT) (ho _ _ oN) hn (by rw [hv _ _ _ (by decide) (by decide) (by decide)]; exact h.2.1))
  · exact Or.inr ⟨fun z => q ⟨z.1, z.2.1⟩, VH_lift hH (fun h0 c' ho hv => k_node0 d hd p1 p2 q)⟩
theorem Chn_lift {c c' : CS} {p q : Nat} {cs ad : Nat → Nat} {nm : Nat → Int} (hC : Chn c p cs ad nm q) (ho : ∀ x q, c.1 x = some q → c'.1 x = some q) (hv : ∀ k i f, k ≠ 3 → k ≠ 4 → k ≠ 5 → c'.2.1 k i f = c.2.1 k i f) : Chn c' p cs ad nm q := Chn_c hC (hv _ _ _ (by decide) (by decide) (by decide)) (fun i hi x hx => ho _ _ hx) (fun i hi => ⟨hv _ _ _ (by decide) (by decide) (by decide), hv _ _ _ (by decide) (by decide) (by decide)⟩)
theorem V_child (hH : VH b V0 Z g c nc ns cap fi bl sp ls H) (d : Nat) {p q a : Nat} {cs ad : Nat → Nat} {nm : Nat → Int} (oA : c.1 a = some (12, p)) (hC : Chn c p cs ad nm q) {w : Int} (w1 : -2147483648 ≤ w) (w2 : w ≤ 2147483647) : (∃ t, t < q ∧ nm t = w ∧ (∀ j, j < t → nm j ≠ w) ∧ Wp b L xs d mi_20 0 (ent (mL mi_20) [.ref a, vI w]) [] H (Rt H (.ref (ad t)))) ∨ ((∀ j, j < q → nm j ≠ w) ∧ Wp b L xs d mi_20 0 (ent (mL mi_20) [.ref a, vI w]) [] H (Rt H .null)) := by
  rcases least (P := fun j => nm j = w) q with h | ⟨t, h1, h2, h3⟩
  · exact Or.inr ⟨h, VH_lift hH (fun h0 c' ho hv => k_chN d (ho _ _ oA) (Chn_lift hC ho hv) w1 w2 h)⟩
  · exact Or.inl ⟨t, h1, h2, h3, VH_lift hH (fun h0 c' ho hv => k_chF d (ho _ _ oA) (Chn_lift hC ho hv) w1 w2 h1 h2 h3)⟩
theorem V_lf (hH : VH b V0 Z g c nc ns cap fi bl sp ls H) (hP : TP T0 N0 c ρ na) (hb : N0 ≠ b) (d : Nat) : (∃ n, n < 256 ∧ ρ.2 1 0 n = 0 ∧ (∀ j, j < n → ρ.2 1 0 j ≠ 0) ∧ Wp b L xs d mi_21 0 (ent (mL mi_21) [.ref T0]) [] H (Rt H (vI n))) ∨ ((∀ j, j < 256 → ρ.2 1 0 j ≠ 0) ∧ Wp b L xs d mi_21 0 (ent (mL mi_21) [.ref T0]) [] H (Rt H (vI (-1)))) := by
  obtain ⟨oT, vT, oN, v1, v2, hN⟩ := hP
  have ex : ∀ j, j < 256 → ρ.2 1 0 j ≠ 0 → ∃ a, c.2.1 2 0 j = .ref a := fun j hj hk => by
    rcases hN j hj with h | ⟨a, h⟩
    · exact absurd h.2.2 hk
    · exact ⟨a, h.2.1⟩
  rcases least (P := fun j => ρ.2 1 0 j = 0) 256 with h | ⟨n, h1, h2, h3⟩
  · refine Or.inr ⟨h, ?_⟩
    have := VH_lift (L := L) (xs := xs) (d := d) hH (fun h0 c' ho hv => k_lf d (ho _ _ oT) (by rw [hv _ _ _ (by decide) (by decide) (by decide)]; exact vT) (ho _ _ oN) hb (n := 256) (Nat.le_refl _) (fun j hj => by
      obtain ⟨a, ha⟩ := ex j hj (h j hj)
      exact ⟨a, by rw [hv _ _ _ (by decide) (by decide) (by decide)]; exact ha⟩) (fun z => absurd z (by decide)))
    rw [if_neg (by decide)] at this
    exact this
  · refine Or.inl ⟨n, h1, h2, h3, ?_⟩
    have nn : c.2.1 2 0 n = .null := by
      rcases hN n h1 with y | ⟨a, y⟩
      · exact y.2.1
      · exact absurd h2 y.2.2.2.1
    have := VH_lift (L := L) (xs := xs) (d := d) hH (fun h0 c' ho hv => k_lf d (ho _ _ oT) (by rw [hv _ _ _ (by decide) (by decide) (by decide)]; exact vT) (ho _ _ oN) hb (n := n) (by omega) (fun j hj => by
      obtain ⟨a, ha⟩ := ex j (by omega) (h3 j hj)
      exact ⟨a, by rw [hv _ _ _ (by decide) (by decide) (by decide)]; exact ha⟩) (fun _ => by rw [hv _ _ _ (by decide) (by decide) (by decide)]; exact nn))
    rw [if_pos h1] at this
    exact this
end Rd
theorem fnd_n {p : Nat → Prop} [DecidablePred p] : ∀ m k : Nat, (∀ j, k ≤ j → j < k + m → ¬ p j) → fnd p k m = -1
  | 0, _, _ => rfl
  | m + 1, k, h => by
    show (if p k then (k : Int) else fnd p (k + 1) m) = -1
    rw [if_neg (h k (Nat.le_refl _) (by omega)), fnd_n m (k + 1) (fun j h1 h2 => h j (by omega) (by omega))]
theorem fnd_p {p : Nat → Prop} [DecidablePred p] {x lo hi : Nat} (hx : p x) (hu : ∀ j, lo ≤ j → j < hi → p j → j = x) : ∀ m k : Nat, lo ≤ k → k + m ≤ hi → k ≤ x → x < k + m → fnd p k m = x
  | 0, k, _, _, h1, h2 => by omega
  | m + 1, k, g1, g2, h1, h2 => by
    show (if p k then (k : Int) else fnd p (k + 1) m) = x
    by_cases e : k = x
    · subst e
      rw [if_pos hx]
    · rw [if_neg (fun z => e (hu k g1 (by omega) z)), fnd_p hx hu m (k + 1) (by omega) (by omega) (by omega) (by omega)]
theorem named_p {ρ : RS} {p q t : Nat} {cs : Nat → Nat} {w : Int} (hK : Kids ρ p cs q) (ht : t < q) (h : ρ.2 3 0 (cs t) = w) : rNamed ρ p w = cs t := by
  obtain ⟨g1, g2, g3, g4⟩ := hK.1 t ht
  refine fnd_p (lo := 1) (hi := 256) ⟨g3, g4, h⟩ (fun j j1 j2 z => ?_) 255 1 (by omega) (by omega) g1 (by omega)
  obtain ⟨i, hi, rfl⟩ := hK.2.2.1 j j1 j2 z.1 z.2.1
  rcases Nat.lt_trichotomy i t with y | y | y
  · have := hK.2.1 i t y ht
    have := z.2.2
    omega
  · rw [y]
  · have := hK.2.1 t i y hi
    have := z.2.2
    omega
theorem named_n {ρ : RS} {p q : Nat} {cs : Nat → Nat} {w : Int} (hK : Kids ρ p cs q) (h : ∀ j, j < q → ρ.2 3 0 (cs j) ≠ w) : rNamed ρ p w = -1 := fnd_n 255 1 (fun j j1 j2 z => by
  obtain ⟨i, hi, rfl⟩ := hK.2.2.1 j j1 (by omega) z.1 z.2.1
  exact h i hi z.2.2)
