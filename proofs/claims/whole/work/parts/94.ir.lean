/-! spoil, restore -/
theorem Tr_c {b T0 N0 : Nat} {c : CS} {ρ : RS} {na : Nat → Option Nat} {cs ad : Nat → Nat → Nat} {qs : Nat → Nat} {oc : Nat → Option Nat} {dt : Nat → Nat → Int} (hTr : TrOk b T0 N0 c ρ na cs ad qs oc dt) {c' : CS} {ρ' : RS} (own : ∀ x k i, k ≠ 14 → c.1 x = some (k, i) → c'.1 x = some (k, i)) (v1 : ∀ f, c'.2.1 1 0 f = c.2.1 1 0 f) (v2 : ∀ f, c'.2.1 2 0 f = c.2.1 2 0 f) (v12 : ∀ m f, c'.2.1 12 m f = c.2.1 12 m f) (v13 : ∀ m f, c'.2.1 13 m f = c.2.1 13 m f) (h : ∀ j r i, j < 7 → ρ'.2 j r i = ρ.2 j r i) (h7 : ρ'.1 7 = ρ.1 7) : TrOk b T0 N0 c' ρ' na cs ad qs oc dt := by
  obtain ⟨hP, hT, h0, hpp, hD, hO⟩ := hTr
  have h1 : ∀ m, ρ'.2 1 0 m = ρ.2 1 0 m := fun m => h 1 0 m (by decide)
  have h2 : ∀ m, ρ'.2 2 0 m = ρ.2 2 0 m := fun m => h 2 0 m (by decide)
  have h3 : ∀ m, ρ'.2 3 0 m = ρ.2 3 0 m := fun m => h 3 0 m (by decide)
  refine ⟨⟨own _ _ _ (by decide) hP.1, (v1 0).trans hP.2.1, own _ _ _ (by decide) hP.2.2.1, ?_, by rw [v1, h7]; exact hP.2.2.2.2.1, fun m hm => ?_⟩, fun m hm => ?_, ⟨by rw [h1]; exact h0.1, by rw [h2]; exact h0.2.1, by rw [h3]; exact h0.2.2⟩, fun m hm hm0 hmk => ?_, fun m hm hmk => ?_, fun m hm hmk => ?_⟩
  · rw [v1, hP.2.2.2.1]
    exact congrArg (fun z : Nat => vI (z : Int)) (cnt_congr 256 0 (fun j _ _ => by rw [h1 j]))
  · rcases hP.2.2.2.2.2 m hm with z | ⟨x, z⟩
    · left
      exact ⟨z.1, (v2 m).trans z.2.1, (h1 m).trans z.2.2⟩
    · right
      obtain ⟨i1, i2, oA, i4, g0, g1, g2, g3, g4, g5⟩ := z
      refine ⟨x, i1, (v2 m).trans i2, own _ _ _ (by decide) oA, by rw [h1]; exact i4, by rw [v12]; exact g0, by rw [v12, h1]; exact g1, by rw [v12, h2]; exact g2, by rw [v12, h3]; exact g3, ?_, by rw [v12, h 5 0 m (by decide)]; exact g5⟩
      rw [v12, szv_c (h1 m) (h 4 0 m (by decide)) (rEnt_k h1 h2 m)]
      exact g4
  · have t1 := hT m hm
    rw [h1, h2, h3, h 4 0 m (by decide), h 5 0 m (by decide)]
    exact t1
  · rw [h1] at hmk
    rw [h1, h2]
    exact hpp m hm hm0 hmk
  · rw [h1] at hmk
    have dm := hD m hm hmk
    have ch := Chn_c (c' := c') dm.2.2.1 (v12 m 7) (fun i hi x hx => own (ad m i) x.1 x.2 (fun z => by
      have := (dm.2.2.1.2 i hi).1
      rw [hx] at this
      cases this
      exact absurd (show (12 : Nat) = 14 from z) (by decide)) hx) (fun i hi => ⟨v12 _ 3, v12 _ 8⟩)
    refine ⟨Kids_k dm.1 h1 h2 h3, by rw [rEnt_k h1 h2]; exact dm.2.1, ⟨ch.1, fun i hi => ?_⟩, dm.2.2.2⟩
    obtain ⟨b1, b2, b3, b4, b5⟩ := ch.2 i hi
    refine ⟨b1, ?_, b3, ?_, ?_⟩
    · show _ = vI (ρ'.2 3 0 (cs m i))
      rw [h3]; exact b2
    · show 0 ≤ ρ'.2 3 0 (cs m i)
      rw [h3]; exact b4
    · show ρ'.2 3 0 (cs m i) ≤ 100000
      rw [h3]; exact b5
  · rw [h1] at hmk
    obtain ⟨⟨g1, g2, g3, g4⟩, g5⟩ := hO m hm hmk
    refine ⟨⟨(v12 m 6).trans g1, g2, fun k hk => ?_, ?_⟩, g5⟩
    · rw [h 6 m k (by decide)]
      exact g3 k (by rw [h 4 0 m (by decide)] at hk; exact hk)
    · cases ho : oc m with
      | none =>
        rw [ho] at g4
        exact (h 4 0 m (by decide)).trans g4
      | some o =>
        rw [ho] at g4
        exact ⟨own _ _ _ (by decide) g4.1, fun k => (v13 m k).trans (g4.2 k)⟩
section Ir
variable {L : Nat} {xs : Nat → Int32} {b m0 tm nc ns : Nat} {ρ : RS} {of : Nat → Value} {H : AH} {A : Nat → Nat} {c : CS} {g : Nat → Option AO} {na : Nat → Option Nat} {cs ad : Nat → Nat → Nat} {qs : Nat → Nat} {oc : Nat → Option Nat} {dt : Nat → Nat → Int} {da cn : Nat → Nat} {bl : Nat → Nat → Int} {E : Nat} {fa ms lo : Nat → Int} {Y : YS}
theorem IW_r (hI : IW b m0 tm nc ns ρ of H A c g na cs ad qs oc dt da cn bl E fa ms lo Y) {c' : CS} {τ : RS} {g1 : Nat → Option AO} {of' : Nat → Value} {nc' ns' : Nat} {H1 : AH} {fa' ms' lo' : Nat → Int} {Y' : YS} (hH1 : VH b (A 3) (Zr b m0) g1 c' nc' ns' (ρ.1 8).toNat (ρ.1 9).toNat bl (τ.2 30 0) (τ.2 31 0) H1) (hg1 : g1 (m0 + 1160) = some (.inl (.long, 1, of'))) (own : c'.1 = c.1) (sv : ∀ k i f, k ≠ 7 → k ≠ 8 → k ≠ 9 → k ≠ 10 → c'.2.1 k i f = c.2.1 k i f) (s7 : ∀ f, f < 4 → c'.2.1 7 0 f = c.2.1 7 0 f) (r2 : ∀ j r i, j < 30 → τ.2 j r i = ρ.2 j r i) (r1 : ∀ i, i ≠ 0 → i ≠ 42 → i ≠ 43 → i ≠ 44 → i ≠ 45 → i ≠ 47 → τ.1 i = ρ.1 i) (rg : Rg τ) (z46 : ∀ i, 64 ≤ i → τ.2 46 0 i = 0) (z47 : 0 ≤ τ.1 47) (sp30 : ∀ i, τ.2 30 0 i = 0 ∨ τ.2 30 0 i = 1) (sp31 : ∀ i, τ.2 31 0 i = 0 ∨ τ.2 31 0 i = 1) (z42 : τ.1 42 = 0 ∨ τ.1 42 = 1) (hRQ' : RQ c' τ E fa' ms' lo' Y') : IW b m0 tm nc' ns' τ of' (RH m0 H1 τ) A c' (gR g1 m0 τ) na cs ad qs oc dt da cn bl E fa' ms' lo' Y' := by
  obtain ⟨i1, i2, i3, i4, i5, i6, i7, i8, i9, i10, i11⟩ := hI
  obtain ⟨j1, j2, j3, j4, j5, j6, j7, j8, j9, j10, j11, j12, j13, j14, j15, j16, j17, j18, j19, j20, j21⟩ := i10
  have hS : OldS ρ τ E := ⟨fun e _ => ⟨r2 _ _ _ (by decide), r2 _ _ _ (by decide), r2 _ _ _ (by decide), fun n => r2 _ _ _ (by decide)⟩, fun e _ _ => ⟨r2 _ _ _ (by decide), r2 _ _ _ (by decide)⟩, fun j r h1 h2 _ => r2 _ _ _ (by omega), fun i _ => r2 _ _ _ (by decide), fun i _ => ⟨r2 _ _ _ (by decide), r2 _ _ _ (by decide)⟩⟩
  have q1 : ∀ i, i < 40 → i ≠ 0 → τ.1 i = ρ.1 i := fun i h1 h2 => r1 i h2 (by omega) (by omega) (by omega) (by omega) (by omega)
  have hB : RB τ E := by
    obtain ⟨b1, b2, b3⟩ := i9.2.2.2.2.2.2.2
    refine ⟨fun z => by rw [q1 9 (by decide) (by decide), q1 27 (by decide) (by decide)]; exact b1 z, fun z => by rw [q1 9 (by decide) (by decide), q1 27 (by decide) (by decide), r2 13 0 0 (by decide), r2 13 0 E (by decide), r2 14 0 0 (by decide), r2 14 0 E (by decide)]; exact b2 z, fun r hr => ?_⟩
    rw [q1 27 (by decide) (by decide)] at hr
    rw [q1 28 (by decide) (by decide), q1 29 (by decide) (by decide), r2 18 0 r (by decide), r2 21 0 r (by decide), r2 23 0 r (by decide)]
    exact b3 r hr
  have hZ' : CZ (Zr b m0) c' := fun x q hx => i2 x q (by rw [own] at hx; exact hx)
  refine ⟨?_, hZ', fun a h1 h2 => if_pos ⟨h1, h2⟩, ?_, ?_, Tr_c i6 (fun x k i _ hx => by rw [own]; exact hx) (fun f => sv _ _ _ (by decide) (by decide) (by decide) (by decide)) (fun f => sv _ _ _ (by decide) (by decide) (by decide) (by decide)) (fun m f => sv _ _ _ (by decide) (by decide) (by decide) (by decide)) (fun m f => sv _ _ _ (by decide) (by decide) (by decide) (by decide)) (fun j r i hj => r2 j r i (by omega)) (q1 7 (by decide) (by decide)), ?_, ?_, HI_o i9 hS hB (sv _ _ _ (by decide) (by decide) (by decide) (by decide)) (fun e => sv _ _ _ (by decide) (by decide) (by decide) (by decide)) (fun e f => sv _ _ _ (by decide) (by decide) (by decide) (by decide)) (fun x e hx => by rw [own]; exact hx) (fun x e hx => by rw [own] at hx; exact hx), ?_, hRQ'⟩
  · rw [q1 8 (by decide) (by decide), q1 9 (by decide) (by decide)]
    exact VH_ref τ hH1 hZ'
  · show (if m0 ≤ m0 + 1160 ∧ m0 + 1160 < m0 + 1160 then _ else g1 (m0 + 1160)) = _
    rw [if_neg (by omega)]
    exact hg1
  · refine SI_c i5 (fun x k _ _ _ hx => by rw [own]; exact hx) (fun k f k1 k2 k3 k4 k5 k6 k7 k8 k9 k10 _ => ?_) (sv _ _ _ (by decide) (by decide) (by decide) (by decide))
    by_cases e : k = 7
    · subst e
      exact s7 f (by omega)
    · exact sv k 0 f e k8 k9 k10
  · refine ⟨fun n hn hk a => ?_, fun n hn hk a => ?_⟩
    · rw [own]
      exact i7.1 n hn (by rw [r2 1 0 n (by decide)] at hk; exact hk) a
    · rw [own]
      exact i7.2 n hn (by rw [r2 1 0 n (by decide)] at hk; exact hk) a
  · intro n hn hk
    rw [r2 1 0 n (by decide)] at hk
    obtain ⟨t, ht⟩ := i8 n hn hk
    exact ⟨t, by rw [upN_2 (ρ := ρ) (ρ' := τ) (fun m => r2 2 0 m (by decide))]; exact ht⟩
  · unfold RI
    rw [q1 8 (by decide) (by decide), q1 9 (by decide) (by decide), q1 16 (by decide) (by decide), q1 27 (by decide) (by decide), q1 28 (by decide) (by decide), q1 29 (by decide) (by decide), q1 7 (by decide) (by decide)]
    refine ⟨rg, fun k => ?_, j3, j4, j5, j6, j7, j8, j9, j10, j11, j12, j13, j14, j15, j16, z46, z47, sp30, sp31, z42⟩
    rw [r2 25 0 k (by decide), r2 26 0 k (by decide)]
    exact j2 k
end Ir
theorem yat_back {ρ : RS} {E r a : Nat} {Y : YS} (hY : ∀ n, n < 256 → ∀ q, (Y n).1 = some q → RecAt ρ E q.1 q.2.1) (hA : RecAt ρ E r a) : ∀ n, n < 256 → ∀ q, (yback ρ r a Y n).1 = some q → RecAt ρ E q.1 q.2.1 := by
  intro n hn q hq
  unfold yback at hq
  split at hq
  · split at hq
    · exact hY n hn q hq
    · cases hq
      exact hA
  · exact hY n hn q hq
theorem yat_recs {ρ : RS} {E e : Nat} (hDk : DumpsOk ρ E) (he : e < E) : ∀ (m i a : Nat) (Y : YS), (i : Int) + m = ρ.2 14 0 (e + 1) - ρ.2 14 0 e → (a : Int) = ρ.2 13 0 e + (2 + nix ρ e) + sumC ρ (ρ.2 14 0 e).toNat i → (∀ n, n < 256 → ∀ q, (Y n).1 = some q → RecAt ρ E q.1 q.2.1) → ∀ n, n < 256 → ∀ q, (yrecs ρ a ((ρ.2 14 0 e).toNat + i) m Y n).1 = some q → RecAt ρ E q.1 q.2.1
  | 0, _, _, _, _, _, hY => hY
  | m + 1, i, a, Y, h1, h2, hY => by
    obtain ⟨d1, d2, d3, d4⟩ := hDk e he
    obtain ⟨w1, w2, w3, w4, w5, w6, u0, u1, u2, u3, u4, u5⟩ := d1
    have hR := u5 ((ρ.2 14 0 e).toNat + i) (by omega) (by omega)
    have hc := cont_ok hR
    have sa := sumC_add ρ i (ρ.2 14 0 e).toNat 1
    have sb : sumC ρ ((ρ.2 14 0 e).toNat + i) 1 = 1 + cont ρ ((ρ.2 14 0 e).toNat + i) + 0 := rfl
    exact yat_recs hDk he m (i + 1) (a + 1 + (cont ρ ((ρ.2 14 0 e).toNat + i)).toNat) _ (by omega) (by omega) (yat_back hY ⟨e, i, he, by omega, rfl, h2⟩)
theorem yat_one {ρ : RS} {E e : Nat} (hDk : DumpsOk ρ E) (he : e < E) {Y : YS} (hY : ∀ n, n < 256 → ∀ q, (Y n).1 = some q → RecAt ρ E q.1 q.2.1) : ∀ n, n < 256 → ∀ q, (yone ρ e Y n).1 = some q → RecAt ρ E q.1 q.2.1 := by
  obtain ⟨d1, d2, d3, d4⟩ := hDk e he
  have dk := DK hDk he
  obtain ⟨w1, w2, w3, w4, w5, w6, u0, u1, u2, u3, u4, u5⟩ := d1
  unfold yone
  have := yat_recs hDk he (ρ.2 14 0 (e + 1) - ρ.2 14 0 e).toNat 0 (ρ.2 13 0 e + (2 + nix ρ e)).toNat (ydr ρ e 256 Y) (by omega) (by show _ = _ + 0; omega) (fun n hn q hq => by
    unfold ydr at hq
    split at hq
    · cases hq
    · exact hY n hn q hq)
  exact this
theorem yat_st {ρ : RS} {E : Nat} (hDk : DumpsOk ρ E) {k : Int} : ∀ (m : Nat) (Y : YS), (∀ s, s < m → 0 ≤ bsN ρ s k ∧ bsN ρ s k < E) → (∀ n, n < 256 → ∀ q, (Y n).1 = some q → RecAt ρ E q.1 q.2.1) → ∀ n, n < 256 → ∀ q, (yst ρ k m Y n).1 = some q → RecAt ρ E q.1 q.2.1
  | 0, _, _, hY => hY
  | m + 1, Y, hb, hY => by
    have := hb m (by omega)
    exact yat_st hDk m _ (fun s hs => hb s (by omega)) (yat_one hDk (by omega) hY)
theorem bsN_E {ρ : RS} {E : Nat} (hb : ∀ e, e < E → ρ.2 12 0 e < e) : ∀ (s : Nat) (k : Int), k < E → (∀ i, i < s → 0 ≤ bsN ρ i k) → bsN ρ s k < E
  | 0, _, hk, _ => hk
  | s + 1, k, hk, h => by
    have h0 : 0 ≤ k := h 0 (by omega)
    have h1 := hb k.toNat (by omega)
    exact bsN_E hb s _ (by omega) (fun i hi => h (i + 1) (by omega))
