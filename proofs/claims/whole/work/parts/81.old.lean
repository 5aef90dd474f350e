/-! what stays of what was written -/
def OldS (ρ ρ' : RS) (E : Nat) : Prop := (∀ e, e < E → ρ'.2 10 0 e = ρ.2 10 0 e ∧ ρ'.2 11 0 e = ρ.2 11 0 e ∧ ρ'.2 12 0 e = ρ.2 12 0 e ∧ ∀ n, ρ'.2 15 e n = ρ.2 15 e n) ∧ (∀ e, e ≤ E → 0 < E → ρ'.2 13 0 e = ρ.2 13 0 e ∧ ρ'.2 14 0 e = ρ.2 14 0 e) ∧ (∀ j r : Nat, 17 ≤ j → j ≤ 23 → (r : Int) < ρ.1 27 → ρ'.2 j 0 r = ρ.2 j 0 r) ∧ (∀ i : Nat, (i : Int) < ρ.1 28 → ρ'.2 24 0 i = ρ.2 24 0 i) ∧ (∀ i : Nat, (i : Int) < ρ.1 29 → ρ'.2 25 0 i = ρ.2 25 0 i ∧ ρ'.2 26 0 i = ρ.2 26 0 i)
def RB (ρ : RS) (E : Nat) : Prop := (E = 0 → ρ.1 9 = 0 ∧ ρ.1 27 = 0) ∧ (0 < E → ρ.2 13 0 0 = 0 ∧ ρ.2 13 0 E = ρ.1 9 ∧ ρ.2 14 0 0 = 0 ∧ ρ.2 14 0 E = ρ.1 27) ∧ (∀ r : Nat, (r : Int) < ρ.1 27 → (ρ.2 18 0 r = 1 → ρ.2 23 0 r + ρ.2 21 0 r ≤ ρ.1 28) ∧ (ρ.2 18 0 r ≠ 1 → ρ.2 23 0 r + ρ.2 21 0 r ≤ ρ.1 29))
theorem fb_up {ρ : RS} {E : Nat} (hD : DumpsOk ρ E) : ∀ (m e : Nat), e + m ≤ E → ρ.2 13 0 e ≤ ρ.2 13 0 (e + m) ∧ ρ.2 14 0 e ≤ ρ.2 14 0 (e + m)
  | 0, _, _ => ⟨Int.le_refl _, Int.le_refl _⟩
  | m + 1, e, h => by
    have ih := fb_up hD m e (by omega)
    obtain ⟨d1, d2, d3, d4⟩ := hD (e + m) (by omega)
    obtain ⟨w1, w2, w3, w4, w5, w6, u0, u1, u2, u3, u4, u5⟩ := d1
    have s1 := (sumC_pos (ρ.2 14 0 (e + m + 1) - ρ.2 14 0 (e + m)).toNat (ρ.2 14 0 (e + m)).toNat (fun j j1 j2 => u5 j (by omega) (by omega))).1
    have n1 : 0 ≤ nix ρ (e + m) := Int.ediv_nonneg (by omega) (by decide)
    rw [show e + (m + 1) = e + m + 1 by omega]
    omega
theorem fb_le {ρ : RS} {E : Nat} (hD : DumpsOk ρ E) (hB : RB ρ E) {e : Nat} (he : e < E) : ρ.2 13 0 (e + 1) ≤ ρ.1 9 ∧ ρ.2 14 0 (e + 1) ≤ ρ.1 27 := by
  have := fb_up hD (E - (e + 1)) (e + 1) (by omega)
  rw [show e + 1 + (E - (e + 1)) = E by omega] at this
  obtain ⟨h1, h2, h3, h4⟩ := hB.2.1 (by omega)
  rw [h2, h4] at this
  exact this
section Old
variable {ρ ρ' : RS} {E : Nat}
theorem cont_o (hS : OldS ρ ρ' E) {r : Nat} (hr : (r : Int) < ρ.1 27) : cont ρ' r = cont ρ r := by
  unfold cont
  rw [hS.2.2.1 18 r (by decide) (by decide) hr, hS.2.2.1 21 r (by decide) (by decide) hr]
theorem RecOk_o (hS : OldS ρ ρ' E) {r : Nat} (hr : (r : Int) < ρ.1 27) : RecOk ρ' r ↔ RecOk ρ r := by
  unfold RecOk
  rw [hS.2.2.1 17 r (by decide) (by decide) hr, hS.2.2.1 18 r (by decide) (by decide) hr, hS.2.2.1 19 r (by decide) (by decide) hr, hS.2.2.1 20 r (by decide) (by decide) hr, hS.2.2.1 21 r (by decide) (by decide) hr, hS.2.2.1 22 r (by decide) (by decide) hr, hS.2.2.1 23 r (by decide) (by decide) hr]
theorem sumC_o (hS : OldS ρ ρ' E) : ∀ (m s : Nat), ((s + m : Nat) : Int) ≤ ρ.1 27 → sumC ρ' s m = sumC ρ s m
  | 0, _, _ => rfl
  | m + 1, s, h => by
    show 1 + cont ρ' s + sumC ρ' (s + 1) m = 1 + cont ρ s + sumC ρ (s + 1) m
    rw [cont_o hS (by omega), sumC_o hS m (s + 1) (by omega)]
theorem fb_o (hS : OldS ρ ρ' E) {e : Nat} (he : e < E) : ρ'.2 13 0 e = ρ.2 13 0 e ∧ ρ'.2 13 0 (e + 1) = ρ.2 13 0 (e + 1) ∧ ρ'.2 14 0 e = ρ.2 14 0 e ∧ ρ'.2 14 0 (e + 1) = ρ.2 14 0 (e + 1) := ⟨(hS.2.1 e (by omega) (by omega)).1, (hS.2.1 (e + 1) (by omega) (by omega)).1, (hS.2.1 e (by omega) (by omega)).2, (hS.2.1 (e + 1) (by omega) (by omega)).2⟩
theorem nix_o (hS : OldS ρ ρ' E) {e : Nat} (he : e < E) : nix ρ' e = nix ρ e := by
  obtain ⟨f1, f2, f3, f4⟩ := fb_o hS he
  unfold nix
  rw [f3, f4]
theorem DumpsOk_o (hS : OldS ρ ρ' E) (hD : DumpsOk ρ E) (hB : RB ρ E) : DumpsOk ρ' E := by
  intro e he
  obtain ⟨f1, f2, f3, f4⟩ := fb_o hS he
  obtain ⟨g1, g2, g3, g4⟩ := hS.1 e he
  have fl := fb_le hD hB he
  obtain ⟨d1, d2, d3, d4⟩ := hD e he
  obtain ⟨w1, w2, w3, w4, w5, w6, u0, u1, u2, u3, u4, u5⟩ := d1
  refine ⟨⟨by rw [g1]; exact w1, by rw [g1]; exact w2, by rw [g2]; exact w3, by rw [g2]; exact w4, by rw [g3]; exact w5, by rw [g3]; exact w6, by rw [f1]; exact u0, by rw [f3]; exact u1, by rw [f3, f4]; exact u2, by rw [f3, f4]; exact u3, by rw [f4]; exact u4, fun j j1 j2 => ?_⟩, fun n hn => by rw [g4]; exact d2 n hn, by rw [f2]; exact d3, ?_⟩
  · rw [f3] at j1
    rw [f4] at j2
    exact (RecOk_o hS (by omega)).mpr (u5 j j1 j2)
  · rw [f1, f2, f3, f4, nix_o hS he, sumC_o hS _ _ (by omega)]
    exact d4
theorem bsN_o (hS : OldS ρ ρ' E) (hb : ∀ e, e < E → ρ.2 12 0 e < e) : ∀ (s : Nat) (k : Int), k < E → (∀ i, i < s → 0 ≤ bsN ρ i k) → bsN ρ' s k = bsN ρ s k
  | 0, _, _, _ => rfl
  | s + 1, k, hk, h => by
    have h0 : 0 ≤ k := h 0 (by omega)
    show bsN ρ' s (ρ'.2 12 0 k.toNat) = bsN ρ s (ρ.2 12 0 k.toNat)
    have hb1 := hb k.toNat (by omega)
    rw [(hS.1 k.toNat (by omega)).2.2.1]
    exact bsN_o hS hb s _ (by omega) (fun i hi => h (i + 1) (by omega))
theorem ocB_c {g g' : Nat → Int} : ∀ (m : Nat) (B : Nat → Int) (f k : Nat), (∀ i, k ≤ i → i < k + m → g i = g' i) → ocB g B f k m = ocB g' B f k m
  | 0, _, _, _, _ => rfl
  | m + 1, B, f, k, h => by
    show ocB g (putK B f (g k) 1) (f + 1) (k + 1) m = ocB g' (putK B f (g' k) 1) (f + 1) (k + 1) m
    rw [h k (Nat.le_refl _) (by omega)]
    exact ocB_c m _ _ _ (fun i h1 h2 => h i (by omega) (by omega))
theorem enB_c {g1 g2 g1' g2' : Nat → Int} : ∀ (m : Nat) (B : Nat → Int) (f k : Nat), (∀ i, k ≤ i → i < k + m → g1 i = g1' i ∧ g2 i = g2' i) → enB g1 g2 B f k m = enB g1' g2' B f k m
  | 0, _, _, _, _ => rfl
  | m + 1, B, f, k, h => by
    show enB g1 g2 (putK (putK B f (g1 k) 2) (f + 2) (g2 k) 1) (f + 3) (k + 1) m = enB g1' g2' (putK (putK B f (g1' k) 2) (f + 2) (g2' k) 1) (f + 3) (k + 1) m
    rw [(h k (Nat.le_refl _) (by omega)).1, (h k (Nat.le_refl _) (by omega)).2]
    exact enB_c m _ _ _ (fun i h1 h2 => h i (by omega) (by omega))
theorem ixB_o (hS : OldS ρ ρ' E) : ∀ (m : Nat) (B : Nat → Int) (f r : Nat), ((r + m : Nat) : Int) ≤ ρ.1 27 → ixB ρ' B f r m = ixB ρ B f r m
  | 0, _, _, _, _ => rfl
  | m + 1, B, f, r, h => by
    show ixB ρ' (putK (putK B f (ρ'.2 17 0 r) 1) (f + 1) (1 + cont ρ' r) 1) (f + 2) (r + 1) m = ixB ρ (putK (putK B f (ρ.2 17 0 r) 1) (f + 1) (1 + cont ρ r) 1) (f + 2) (r + 1) m
    rw [hS.2.2.1 17 r (by decide) (by decide) (by omega), cont_o hS (by omega)]
    exact ixB_o hS m _ _ _ (by omega)
theorem ndB_o (hS : OldS ρ ρ' E) (hB : RB ρ E) {r : Nat} (hr : (r : Int) < ρ.1 27) (hR : RecOk ρ r) (c : Nat) : ndB ρ' r c = ndB ρ r c := by
  obtain ⟨b1, b2⟩ := hB.2.2 r hr
  have e17 := hS.2.2.1 17 r (by decide) (by decide) hr
  have e18 := hS.2.2.1 18 r (by decide) (by decide) hr
  have e19 := hS.2.2.1 19 r (by decide) (by decide) hr
  have e20 := hS.2.2.1 20 r (by decide) (by decide) hr
  have e21 := hS.2.2.1 21 r (by decide) (by decide) hr
  have e22 := hS.2.2.1 22 r (by decide) (by decide) hr
  have e23 := hS.2.2.1 23 r (by decide) (by decide) hr
  have h23 : 0 ≤ ρ.2 23 0 r := hR.2.2.2.2.2.2.2.2.2.2.2.1
  unfold ndB fcB
  rw [e17, e18, e19, e20, e21, e22, e23]
  by_cases hc : c = 0
  · rw [if_pos hc, if_pos hc]
  · rw [if_neg hc, if_neg hc]
    by_cases hk : ρ.2 18 0 r = 1
    · rw [if_pos hk, if_pos hk]
      have := b1 hk
      refine ocB_c _ _ _ _ (fun i h1 h2 => ?_)
      show ρ'.2 24 0 _ % 256 = ρ.2 24 0 _ % 256
      rw [hS.2.2.2.1 _ (by omega)]
    · rw [if_neg hk, if_neg hk]
      have := b2 hk
      refine enB_c _ _ _ _ (fun i h1 h2 => ?_)
      exact hS.2.2.2.2 _ (by omega)
theorem mpB_c {t t' : Nat → Prop} [DecidablePred t] [DecidablePred t'] (h : ∀ n, t n ↔ t' n) : ∀ (m : Nat) (B : Nat → Int) (k : Nat), mpB t B k m = mpB t' B k m
  | 0, _, _ => rfl
  | m + 1, B, k => by
    show mpB t (if t k then _ else B) (k + 1) m = mpB t' (if t' k then _ else B) (k + 1) m
    by_cases e : t k
    · rw [if_pos e, if_pos ((h k).mp e)]
      exact mpB_c h m _ _
    · rw [if_neg e, if_neg (fun z => e ((h k).mpr z))]
      exact mpB_c h m _ _
theorem BlkIs_o (hS : OldS ρ ρ' E) (hD : DumpsOk ρ E) (hB : RB ρ E) {e : Nat} (he : e < E) {a : Int} {B : Nat → Int} (h : BlkIs ρ' e a B) : BlkIs ρ e a B := by
  obtain ⟨f1, f2, f3, f4⟩ := fb_o hS he
  obtain ⟨g1, g2, g3, g4⟩ := hS.1 e he
  have fl := fb_le hD hB he
  obtain ⟨d1, d2, d3, d4⟩ := hD e he
  obtain ⟨w1, w2, w3, w4, w5, w6, u0, u1, u2, u3, u4, u5⟩ := d1
  rcases h with ⟨h1, h2⟩ | ⟨h1, h2⟩ | ⟨i, h1, h2, h3⟩ | ⟨m, c, h1, h2, h3, h4⟩
  · refine Or.inl ⟨h1, h2.trans ?_⟩
    unfold hdB
    rw [g1, g2, g3, f3, f4]
  · exact Or.inr (Or.inl ⟨h1, h2.trans (mpB_c (fun n => by rw [g4]) _ _ _)⟩)
  · rw [nix_o hS he] at h2
    refine Or.inr (Or.inr (Or.inl ⟨i, h1, h2, h3.trans ?_⟩))
    unfold nix pts at h2
    rw [f3, f4, ixB_o hS _ _ _ _ (by omega)]
  · rw [f3, f4] at h1
    rw [f3, cont_o hS (by omega)] at h2
    rw [f3, nix_o hS he, sumC_o hS _ _ (by omega)] at h3
    have hR := u5 ((ρ.2 14 0 e).toNat + m) (by omega) (by omega)
    refine Or.inr (Or.inr (Or.inr ⟨m, c, h1, h2, h3, h4.trans ?_⟩))
    rw [f3, ndB_o hS hB (by omega) hR]
theorem KB_o (hS : OldS ρ ρ' E) (hD : DumpsOk ρ E) (hB : RB ρ E) {bl : Nat → Nat → Int} (hK : KB ρ E bl) : KB ρ' E bl := by
  intro e a B he h j hj
  rw [(fb_o hS he).1]
  exact hK e a B he (BlkIs_o hS hD hB he h) j hj
theorem DmIs_o {c c' : CS} {da cn : Nat → Nat} (hS : OldS ρ ρ' E) {e : Nat} (he : e < E) (hv : ∀ f, c'.2.1 14 e f = c.2.1 14 e f) (ho : ∀ x, c.1 x = some (14, e) → c'.1 x = some (14, e)) (h : DmIs c ρ da cn e) : DmIs c' ρ' da cn e := by
  obtain ⟨f1, f2, f3, f4⟩ := fb_o hS he
  obtain ⟨g1, g2, g3, g4⟩ := hS.1 e he
  obtain ⟨oD, d0, d1, d2, d3, d4, d5, d6, d7⟩ := h
  refine ⟨ho _ oD, ?_, ?_, ?_, ?_, ?_, ?_, ?_, ?_⟩
  · rw [hv]; exact d0
  · rw [hv, g1]; exact d1
  · rw [hv, g2]; exact d2
  · rw [hv, g3]; exact d3
  · rw [hv]; exact d4
  · rw [hv, f3, f4]; exact d5
  · rw [hv, f1]; exact d6
  · rw [hv, f1, f2]; exact d7
theorem RecAt_o (hS : OldS ρ ρ' E) (hD : DumpsOk ρ E) (hB : RB ρ E) {r a : Nat} (h : RecAt ρ E r a) : RecAt ρ' E r a ∧ (r : Int) < ρ.1 27 ∧ RecOk ρ r := by
  obtain ⟨e, m, he, hm, hr, ha⟩ := h
  obtain ⟨f1, f2, f3, f4⟩ := fb_o hS he
  have fl := fb_le hD hB he
  obtain ⟨d1, d2, d3, d4⟩ := hD e he
  obtain ⟨w1, w2, w3, w4, w5, w6, u0, u1, u2, u3, u4, u5⟩ := d1
  refine ⟨⟨e, m, he, by rw [f3, f4]; exact hm, by rw [f3]; exact hr, by rw [f1, f3, nix_o hS he, sumC_o hS _ _ (by omega)]; exact ha⟩, by omega, u5 r (by omega) (by omega)⟩
end Old
