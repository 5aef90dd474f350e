/-! what is read out of blocks -/
theorem nm1 (B : Nat → Int) (i : Nat) : nmL B i 1 0 = B i := by
  show 0 * 256 + B i = B i
  omega
theorem nm2 (B : Nat → Int) (i : Nat) : nmL B i 2 0 = B i * 256 + B (i + 1) := by
  show (0 * 256 + B i) * 256 + B (i + 1) = _
  omega
theorem nm4 (B : Nat → Int) (i : Nat) : nmL B i 4 0 = ((B i * 256 + B (i + 1)) * 256 + B (i + 1 + 1)) * 256 + B (i + 1 + 1 + 1) := by
  show (((0 * 256 + B i) * 256 + B (i + 1)) * 256 + B (i + 1 + 1)) * 256 + B (i + 1 + 1 + 1) = _
  omega
theorem nmL_c {B B' : Nat → Int} : ∀ (m i : Nat) (a : Int), (∀ j, i ≤ j → j < i + m → B j = B' j) → nmL B i m a = nmL B' i m a
  | 0, _, _, _ => rfl
  | m + 1, i, a, h => by
    show nmL B (i + 1) m (a * 256 + B i) = nmL B' (i + 1) m (a * 256 + B' i)
    rw [h i (Nat.le_refl _) (by omega)]
    exact nmL_c m (i + 1) _ (fun j h1 h2 => h j (by omega) (by omega))
theorem ixG_at (x y : Nat → Int) (B : Nat → Int) (f r : Nat) : ∀ (m k : Nat), k < m → ixG x y B f r m (f + 2 * k) = x (r + k) % 256 ∧ ixG x y B f r m (f + 2 * k + 1) = y (r + k) % 256
  | 0, _, h => absurd h (Nat.not_lt_zero _)
  | m + 1, k, h => by
    rw [ixG_s]
    simp only [putK_at]
    by_cases e : k = m
    · subst e
      rw [if_neg (by omega), if_pos (by omega), if_pos (by omega)]
      simp
    · have ih := ixG_at x y B f r m k (by omega)
      rw [if_neg (by omega), if_neg (by omega), if_neg (by omega), if_neg (by omega)]
      exact ih
theorem ixB_G (ρ : RS) : ∀ (m : Nat) (B : Nat → Int) (f r : Nat), ixB ρ B f r m = ixG (ρ.2 17 0) (fun r => 1 + cont ρ r) B f r m
  | 0, _, _, _ => rfl
  | m + 1, B, f, r => ixB_G ρ m _ (f + 2) (r + 1)
theorem ocB_at (g : Nat → Int) (B : Nat → Int) (f s : Nat) : ∀ (m i : Nat), i < m → ocB g B f s m (f + i) = g (s + i) % 256
  | 0, _, h => absurd h (Nat.not_lt_zero _)
  | m + 1, i, h => by
    rw [ocB_s, putK_at]
    by_cases e : i = m
    · subst e
      rw [if_pos (by omega)]
      simp
    · rw [if_neg (by omega)]
      exact ocB_at g B f s m i (by omega)
theorem enB_at (g1 g2 : Nat → Int) (B : Nat → Int) (f s : Nat) : ∀ (m i : Nat), i < m → enB g1 g2 B f s m (f + 3 * i) = g1 (s + i) / 256 % 256 ∧ enB g1 g2 B f s m (f + 3 * i + 1) = g1 (s + i) % 256 ∧ enB g1 g2 B f s m (f + 3 * i + 2) = g2 (s + i) % 256
  | 0, _, h => absurd h (Nat.not_lt_zero _)
  | m + 1, i, h => by
    rw [enB_s]
    simp only [putK_at]
    by_cases e : i = m
    · subst e
      rw [if_neg (by omega), if_pos (by omega), if_neg (by omega), if_pos (by omega), if_pos (by omega), show f + 3 * i + 2 - 1 - (f + 3 * i) = 1 by omega, show f + 3 * i + 2 - 1 - (f + 3 * i + 1) = 0 by omega, show f + 3 * i + 2 + 1 - 1 - (f + 3 * i + 2) = 0 by omega]
      simp
    · have ih := enB_at g1 g2 B f s m i (by omega)
      rw [if_neg (by omega), if_neg (by omega), if_neg (by omega), if_neg (by omega), if_neg (by omega), if_neg (by omega)]
      exact ih
theorem mpB_ok (t : Nat → Prop) [DecidablePred t] {B : Nat → Int} (hB : ∀ i, 0 ≤ B i) : ∀ (m k : Nat) (i : Nat), 0 ≤ mpB t B k m i
  | 0, _, i => hB i
  | m + 1, k, i => by
    rw [mpB_s]
    split
    · unfold upB orI
      split
      · exact Int.natCast_nonneg _
      · exact mpB_ok t hB m k i
    · exact mpB_ok t hB m k i
theorem mpB_bit (t : Nat → Prop) [DecidablePred t] {B : Nat → Int} (hB : ∀ i, 0 ≤ B i) (hz : ∀ i, 1 ≤ i → B i = 0) : ∀ (m q s : Nat), s < 8 → (mpB t B 0 m (1 + q)).toNat.testBit (7 - s) = decide (t (8 * q + s) ∧ 8 * q + s < m)
  | 0, q, s, hs => by
    show (B (1 + q)).toNat.testBit (7 - s) = _
    rw [hz _ (by omega), show (0 : Int).toNat = 0 from rfl, Nat.zero_testBit]
    simp
  | m + 1, q, s, hs => by
    have ih := mpB_bit t hB hz m q s hs
    rw [mpB_s, Nat.zero_add]
    by_cases ht : t m
    · rw [if_pos ht]
      unfold upB orI
      by_cases e : 1 + q = 1 + m / 8
      · rw [if_pos e, Int.toNat_natCast, Nat.testBit_or, ← e, ih, show ((2 : Int) ^ (7 - m % 8)).toNat = 2 ^ (7 - m % 8) from by rw [show (2 : Int) ^ (7 - m % 8) = ((2 ^ (7 - m % 8) : Nat) : Int) from by simp, Int.toNat_natCast], Nat.testBit_two_pow]
        by_cases e2 : 8 * q + s = m
        · rw [decide_eq_true (show 7 - m % 8 = 7 - s by omega), Bool.or_true, e2, decide_eq_true ⟨ht, by omega⟩]
        · rw [decide_eq_false (show ¬ (7 - m % 8 = 7 - s) by omega), Bool.or_false]
          exact decide_eq_decide.mpr ⟨fun z => ⟨z.1, by omega⟩, fun z => ⟨z.1, by omega⟩⟩
      · rw [if_neg e, ih]
        exact decide_eq_decide.mpr ⟨fun z => ⟨z.1, by omega⟩, fun z => ⟨z.1, by omega⟩⟩
    · rw [if_neg ht, ih]
      refine decide_eq_decide.mpr ⟨fun z => ⟨z.1, by omega⟩, fun z => ⟨z.1, ?_⟩⟩
      have : 8 * q + s ≠ m := fun y => ht (y ▸ z.1)
      omega
theorem mpB_read (t : Nat → Prop) [DecidablePred t] {n : Nat} (hn : n < 256) : mpB t (putK zB 0 77 1) 0 256 (1 + n / 8) / 2 ^ (7 - n % 8) % 2 = if t n then 1 else 0 := by
  have h0 : ∀ i, 0 ≤ putK zB 0 77 1 i := fun i => (putK_ok (fun _ => ⟨Int.le_refl _, by decide⟩) 0 77 1 i).1
  have h1 : ∀ i, 1 ≤ i → putK zB 0 77 1 i = 0 := fun i hi => by rw [putK_at, if_neg (by omega)]; rfl
  have h2 := mpB_bit t h0 h1 256 (n / 8) (n % 8) (by omega)
  have h3 := mpB_ok t h0 256 0 (1 + n / 8)
  rw [show 8 * (n / 8) + n % 8 = n by omega, Nat.testBit_eq_decide_div_mod_eq] at h2
  obtain ⟨v, hv⟩ := Int.eq_ofNat_of_zero_le h3
  rw [hv, Int.toNat_natCast] at h2
  rw [hv, show (2 : Int) ^ (7 - n % 8) = ((2 ^ (7 - n % 8) : Nat) : Int) from by simp]
  have h4 : (v : Int) / ((2 ^ (7 - n % 8) : Nat) : Int) % 2 = ((v / 2 ^ (7 - n % 8) % 2 : Nat) : Int) := by
    rw [Int.natCast_emod, Int.natCast_ediv]
    rfl
  rw [h4]
  by_cases ht : t n
  · rw [if_pos ht]
    rw [decide_eq_true (show t n ∧ n < 256 from ⟨ht, hn⟩), decide_eq_true_eq] at h2
    rw [h2]
    rfl
  · rw [if_neg ht]
    rw [decide_eq_false (show ¬ (t n ∧ n < 256) from fun z => ht z.1), decide_eq_false_iff_not] at h2
    have : v / 2 ^ (7 - n % 8) % 2 = 0 := by omega
    rw [this]
    rfl
theorem fcB_read {ρ : RS} {r : Nat} (hR : RecOk ρ r) : fcB ρ r 2 = ρ.2 18 0 r ∧ nmL (fcB ρ r) 3 2 0 = ρ.2 19 0 r ∧ fcB ρ r 5 = ρ.2 20 0 r ∧ nmL (fcB ρ r) 6 2 0 = ρ.2 21 0 r ∧ nmL (fcB ρ r) 8 4 0 = ρ.2 22 0 r := by
  obtain ⟨a1, a2, a3, a4, a5, a6, a7, a8, a9, a10, a11, -⟩ := hR
  rw [nm2, nm2, nm4]
  unfold fcB
  simp only [putK_at]
  simp
  omega
section Vnm
variable {b L V0 : Nat} {xs : Nat → Int32} {Z : Nat → Prop} {g : Nat → Option AO} {c : CS} {nc ns cap fi : Nat} {bl : Nat → Nat → Int} {sp ls : Nat → Int} {H : AH} {ρ : RS} {na : Nat → Option Nat} {T0 N0 R0 D0 : Nat}
theorem VV_len (hH : VH b V0 Z g c nc ns cap fi bl sp ls H) : ∃ (h : AH) (W0 P0 len wr : Nat) (W : Nat → Int64) (S : Nat → Int), H = CH h (mkV c W0 P0 len cap wr fi W S) ∧ VI b c V0 W0 P0 len cap wr S ∧ VV cap fi wr W S bl sp ls := by
  obtain ⟨wr, W, S, ⟨h, W0, P0, len, e, hV, -⟩, hv⟩ := hH
  exact ⟨h, W0, P0, len, wr, W, S, e, hV, hv⟩
theorem V_isSp (hH : VH b V0 Z g c nc ns cap fi bl sp ls H) (d : Nat) (hd : 1 ≤ d) {k : Nat} (hk : k < fi) : Wp b L xs d mi_81 0 (ent (mL mi_81) [.ref V0, vI k]) [] H (Rt H (vI (sp k))) := by
  have hc := VH_cap hH
  obtain ⟨h, W0, P0, len, wr, W, S, rfl, hV, hv⟩ := VV_len hH
  obtain ⟨u, rfl⟩ : ∃ u, cap = u + 1 := ⟨cap - 1, by omega⟩
  have g1 := psB_wr (show 0 < u by omega) hk
  have g2 : k ≤ psB (u + 1) k := by rw [psB_e (show 0 < u by omega) k]; exact Nat.le_trans (Nat.le_add_right _ _) (Nat.le_add_right _ _)
  rw [← hv.1] at g1
  have g3 := hV.2.2.2.2.2.2.2.2.2.2.2.1
  have g4 := hV.2.2.2.2.2.2.2.2.2.2.2.2.2.1
  rw [← (hv.2.1 k hk).2]
  exact k_isSp d hd hV (by omega) (by omega)
theorem V_num (hH : VH b V0 Z g c nc ns cap fi bl sp ls H) (d : Nat) (hd : 1 ≤ d) {k at_ wd : Nat} (hk : k < fi) (hw : at_ + wd ≤ 64) (hr : nmL (bl k) at_ wd 0 ≤ 2147483647) : Wp b L xs d mi_85 0 (ent (mL mi_85) [.ref V0, vI k, vI at_, vI wd]) [] H (Rt H (vI (nmL (bl k) at_ wd 0))) := by
  have hc := VH_cap hH
  obtain ⟨h, W0, P0, len, wr, W, S, rfl, hV, hv⟩ := VV_len hH
  obtain ⟨u, rfl⟩ : ∃ u, cap = u + 1 := ⟨cap - 1, by omega⟩
  have g1 := psB_wr (show 0 < u by omega) hk
  have g2 : k ≤ psB (u + 1) k := by rw [psB_e (show 0 < u by omega) k]; exact Nat.le_trans (Nat.le_add_right _ _) (Nat.le_add_right _ _)
  rw [← hv.1] at g1
  have g3 := hV.2.2.2.2.2.2.2.2.2.2.2.1
  have g4 := hV.2.2.2.2.2.2.2.2.2.2.2.2.2.1
  have g5 : nmL (bl k) at_ wd 0 = nmL (ocW W (psB (u + 1) k)) at_ wd 0 := nmL_c wd at_ 0 (fun j h1 h2 => ((hv.2.1 k hk).1 j (by omega)).symm)
  rw [g5] at hr ⊢
  exact k_num d hd hV (by omega) (by omega) hw hr
end Vnm
