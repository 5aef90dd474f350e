/-! dump: what the records say -/
theorem cntU (p : Nat → Prop) [DecidablePred p] {k m : Nat} (hk : k < m) (hp : p k) : cnt p 0 k < cnt p 0 m := by
  obtain ⟨j, rfl⟩ : ∃ j, m = k + 1 + j := ⟨m - (k + 1), by omega⟩
  rw [cnt_add p (k + 1) 0 j, cnt_snoc, if_pos hp]
  omega
theorem cnt_fn (p : Nat → Prop) [DecidablePred p] : ∀ m : Nat, ∃ x : Nat → Nat, ∀ k, k < m → p k → x (cnt p 0 k) = k
  | 0 => ⟨fun _ => 0, fun k hk => absurd hk (Nat.not_lt_zero _)⟩
  | m + 1 => by
    obtain ⟨x, hx⟩ := cnt_fn p m
    refine ⟨fun i => if i = cnt p 0 m then m else x i, fun k hk hp => ?_⟩
    show (if cnt p 0 k = cnt p 0 m then m else x (cnt p 0 k)) = k
    by_cases e : k = m
    · rw [e, if_pos rfl]
    · have := cntU p (show k < m by omega) hp
      rw [if_neg (by omega)]
      exact hx k (by omega) hp
theorem cnt_sur (p : Nat → Prop) [DecidablePred p] : ∀ m i : Nat, i < cnt p 0 m → ∃ k, k < m ∧ p k ∧ cnt p 0 k = i
  | 0, i, h => absurd h (Nat.not_lt_zero _)
  | m + 1, i, h => by
    rw [cnt_snoc] at h
    by_cases e : i < cnt p 0 m
    · obtain ⟨k, h1, h2, h3⟩ := cnt_sur p m i e
      exact ⟨k, by omega, h2, h3⟩
    · by_cases hp : p m
      · rw [if_pos hp] at h
        exact ⟨m, by omega, hp, by omega⟩
      · rw [if_neg hp] at h
        omega
theorem cntS (p : Nat → Prop) [DecidablePred p] {f : Nat → Int} (hf : ∀ n, n < 256 → 1 ≤ f n) : ∀ m : Nat, m ≤ 256 → (cnt p 0 m : Int) ≤ sm p f 0 m
  | 0, _ => Int.le_refl _
  | m + 1, h => by
    have ih := cntS p hf m (by omega)
    have := hf m (by omega)
    rw [cnt_snoc, sm_snoc]
    by_cases hp : p m
    · rw [if_pos hp, if_pos hp]
      omega
    · rw [if_neg hp, if_neg hp]
      omega
theorem mpB_b {t t' : Nat → Prop} [DecidablePred t] [DecidablePred t'] : ∀ (m : Nat) (B : Nat → Int) (k : Nat), (∀ n, k ≤ n → n < k + m → (t n ↔ t' n)) → mpB t B k m = mpB t' B k m
  | 0, _, _, _ => rfl
  | m + 1, B, k, h => by
    show mpB t (if t k then _ else B) (k + 1) m = mpB t' (if t' k then _ else B) (k + 1) m
    have hk := h k (Nat.le_refl _) (by omega)
    by_cases e : t k
    · rw [if_pos e, if_pos (hk.mp e)]
      exact mpB_b m _ _ (fun n h1 h2 => h n (by omega) (by omega))
    · rw [if_neg e, if_neg (fun z => e (hk.mpr z))]
      exact mpB_b m _ _ (fun n h1 h2 => h n (by omega) (by omega))
theorem ixG_c {x y x' y' : Nat → Int} : ∀ (m : Nat) (B : Nat → Int) (f r r' : Nat), (∀ i, i < m → x (r + i) = x' (r' + i) ∧ y (r + i) = y' (r' + i)) → ixG x y B f r m = ixG x' y' B f r' m
  | 0, _, _, _, _, _ => rfl
  | m + 1, B, f, r, r', h => by
    show ixG x y (putK (putK B f (x r) 1) (f + 1) (y r) 1) (f + 2) (r + 1) m = ixG x' y' (putK (putK B f (x' r') 1) (f + 1) (y' r') 1) (f + 2) (r' + 1) m
    have h0 := h 0 (by omega)
    simp only [Nat.add_zero] at h0
    rw [h0.1, h0.2]
    exact ixG_c m _ _ _ _ (fun i hi => by
      have := h (i + 1) (by omega)
      rw [show r + (i + 1) = r + 1 + i by omega, show r' + (i + 1) = r' + 1 + i by omega] at this
      exact this)
theorem dE_ne (τ : RS) (w bl : Int) (e : Nat) {j r i : Nat} (h : ¬ ((j = 13 ∨ j = 14) ∧ r = 0 ∧ i = e + 1)) : (dE τ w bl e).2 j r i = τ.2 j r i := by
  unfold dE upA upF
  dsimp only
  rw [if_neg (by omega), if_neg (by omega)]
theorem dE_1 (τ : RS) (w bl : Int) (e i : Nat) : (dE τ w bl e).1 i = if i = 16 then (e : Int) + 1 else if i = 9 then w + bl else τ.1 i := rfl
theorem dS_1 (ρ : RS) (l c : Int) (e i : Nat) : (dS ρ l c e).1 i = if i = 0 then 0 else ρ.1 i := rfl
theorem dS_n (ρ : RS) (l c : Int) (e : Nat) {i : Nat} (h : i ≠ 0) : (dS ρ l c e).1 i = ρ.1 i := by rw [dS_1, if_neg h]
theorem dS_v (ρ : RS) (l c : Int) (e : Nat) : (dS ρ l c e).2 10 0 e = l ∧ (dS ρ l c e).2 11 0 e = ρ.1 7 ∧ (dS ρ l c e).2 12 0 e = c ∧ (dS ρ l c e).2 13 0 e = ρ.1 9 ∧ (dS ρ l c e).2 14 0 e = ρ.1 27 := by
  unfold dS upA upF
  dsimp only
  refine ⟨?_, ?_, ?_, ?_, ?_⟩
  · rw [if_neg (by omega), if_neg (by omega), if_neg (by omega), if_neg (by omega), if_pos ⟨rfl, rfl, rfl⟩]
  · rw [if_neg (by omega), if_neg (by omega), if_neg (by omega), if_pos ⟨rfl, rfl, rfl⟩]
  · rw [if_neg (by omega), if_neg (by omega), if_pos ⟨rfl, rfl, rfl⟩]
  · rw [if_neg (by omega), if_pos ⟨rfl, rfl, rfl⟩]
  · rw [if_pos ⟨rfl, rfl, rfl⟩]
/-- what the dump leaves -/
def DF (ρ ρ' : RS) (l c0 : Int) (E : Nat) (cs : Nat → Nat → Nat) (qs : Nat → Nat) : Prop :=
  Rg ρ' ∧ EntOk ρ' ∧ (∀ i, i ≠ 0 → i ≠ 9 → i ≠ 16 → i ≠ 27 → i ≠ 28 → i ≠ 29 → ρ'.1 i = ρ.1 i) ∧
  (ρ'.1 0 = 0 ∧ ρ'.1 9 = ρ.1 9 + dBlocks ρ c0 ∧ ρ'.1 16 = (E : Int) + 1 ∧ ρ'.1 27 = ρ.1 27 + (dMany ρ c0 : Nat)) ∧
  ((ρ.1 28 ≤ ρ'.1 28 ∧ ρ'.1 28 ≤ 64 * ρ'.1 9) ∧ (ρ.1 29 ≤ ρ'.1 29 ∧ ρ'.1 29 ≤ 21 * ρ'.1 9)) ∧
  (∀ j r i, (j < 10 ∨ 26 < j) → ρ'.2 j r i = ρ.2 j r i) ∧
  (∀ e, e ≠ E → ρ'.2 10 0 e = ρ.2 10 0 e ∧ ρ'.2 11 0 e = ρ.2 11 0 e ∧ ρ'.2 12 0 e = ρ.2 12 0 e ∧ ∀ n, ρ'.2 15 e n = ρ.2 15 e n) ∧
  (∀ e, e ≠ E → e ≠ E + 1 → ρ'.2 13 0 e = ρ.2 13 0 e ∧ ρ'.2 14 0 e = ρ.2 14 0 e) ∧
  (ρ'.2 10 0 E = l ∧ ρ'.2 11 0 E = ρ.1 7 ∧ ρ'.2 12 0 E = c0 ∧ ρ'.2 13 0 E = ρ.1 9 ∧ ρ'.2 14 0 E = ρ.1 27 ∧ ρ'.2 13 0 (E + 1) = ρ.1 9 + dBlocks ρ c0 ∧ ρ'.2 14 0 (E + 1) = ρ.1 27 + (dMany ρ c0 : Nat)) ∧
  (∀ i, i < 256 → ρ'.2 15 E i = if ρ.2 1 0 i = 0 then 0 else 1) ∧
  ((∀ j i : Nat, 17 ≤ j → j ≤ 23 → (i : Int) < ρ.1 27 → ρ'.2 j 0 i = ρ.2 j 0 i) ∧ (∀ i : Nat, (i : Int) < ρ.1 28 → ρ'.2 24 0 i = ρ.2 24 0 i) ∧ (∀ i : Nat, (i : Int) < ρ.1 29 → ρ'.2 25 0 i = ρ.2 25 0 i ∧ ρ'.2 26 0 i = ρ.2 26 0 i)) ∧
  (∀ n, n < 256 → chg ρ c0 n → RecIs ρ' ((ρ.1 27).toNat + cnt (chg ρ c0) 0 n) ρ n (cs n) (qs n))
theorem DF_of {ρ τ : RS} {l c0 : Int} {E : Nat} {cs : Nat → Nat → Nat} {qs : Nat → Nat} (hT : TreeOk ρ) (hE : E < 100) (c2 : c0 < E) (w1 : 0 ≤ ρ.1 9) (hx : ρ.1 9 + dBlocks ρ c0 ≤ 4000) (hτ : DInv (dS ρ l c0 E) c0 E cs qs 256 τ) : DF ρ (dE τ (ρ.1 9) (dBlocks ρ c0) E) l c0 E cs qs := by
  obtain ⟨i1, i2, i3, i4, i5, i6, i7, i8, i9, i10, i11, i12, i13⟩ := hτ
  have hB := dB_ok hT c0
  have ec : ∀ k, cnt (chg (dS ρ l c0 E) c0) 0 k = cnt (chg ρ c0) 0 k := fun k => cnt_congr k 0 (fun n _ _ => dS_chg c2 n)
  have es : ∀ k, sm (chg (dS ρ l c0 E) c0) (nb (dS ρ l c0 E)) 0 k = sm (chg ρ c0) (nb ρ) 0 k := fun k => sm_congr k 0 (fun n _ _ => ⟨dS_chg c2 n, dS_nb n⟩)
  rw [ec, dS_n _ _ _ _ (show 27 ≠ 0 by decide)] at i7
  rw [es, dS_n _ _ _ _ (show 28 ≠ 0 by decide), dS_n _ _ _ _ (show 9 ≠ 0 by decide)] at i8
  rw [es, dS_n _ _ _ _ (show 29 ≠ 0 by decide), dS_n _ _ _ _ (show 9 ≠ 0 by decide)] at i9
  have hp : 0 ≤ pts (dMany ρ c0) 31 := Int.ediv_nonneg (by omega) (by decide)
  have dB : dBlocks ρ c0 = 2 + sm (chg ρ c0) (nb ρ) 0 256 + pts (dMany ρ c0) 31 := rfl
  have g27 := i1.1 27
  have F : ∀ i, i ≠ 16 → i ≠ 9 → (dE τ (ρ.1 9) (dBlocks ρ c0) E).1 i = τ.1 i := fun i h1 h2 => by rw [dE_1, if_neg h1, if_neg h2]
  have e9 : (dE τ (ρ.1 9) (dBlocks ρ c0) E).1 9 = ρ.1 9 + dBlocks ρ c0 := rfl
  obtain ⟨s1, s2, s3, s4, s5⟩ := dS_v ρ l c0 E
  have q : ∀ j r i, (j < 17 ∨ 26 < j) → ¬ (j = 15 ∧ r = E) → ¬ ((j = 13 ∨ j = 14) ∧ r = 0 ∧ i = E + 1) → (dE τ (ρ.1 9) (dBlocks ρ c0) E).2 j r i = (dS ρ l c0 E).2 j r i := fun j r i h1 h2 h3 => (dE_ne _ _ _ _ h3).trans (i4 j r i h1 h2)
  refine ⟨?_, fun k => ?_, fun i h0 h9 h16 h27 h28 h29 => ?_, ⟨?_, e9, rfl, ?_⟩, ⟨⟨?_, ?_⟩, ?_, ?_⟩, fun j r i hj => ?_, fun e he => ⟨?_, ?_, ?_, fun n => ?_⟩, fun e h1 h2 => ⟨?_, ?_⟩, ⟨?_, ?_, ?_, ?_, ?_, ?_, ?_⟩, fun i hi => ?_, ⟨fun j i h1 h2 h3 => ?_, fun i hi => ?_, fun i hi => ?_⟩, fun n hn hc => ?_⟩
  · unfold dE
    exact ((((i1.upF 9 (by omega) (by omega)).upF 16 (by omega) (by omega)).upA 13 0 _ (by omega) (by omega)).upA 14 0 _ g27.1 g27.2)
  · rw [dE_ne _ _ _ _ (by omega), dE_ne _ _ _ _ (by omega)]
    exact i2 k
  · rw [F i h16 h9, i3 i h27 h28 h29, dS_n _ _ _ _ h0]
  · rw [F 0 (by decide) (by decide), i3 0 (by decide) (by decide) (by decide)]
    rfl
  · rw [F 27 (by decide) (by decide)]
    exact i7
  · rw [F 28 (by decide) (by decide)]
    exact i8.1
  · rw [F 28 (by decide) (by decide), e9]
    omega
  · rw [F 29 (by decide) (by decide)]
    exact i9.1
  · rw [F 29 (by decide) (by decide), e9]
    omega
  · rw [q j r i (by omega) (by omega) (by omega), dS_lo _ _ _ _ (by omega)]
  · rw [q _ _ _ (by omega) (by omega) (by omega), dS_lo _ _ _ _ (by omega)]
  · rw [q _ _ _ (by omega) (by omega) (by omega), dS_lo _ _ _ _ (by omega)]
  · rw [q _ _ _ (by omega) (by omega) (by omega), dS_lo _ _ _ _ (by omega)]
  · rw [q _ _ _ (by omega) (by omega) (by omega), dS_lo _ _ _ _ (by omega)]
  · rw [q _ _ _ (by omega) (by omega) (by omega), dS_lo _ _ _ _ (by omega)]
  · rw [q _ _ _ (by omega) (by omega) (by omega), dS_lo _ _ _ _ (by omega)]
  · rw [q _ _ _ (by omega) (by omega) (by omega), s1]
  · rw [q _ _ _ (by omega) (by omega) (by omega), s2]
  · rw [q _ _ _ (by omega) (by omega) (by omega), s3]
  · rw [q _ _ _ (by omega) (by omega) (by omega), s4]
  · rw [q _ _ _ (by omega) (by omega) (by omega), s5]
  · unfold dE upA upF
    dsimp only
    rw [if_neg (by omega), if_pos ⟨rfl, rfl, rfl⟩]
  · refine Eq.trans ?_ i7
    unfold dE upA upF
    dsimp only
    rw [if_pos ⟨rfl, rfl, rfl⟩]
  · rw [dE_ne _ _ _ _ (by omega), i5 i hi, dS_lo _ _ _ _ (by omega)]
  · rw [dE_ne _ _ _ _ (by omega), i10 j i h1 h2 (by rw [dS_n _ _ _ _ (by decide)]; exact h3), dS_lo _ _ _ _ (by omega)]
  · rw [dE_ne _ _ _ _ (by omega), i11 i (by rw [dS_n _ _ _ _ (by decide)]; exact hi), dS_lo _ _ _ _ (by omega)]
  · have := i12 i (by rw [dS_n _ _ _ _ (by decide)]; exact hi)
    rw [dE_ne _ _ _ _ (by omega), dE_ne _ _ _ _ (by omega), this.1, this.2, dS_lo _ _ _ _ (by omega), dS_lo _ _ _ _ (by omega)]
    exact ⟨rfl, rfl⟩
  · have h := i13 n hn ((dS_chg c2 n).mpr hc)
    rw [ec, dS_n _ _ _ _ (show 27 ≠ 0 by decide)] at h
    have h2 := RecIs.keep (τ := dE τ (ρ.1 9) (dBlocks ρ c0) E) h (by rw [dS_lo _ _ _ _ (by omega)]; exact (hT n hn).2.2.2.2.2.1) (fun j h1 h2 => dE_ne _ _ _ _ (by omega)) (fun i _ => dE_ne _ _ _ _ (by omega)) (fun i _ => ⟨dE_ne _ _ _ _ (by omega), dE_ne _ _ _ _ (by omega)⟩) (Int.le_refl _) (Int.le_refl _)
    exact RecIs.of (dS_T ρ l c0 E) (fun i => dS_lo _ _ _ _ (by omega)) h2
section Df
variable {ρ ρ' : RS} {l c0 : Int} {E : Nat} {cs : Nat → Nat → Nat} {qs : Nat → Nat}
theorem DF_old (hF : DF ρ ρ' l c0 E cs qs) (hB : RB ρ E) : OldS ρ ρ' E := by
  obtain ⟨f1, f2, f3, f4, f5, f6, f7, f8, ⟨v1, v2, v3, v4, v5, v6, v7⟩, f10, ⟨o1, o2, o3⟩, f12⟩ := hF
  refine ⟨fun e he => f7 e (by omega), fun e he hE => ?_, o1, o2, o3⟩
  by_cases q : e = E
  · rw [q, v4, v5, (hB.2.1 hE).2.1, (hB.2.1 hE).2.2.2]
    exact ⟨rfl, rfl⟩
  · exact f8 e q (by omega)
theorem DF_rec (hF : DF ρ ρ' l c0 E cs qs) (hT : TreeOk ρ) (hq : ∀ n, n < 256 → ρ.2 1 0 n ≠ 0 → rEnt ρ n = qs n) (hx : ρ'.1 9 ≤ 4000) {n : Nat} (hn : n < 256) (hc : chg ρ c0 n) : RecOk ρ' ((ρ.1 27).toNat + cnt (chg ρ c0) 0 n) ∧ 1 + cont ρ' ((ρ.1 27).toNat + cnt (chg ρ c0) 0 n) = nb ρ n ∧ (ρ'.2 18 0 ((ρ.1 27).toNat + cnt (chg ρ c0) 0 n) = 1 → ρ'.2 23 0 ((ρ.1 27).toNat + cnt (chg ρ c0) 0 n) + ρ'.2 21 0 ((ρ.1 27).toNat + cnt (chg ρ c0) 0 n) ≤ ρ'.1 28) ∧ (ρ'.2 18 0 ((ρ.1 27).toNat + cnt (chg ρ c0) 0 n) ≠ 1 → ρ'.2 23 0 ((ρ.1 27).toNat + cnt (chg ρ c0) 0 n) + ρ'.2 21 0 ((ρ.1 27).toNat + cnt (chg ρ c0) 0 n) ≤ ρ'.1 29) := by
  obtain ⟨f1, f2, f3, f4, ⟨⟨f5a, f5b⟩, f5c, f5d⟩, f6, f7, f8, f9, f10, f11, f12⟩ := hF
  obtain ⟨a1, a2, a3, a4, a5, a6, a7, a8, a9⟩ := f12 n hn hc
  obtain ⟨t1, t2, t3, t4, t5, t6, t7, t8, t9⟩ := hT n hn
  have hqn := hq n hn hc.1
  have hq2 : qs n ≤ 255 := by rw [← hqn]; exact cnt_le _ _ _
  unfold RecOk cont nb
  rw [a1, a2, a3, a4, a5, a6]
  by_cases k1 : ρ.2 1 0 n = 1
  · have b8 := (a8 k1).2
    rw [if_pos k1, if_pos k1, if_pos k1]
    refine ⟨⟨by omega, by omega, Or.inl k1, t4, t5, t2, t3, t6, t7, t8, t9, a7, fun _ => by omega, fun z => by omega⟩, rfl, fun _ => b8, fun z => absurd k1 z⟩
  · have b9 := (a9 k1).2
    have k2 : ρ.2 1 0 n = 2 := by
      have := hc.1
      omega
    rw [if_neg k1, if_neg k1, if_neg k1, hqn]
    refine ⟨⟨by omega, by omega, Or.inr k2, t4, t5, t2, t3, by omega, by omega, t8, t9, a7, fun z => by omega, fun _ => ⟨by omega, by omega⟩⟩, rfl, fun z => absurd z k1, fun _ => b9⟩
theorem DF_sum (hF : DF ρ ρ' l c0 E cs qs) (hT : TreeOk ρ) (hq : ∀ n, n < 256 → ρ.2 1 0 n ≠ 0 → rEnt ρ n = qs n) (hx : ρ'.1 9 ≤ 4000) : ∀ k : Nat, k ≤ 256 → sumC ρ' (ρ.1 27).toNat (cnt (chg ρ c0) 0 k) = sm (chg ρ c0) (nb ρ) 0 k
  | 0, _ => rfl
  | k + 1, hk => by
    have ih := DF_sum hF hT hq hx k (by omega)
    rw [cnt_snoc, sm_snoc]
    by_cases hp : chg ρ c0 k
    · have hr := (DF_rec hF hT hq hx (show k < 256 by omega) hp).2.1
      rw [if_pos hp, if_pos hp, sumC_add, ih, ← hr]
      show _ + (1 + cont ρ' _ + 0) = _
      omega
    · rw [if_neg hp, if_neg hp, Nat.add_zero, ih]
      omega
theorem DF_dump (hF : DF ρ ρ' l c0 E cs qs) (hT : TreeOk ρ) (hq : ∀ n, n < 256 → ρ.2 1 0 n ≠ 0 → rEnt ρ n = qs n) (hx : ρ'.1 9 ≤ 4000) (w1 : 0 ≤ ρ.1 9) (r0 : 0 ≤ ρ.1 27) (r1 : ρ.1 27 ≤ ρ.1 9) (l1 : 0 ≤ l) (l2 : l ≤ 9) (t1 : 0 ≤ ρ.1 7) (t2 : ρ.1 7 ≤ 100000) (c1 : -1 ≤ c0) (c2 : c0 < E) : (DumpOk ρ' E ∧ (∀ n, n < 256 → 0 ≤ ρ'.2 15 E n ∧ ρ'.2 15 E n ≤ 1) ∧ ρ'.2 13 0 (E + 1) ≤ 4000 ∧ ρ'.2 13 0 E + (2 + nix ρ' E) + sumC ρ' (ρ'.2 14 0 E).toNat (ρ'.2 14 0 (E + 1) - ρ'.2 14 0 E).toNat = ρ'.2 13 0 (E + 1)) ∧ (dMany ρ c0 : Int) ≤ sm (chg ρ c0) (nb ρ) 0 256 ∧ ρ'.1 27 ≤ ρ'.1 9 := by
  have hs := DF_sum hF hT hq hx 256 (Nat.le_refl _)
  have hcs := cntS (chg ρ c0) (f := nb ρ) (fun n hn => (nb_ok hT hn).1) 256 (Nat.le_refl _)
  have hN : dMany ρ c0 ≤ 256 := cnt_le _ _ _
  have hp : 0 ≤ pts (dMany ρ c0) 31 := Int.ediv_nonneg (by omega) (by decide)
  have dB : dBlocks ρ c0 = 2 + sm (chg ρ c0) (nb ρ) 0 256 + pts (dMany ρ c0) 31 := rfl
  have dM : dMany ρ c0 = cnt (chg ρ c0) 0 256 := rfl
  have hR := fun n hn hc => (DF_rec (n := n) hF hT hq hx hn hc).1
  obtain ⟨f1, f2, f3, ⟨f40, f49, f416, f427⟩, f5, f6, f7, f8, ⟨v1, v2, v3, v4, v5, v6, v7⟩, f10, f11, f12⟩ := hF
  unfold DumpOk nix
  rw [v1, v2, v3, v4, v5, v6, v7, show ρ.1 27 + (dMany ρ c0 : Int) - ρ.1 27 = (dMany ρ c0 : Int) by omega, Int.toNat_natCast, dM, hs, ← dM]
  refine ⟨⟨⟨l1, l2, t1, t2, c1, c2, w1, r0, by omega, by omega, by omega, fun j j1 j2 => ?_⟩, fun n hn => ?_, by omega, by omega⟩, by rw [dM]; exact hcs, by omega⟩
  · obtain ⟨k, k1, k2, k3⟩ := cnt_sur (chg ρ c0) 256 (j - (ρ.1 27).toNat) (by omega)
    have := hR k k1 k2
    rw [k3, show (ρ.1 27).toNat + (j - (ρ.1 27).toNat) = j by omega] at this
    exact this
  · rw [f10 n hn]
    split <;> omega
end Df
