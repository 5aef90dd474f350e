/-! the reference's dump: the records -/
theorem cnt_add (p : Nat → Prop) [DecidablePred p] : ∀ (m k n : Nat), cnt p k (m + n) = cnt p k m + cnt p (k + m) n
  | 0, k, n => by rw [Nat.zero_add, Nat.add_zero]; exact (Nat.zero_add _).symm
  | m + 1, k, n => by
    rw [show m + 1 + n = (m + n) + 1 by omega]
    show (if p k then 1 else 0) + cnt p (k + 1) (m + n) = (if p k then 1 else 0) + cnt p (k + 1) m + _
    rw [cnt_add p m (k + 1) n, show k + 1 + m = k + (m + 1) by omega]
    omega
theorem sm_add (p : Nat → Prop) [DecidablePred p] (f : Nat → Int) : ∀ (m k n : Nat), sm p f k (m + n) = sm p f k m + sm p f (k + m) n
  | 0, k, n => by rw [Nat.zero_add, Nat.add_zero]; exact (Int.zero_add _).symm
  | m + 1, k, n => by
    rw [show m + 1 + n = (m + n) + 1 by omega]
    show (if p k then f k else 0) + sm p f (k + 1) (m + n) = (if p k then f k else 0) + sm p f (k + 1) m + _
    rw [sm_add p f m (k + 1) n, show k + 1 + m = k + (m + 1) by omega]
    omega
theorem cnt_snoc (p : Nat → Prop) [DecidablePred p] (k : Nat) : cnt p 0 (k + 1) = cnt p 0 k + (if p k then 1 else 0) := by
  rw [cnt_add p k 0 1, Nat.zero_add]
  rfl
theorem sm_snoc (p : Nat → Prop) [DecidablePred p] (f : Nat → Int) (k : Nat) : sm p f 0 (k + 1) = sm p f 0 k + (if p k then f k else 0) := by
  rw [sm_add p f k 0 1, Nat.zero_add]
  show _ + ((if p k then f k else 0) + 0) = _
  omega
theorem cnt_sm (p : Nat → Prop) [DecidablePred p] {f : Nat → Int} (hf : ∀ n, n < 256 → 1 ≤ f n ∧ f n ≤ 14) : ∀ m k : Nat, k + m ≤ 256 → (cnt p k m : Int) ≤ sm p f k m
  | 0, _, _ => Int.le_refl _
  | m + 1, k, hk => by
    have h1 := cnt_sm p hf m (k + 1) (by omega)
    have h2 := hf k (by omega)
    unfold cnt sm
    split <;> omega
theorem cnt_congr {p q : Nat → Prop} [DecidablePred p] [DecidablePred q] : ∀ m k : Nat, (∀ n, k ≤ n → n < k + m → (p n ↔ q n)) → cnt p k m = cnt q k m
  | 0, _, _ => rfl
  | m + 1, k, h => by
    have h1 := cnt_congr (p := p) (q := q) m (k + 1) (fun n a b => h n (by omega) (by omega))
    have h2 := h k (by omega) (by omega)
    unfold cnt
    rw [h1]
    by_cases hp : p k
    · rw [if_pos hp, if_pos (h2.mp hp)]
    · rw [if_neg hp, if_neg (fun z => hp (h2.mpr z))]
theorem sm_congr {p q : Nat → Prop} [DecidablePred p] [DecidablePred q] {f g : Nat → Int} : ∀ m k : Nat, (∀ n, k ≤ n → n < k + m → (p n ↔ q n) ∧ f n = g n) → sm p f k m = sm q g k m
  | 0, _, _ => rfl
  | m + 1, k, h => by
    have h1 := sm_congr (p := p) (q := q) (f := f) (g := g) m (k + 1) (fun n a b => h n (by omega) (by omega))
    have h2 := h k (by omega) (by omega)
    unfold sm
    rw [h1, h2.2]
    by_cases hp : p k
    · rw [if_pos hp, if_pos (h2.1.mp hp)]
    · rw [if_neg hp, if_neg (fun z => hp (h2.1.mpr z))]
/-- the tree of two states is one -/
def SameT (ρ σ : RS) : Prop := ∀ j i, j < 7 → σ.2 j 0 i = ρ.2 j 0 i
theorem rEnt_congr {ρ σ : RS} (h : SameT ρ σ) (n : Int) : rEnt σ n = rEnt ρ n := by
  refine cnt_congr 255 1 (fun k _ _ => ?_)
  rw [h 1 k (by decide), h 2 k (by decide)]
theorem Kids.congr {ρ σ : RS} (h : SameT ρ σ) {n : Nat} {c : Nat → Nat} {q : Nat} (hK : Kids ρ n c q) : Kids σ n c q := by
  obtain ⟨k1, k2, k3, k4⟩ := hK
  refine ⟨fun i hi => ?_, fun i j a b => ?_, fun m a b c d => ?_, fun i hi => ?_⟩
  · rw [h 1 _ (by decide), h 2 _ (by decide)]; exact k1 i hi
  · rw [h 3 _ (by decide), h 3 _ (by decide)]; exact k2 i j a b
  · rw [h 1 _ (by decide)] at c
    rw [h 2 _ (by decide)] at d
    exact k3 m a b c d
  · rw [h 3 _ (by decide)]; exact k4 i hi
theorem RecIs.keep {σ τ ρ : RS} {r n q : Nat} {c : Nat → Nat} (hR : RecIs σ r ρ n c q) (hT : 0 ≤ ρ.2 4 0 n) (h1 : ∀ j, 17 ≤ j → j ≤ 23 → τ.2 j 0 r = σ.2 j 0 r) (h2 : ∀ i : Nat, (i : Int) < σ.1 28 → τ.2 24 0 i = σ.2 24 0 i) (h3 : ∀ i : Nat, (i : Int) < σ.1 29 → τ.2 25 0 i = σ.2 25 0 i ∧ τ.2 26 0 i = σ.2 26 0 i) (h4 : σ.1 28 ≤ τ.1 28) (h5 : σ.1 29 ≤ τ.1 29) : RecIs τ r ρ n c q := by
  obtain ⟨a1, a2, a3, a4, a5, a6, a7, a8, a9⟩ := hR
  refine ⟨(h1 17 (by decide) (by decide)).trans a1, (h1 18 (by decide) (by decide)).trans a2, (h1 19 (by decide) (by decide)).trans a3, (h1 20 (by decide) (by decide)).trans a4, (h1 22 (by decide) (by decide)).trans a5, (h1 21 (by decide) (by decide)).trans a6, by rw [h1 23 (by decide) (by decide)]; exact a7, fun z => ?_, fun z => ?_⟩
  · obtain ⟨b1, b2⟩ := a8 z
    rw [h1 23 (by decide) (by decide)]
    refine ⟨fun k hk => ?_, by omega⟩
    rw [h2 _ (by omega)]
    exact b1 k hk
  · obtain ⟨b1, b2⟩ := a9 z
    rw [h1 23 (by decide) (by decide)]
    refine ⟨fun k hk => ?_, by omega⟩
    obtain ⟨e1, e2⟩ := h3 ((σ.2 23 0 r).toNat + k) (by omega)
    rw [e1, e2]
    exact b1 k hk
theorem RecIs.of {σ τ ρ : RS} {r n q : Nat} {c : Nat → Nat} (h : SameT ρ τ) (h6 : ∀ i, τ.2 6 n i = ρ.2 6 n i) (hR : RecIs σ r τ n c q) : RecIs σ r ρ n c q := by
  unfold RecIs at hR ⊢
  simp only [h 1 _ (by decide), h 2 _ (by decide), h 3 _ (by decide), h 4 _ (by decide), h 5 _ (by decide), h6] at hR
  exact hR
def DInv (ρ : RS) (c : Int) (e : Nat) (cs : Nat → Nat → Nat) (qs : Nat → Nat) (k : Nat) (σ : RS) : Prop :=
  Rg σ ∧ EntOk σ ∧ (∀ i, i ≠ 27 → i ≠ 28 → i ≠ 29 → σ.1 i = ρ.1 i) ∧ (∀ j r i, (j < 17 ∨ 26 < j) → ¬ (j = 15 ∧ r = e) → σ.2 j r i = ρ.2 j r i) ∧
  (∀ i, i < k → σ.2 15 e i = if ρ.2 1 0 i = 0 then 0 else 1) ∧ (∀ i, k ≤ i → σ.2 15 e i = ρ.2 15 e i) ∧
  σ.1 27 = ρ.1 27 + cnt (chg ρ c) 0 k ∧ (ρ.1 28 ≤ σ.1 28 ∧ σ.1 28 ≤ 64 * (ρ.1 9 + sm (chg ρ c) (nb ρ) 0 k)) ∧ (ρ.1 29 ≤ σ.1 29 ∧ σ.1 29 ≤ 21 * (ρ.1 9 + sm (chg ρ c) (nb ρ) 0 k)) ∧
  (∀ j i : Nat, 17 ≤ j → j ≤ 23 → (i : Int) < ρ.1 27 → σ.2 j 0 i = ρ.2 j 0 i) ∧ (∀ i : Nat, (i : Int) < ρ.1 28 → σ.2 24 0 i = ρ.2 24 0 i) ∧ (∀ i : Nat, (i : Int) < ρ.1 29 → σ.2 25 0 i = ρ.2 25 0 i ∧ σ.2 26 0 i = ρ.2 26 0 i) ∧
  (∀ n, n < k → chg ρ c n → RecIs σ ((ρ.1 27).toNat + cnt (chg ρ c) 0 n) ρ n (cs n) (qs n))
theorem DInv.there {ρ : RS} {c : Int} {e : Nat} {cs : Nat → Nat → Nat} {qs : Nat → Nat} {k : Nat} {σ : RS} (hT : TreeOk ρ) (hk : k < 256) (hI : DInv ρ c e cs qs k σ) {v : Int} (hv : v = if ρ.2 1 0 k = 0 then 0 else 1) : (¬ chg ρ c k → DInv ρ c e cs qs (k + 1) (upA σ 15 e k v)) ∧ SameT ρ (upA σ 15 e k v) ∧ (∀ i, (upA σ 15 e k v).2 6 k i = ρ.2 6 k i) ∧ Rg (upA σ 15 e k v) := by
  obtain ⟨i1, i2, i3, i4, i5, i6, i7, i8, i9, i10, i11, i12, i13⟩ := hI
  have v1 : 0 ≤ v ∧ v ≤ 1 := by rw [hv]; split <;> omega
  have e1 : ∀ j r i, j ≠ 15 → (upA σ 15 e k v).2 j r i = σ.2 j r i := fun j r i hj => by
    show (if j = 15 ∧ r = e ∧ i = k then v else σ.2 j r i) = _
    rw [if_neg (fun z => hj z.1)]
  have g1 : Rg (upA σ 15 e k v) := i1.upA 15 e k (by omega) (by omega)
  refine ⟨fun hc => ⟨g1, fun i => ?_, i3, fun j r i h1 h2 => ?_, fun i hi => ?_, fun i hi => ?_, ?_, ?_, ?_, fun j i h1 h2 h3 => ?_, fun i hi => ?_, fun i hi => ?_, fun n hn hcn => ?_⟩, fun j i hj => ?_, fun i => ?_, g1⟩
  · rw [e1 _ _ _ (by decide), e1 _ _ _ (by decide)]; exact i2 i
  · show (if j = 15 ∧ r = e ∧ i = k then v else σ.2 j r i) = _
    rw [if_neg (fun z => h2 ⟨z.1, z.2.1⟩)]
    exact i4 j r i h1 h2
  · show (if 15 = 15 ∧ e = e ∧ i = k then v else σ.2 15 e i) = _
    by_cases q : i = k
    · rw [if_pos ⟨rfl, rfl, q⟩, hv, q]
    · rw [if_neg (fun z => q z.2.2)]
      exact i5 i (by omega)
  · show (if 15 = 15 ∧ e = e ∧ i = k then v else σ.2 15 e i) = _
    rw [if_neg (by omega)]
    exact i6 i (by omega)
  · rw [cnt_snoc, if_neg hc]; exact i7
  · rw [sm_snoc, if_neg hc, Int.add_zero]; exact i8
  · rw [sm_snoc, if_neg hc, Int.add_zero]; exact i9
  · rw [e1 _ _ _ (by omega)]; exact i10 j i h1 h2 h3
  · rw [e1 _ _ _ (by decide)]; exact i11 i hi
  · rw [e1 _ _ _ (by decide), e1 _ _ _ (by decide)]; exact i12 i hi
  · have hnk : n < k := by
      by_cases q : n = k
      · subst q; exact absurd hcn hc
      · omega
    refine (i13 n hnk hcn).keep (hT n (by omega)).2.2.2.2.2.1 (fun j h1 h2 => e1 _ _ _ (by omega)) (fun i _ => e1 _ _ _ (by decide)) (fun i _ => ⟨e1 _ _ _ (by decide), e1 _ _ _ (by decide)⟩) (Int.le_refl _) (Int.le_refl _)
  · rw [e1 _ _ _ (by omega)]; exact i4 j 0 i (by omega) (by omega)
  · rw [e1 _ _ _ (by decide)]; exact i4 6 k i (by omega) (by omega)
theorem DInv.rec {ρ : RS} {c : Int} {e : Nat} {cs : Nat → Nat → Nat} {qs : Nat → Nat} {k : Nat} {σ τ : RS} (hT : TreeOk ρ) (hk : k < 256) (r0 : 0 ≤ ρ.1 27) (hI : DInv ρ c e cs qs k σ) {v : Int} (hv : v = if ρ.2 1 0 k = 0 then 0 else 1) (hc : chg ρ c k) (hq : rEnt ρ k = qs k) (hP : RecPost (upA σ 15 e k v) τ k (cs k) (qs k)) : DInv ρ c e cs qs (k + 1) τ := by
  have hth := hI.there hT hk hv
  obtain ⟨-, hS, hS6, hg1⟩ := hth
  obtain ⟨i1, i2, i3, i4, i5, i6, i7, i8, i9, i10, i11, i12, i13⟩ := hI
  obtain ⟨p1, p2, p3, p4, p5, p6, p7, p8, p9, p10, p11⟩ := hP
  have hk2 := hT k hk
  have e1 : ∀ j r i, j ≠ 15 → (upA σ 15 e k v).2 j r i = σ.2 j r i := fun j r i hj => by
    show (if j = 15 ∧ r = e ∧ i = k then v else σ.2 j r i) = _
    rw [if_neg (fun z => hj z.1)]
  have eF : (upA σ 15 e k v).1 = σ.1 := rfl
  rw [hS 1 k (by decide), hS 4 k (by decide), eF] at p3
  rw [hS 1 k (by decide), eF] at p4
  rw [eF] at p2 p5 p7 p8 p9
  have hnb : nb ρ k = 1 + (if ρ.2 1 0 k = 1 then pts (ρ.2 4 0 k) 64 else pts (rEnt ρ k) 21) := rfl
  have hr : (σ.1 27).toNat = (ρ.1 27).toNat + cnt (chg ρ c) 0 k := by omega
  have h28 : σ.1 28 ≤ τ.1 28 := by rw [p3]; split <;> omega
  have h29 : σ.1 29 ≤ τ.1 29 := by rw [p4]; split <;> omega
  refine ⟨p1, p11 (fun i => ?_), fun i a b d => (p5 i a b d).trans (i3 i a b d), fun j r i h1 h2 => ?_, fun i hi => ?_, fun i hi => ?_, ?_, ⟨by omega, ?_⟩, ⟨by omega, ?_⟩, fun j i h1 h2 h3 => ?_, fun i hi => ?_, fun i hi => ?_, fun n hn hcn => ?_⟩
  · rw [e1 _ _ _ (by decide), e1 _ _ _ (by decide)]; exact i2 i
  · rw [p6 j r i h1]
    show (if j = 15 ∧ r = e ∧ i = k then v else σ.2 j r i) = _
    rw [if_neg (fun z => h2 ⟨z.1, z.2.1⟩)]
    exact i4 j r i h1 h2
  · rw [p6 15 e i (by decide)]
    show (if 15 = 15 ∧ e = e ∧ i = k then v else σ.2 15 e i) = _
    by_cases q : i = k
    · rw [if_pos ⟨rfl, rfl, q⟩, hv, q]
    · rw [if_neg (fun z => q z.2.2)]
      exact i5 i (by omega)
  · rw [p6 15 e i (by decide)]
    show (if 15 = 15 ∧ e = e ∧ i = k then v else σ.2 15 e i) = _
    rw [if_neg (by omega)]
    exact i6 i (by omega)
  · rw [cnt_snoc, if_pos hc, p2, i7]; omega
  · rw [sm_snoc, if_pos hc, hnb, p3]
    unfold pts
    split <;> omega
  · rw [sm_snoc, if_pos hc, hnb, p4, hq]
    unfold pts
    split <;> omega
  · rw [p7 j i h1 h2 (by omega), e1 _ _ _ (by omega)]; exact i10 j i h1 h2 h3
  · rw [p8 i (by omega), e1 _ _ _ (by decide)]; exact i11 i hi
  · obtain ⟨f1, f2⟩ := p9 i (by omega)
    rw [f1, f2, e1 _ _ _ (by decide), e1 _ _ _ (by decide)]; exact i12 i hi
  · by_cases q : n = k
    · subst q
      rw [eF, hr] at p10
      exact p10.of hS hS6
    · have hlt : cnt (chg ρ c) 0 n < cnt (chg ρ c) 0 k := by
        have h1 := cnt_add (chg ρ c) (n + 1) 0 (k - (n + 1))
        rw [show n + 1 + (k - (n + 1)) = k by omega, cnt_snoc, if_pos hcn] at h1
        omega
      refine (i13 n (by omega) hcn).keep (hT n (by omega)).2.2.2.2.2.1 (fun j h1 h2 => ?_) (fun i hi => ?_) (fun i hi => ?_) h28 h29
      · rw [p7 j _ h1 h2 (by omega), e1 _ _ _ (by omega)]
      · rw [p8 i hi, e1 _ _ _ (by decide)]
      · obtain ⟨f1, f2⟩ := p9 i hi
        rw [f1, f2, e1 _ _ _ (by decide), e1 _ _ _ (by decide)]
        exact ⟨rfl, rfl⟩
section Rr14
variable {b L : Nat} {xs : Nat → Int32} {m0 : Nat} {h : AH} {ρ : RS}
set_option maxRecDepth 50000 in
theorem r_dump_l3 (hb : b < m0) {Q : AH → RO → Prop} (hT : TreeOk ρ) (d : Nat) (hd : 3 ≤ d) {l c mn bl : Int} {e : Nat} {cs : Nat → Nat → Nat} {qs : Nat → Nat} (he : ρ.1 16 = (e : Int)) (he2 : e < 100) (c1 : -1 ≤ c) (c2 : c < e) (r0 : 0 ≤ ρ.1 27) (r1 : ρ.1 27 ≤ ρ.1 9) (o0 : 0 ≤ ρ.1 28) (n0 : 0 ≤ ρ.1 29) (hw : ρ.1 9 + sm (chg ρ c) (nb ρ) 0 256 ≤ 4000) (hq : ∀ n, n < 256 → ρ.2 1 0 n = 2 → Kids ρ n (cs n) (qs n) ∧ rEnt ρ n = qs n) (hq1 : ∀ n, n < 256 → ρ.2 1 0 n = 1 → rEnt ρ n = qs n) (kk : ∀ τ, DInv ρ c e cs qs 256 τ → Wp b L xs d mi_122 312 [some (.ref m0), some (vI l), some (vI c), some (vI mn), some (vI bl), some (vI 256)] [] (RH m0 h τ) Q) : ∀ (m k : Nat) (σ : RS), k + m = 256 → DInv ρ c e cs qs k σ → Wp b L xs d mi_122 255 [some (.ref m0), some (vI l), some (vI c), some (vI mn), some (vI bl), some (vI k)] [] (RH m0 h σ) Q := by
  intro m
  induction m with
  | zero =>
    intro k σ hk hI
    obtain rfl : k = 256 := hk
    refine w_iload rfl rfl ?_
    refine w_sipush rfl rfl ?_
    refine w_icge_t rfl (by first | omega | exact (hg.2 _ _ _).1 | exact (hg.1 _).1 | (simp only [Int.toNat_natCast, upF_2] at *; omega)) (by first | omega | exact (hg.2 _ _ _).2 | exact (hg.1 _).2 | (simp only [Int.toNat_natCast, upF_2] at *; omega)) (by first | omega | exact (hg.2 _ _ _).1 | exact (hg.1 _).1 | (simp only [Int.toNat_natCast, upF_2] at *; omega)) (by first | omega | exact (hg.2 _ _ _).2 | exact (hg.1 _).2 | (simp only [Int.toNat_natCast, upF_2] at *; omega)) (by first | omega | (simp only [Int.toNat_natCast, upF_2] at *; omega)) ?_
    exact kk σ hI
  | succ m ih =>
    intro k σ hk hI
    have hk2 := hT k (by omega)
    have hg := hI.1
    have he3 : σ.1 16 = (e : Int) := (hI.2.2.1 16 (by decide) (by decide) (by decide)).trans he
    have hkd : σ.2 1 0 k = ρ.2 1 0 k := hI.2.2.2.1 1 0 k (by decide) (by omega)
    have hnx : ∀ v : Int, v = (if ρ.2 1 0 k = 0 then 0 else 1) → Wp b L xs d mi_122 290 [some (.ref m0), some (vI l), some (vI c), some (vI mn), some (vI bl), some (vI k)] [] (RH m0 h (upA σ 15 e k v)) Q := by
      intro v hv
      have hth := hI.there hT (by omega) hv
      obtain ⟨hn1, hS, hS6, hg1⟩ := hth
      have h11 : (upA σ 15 e k v).2 11 0 c.toNat = ρ.2 11 0 c.toNat := hI.2.2.2.1 11 0 _ (by decide) (by omega)
      have hcc : chg (upA σ 15 e k v) c k ↔ chg ρ c k := by
        unfold chg
        rw [h11, hS 1 k (by decide), hS 5 k (by decide)]
      by_cases hc : chg ρ c k
      · have hs1 := sm_add (chg ρ c) (nb ρ) (k + 1) 0 (256 - (k + 1))
        rw [show k + 1 + (256 - (k + 1)) = 256 by omega, sm_snoc _ _ k, if_pos hc] at hs1
        have hs2 := sm_ok (p := chg ρ c) (f := nb ρ) (fun n hn => nb_ok hT hn) (256 - (k + 1)) (0 + (k + 1)) (by omega)
        have hs3 := cnt_sm (chg ρ c) (f := nb ρ) (fun n hn => nb_ok hT hn) k 0 (by omega)
        have hs4 := nb_ok hT (n := k) (by omega)
        have hi7 := hI.2.2.2.2.2.2.1
        have hi8 := hI.2.2.2.2.2.2.2.1
        have hi9 := hI.2.2.2.2.2.2.2.2.1
        have hnb : nb ρ k = 1 + (if ρ.2 1 0 k = 1 then pts (ρ.2 4 0 k) 64 else pts (rEnt ρ k) 21) := rfl
        have hF : ∀ i, (upA σ 15 e k v).1 i = σ.1 i := fun _ => rfl
        obtain ⟨om, hom⟩ := Int.eq_ofNat_of_zero_le (show 0 ≤ σ.1 28 by omega)
        obtain ⟨em, hem⟩ := Int.eq_ofNat_of_zero_le (show 0 ≤ σ.1 29 by omega)
        obtain ⟨sz, hsz⟩ := Int.eq_ofNat_of_zero_le (show 0 ≤ ρ.2 4 0 k by omega)
        by_cases q : ρ.2 1 0 k = 1
        · rw [if_pos q, hsz] at hnb
          unfold pts at hnb
          refine w_aload_n rfl rfl ?_
          refine w_iload rfl rfl ?_
          refine w_iload_n rfl rfl ?_
          refine w_cvV rfl (by decide) (by first | omega | (simp only [Int.toNat_natCast, upF_2] at *; omega)) rfl RH_obj mt_123 (Nat.le_of_ble_eq_true rfl) (Nat.le_of_ble_eq_true rfl) (r_chg1 hb hg1 _ (by omega) c1 (by omega) (hcc.mpr hc)) ?_
          refine w_ifeq_f rfl (by first | omega | exact (hg.2 _ _ _).1 | exact (hg.1 _).1 | (simp only [Int.toNat_natCast, upF_2] at *; omega)) (by first | omega | exact (hg.2 _ _ _).2 | exact (hg.1 _).2 | (simp only [Int.toNat_natCast, upF_2] at *; omega)) (by first | omega | (simp only [Int.toNat_natCast, upF_2] at *; omega)) ?_
          refine w_aload_n rfl rfl ?_
          refine w_iload rfl rfl ?_
          refine w_cv rfl (by decide) (by first | omega | (simp only [Int.toNat_natCast, upF_2] at *; omega)) rfl RH_obj mt_126 (Nat.le_of_ble_eq_true rfl) (Nat.le_of_ble_eq_true rfl) (r_rec_f hb hg1 _ (n := k) (om := om) (sz := sz) (c := cs k) (q := qs k) (by omega) (by rw [hS 1 k (by decide)]; exact q) (by rw [hS 4 k (by decide)]; exact hsz) (by omega) hom (by omega) (by rw [hF]; omega) (by rw [hF]; omega)) ?_
          rintro _ _ ⟨rfl, τ, rfl, hP⟩
          refine ⟨none, rfl, ?_⟩
          refine w_iinc rfl rfl (by decide) ?_
          refine w_goto rfl ?_
          exact ih (k + 1) τ (by omega) (hI.rec hT (by omega) r0 hv hc (hq1 k (by omega) q) hP)
        · have q2 : ρ.2 1 0 k = 2 := by
            have := hc.1
            omega
          obtain ⟨hK, hqe⟩ := hq k (by omega) q2
          have hq9 : rEnt ρ k ≤ 255 := cnt_le _ _ _
          rw [if_neg q, hqe] at hnb
          unfold pts at hnb
          refine w_aload_n rfl rfl ?_
          refine w_iload rfl rfl ?_
          refine w_iload_n rfl rfl ?_
          refine w_cvV rfl (by decide) (by first | omega | (simp only [Int.toNat_natCast, upF_2] at *; omega)) rfl RH_obj mt_123 (Nat.le_of_ble_eq_true rfl) (Nat.le_of_ble_eq_true rfl) (r_chg1 hb hg1 _ (by omega) c1 (by omega) (hcc.mpr hc)) ?_
          refine w_ifeq_f rfl (by first | omega | exact (hg.2 _ _ _).1 | exact (hg.1 _).1 | (simp only [Int.toNat_natCast, upF_2] at *; omega)) (by first | omega | exact (hg.2 _ _ _).2 | exact (hg.1 _).2 | (simp only [Int.toNat_natCast, upF_2] at *; omega)) (by first | omega | (simp only [Int.toNat_natCast, upF_2] at *; omega)) ?_
          refine w_aload_n rfl rfl ?_
          refine w_iload rfl rfl ?_
          refine w_cv rfl (by decide) (by first | omega | (simp only [Int.toNat_natCast, upF_2] at *; omega)) rfl RH_obj mt_126 (Nat.le_of_ble_eq_true rfl) (Nat.le_of_ble_eq_true rfl) (r_rec_d hb hg1 _ (by omega) (n := k) (em := em) (c := cs k) (q := qs k) (by omega) (by rw [hS 1 k (by decide)]; exact q) (hK.congr hS) (fun m hm => by rw [hS 3 m (by decide)]; exact (hT m hm).2.2.2.2.1) (by rw [rEnt_congr hS]; exact hqe) (by omega) hem (by omega) (by rw [hF]; omega) (by rw [hF]; omega)) ?_
          rintro _ _ ⟨rfl, τ, rfl, hP⟩
          refine ⟨none, rfl, ?_⟩
          refine w_iinc rfl rfl (by decide) ?_
          refine w_goto rfl ?_
          exact ih (k + 1) τ (by omega) (hI.rec hT (by omega) r0 hv hc hqe hP)
      · refine w_aload_n rfl rfl ?_
        refine w_iload rfl rfl ?_
        refine w_iload_n rfl rfl ?_
        refine w_cvV rfl (by decide) (by first | omega | (simp only [Int.toNat_natCast, upF_2] at *; omega)) rfl RH_obj mt_123 (Nat.le_of_ble_eq_true rfl) (Nat.le_of_ble_eq_true rfl) (r_chg0 hb hg1 _ (by omega) c1 (by omega) (fun z => hc (hcc.mp z))) ?_
        refine w_ifeq_t rfl (by first | omega | exact (hg.2 _ _ _).1 | exact (hg.1 _).1 | (simp only [Int.toNat_natCast, upF_2] at *; omega)) (by first | omega | exact (hg.2 _ _ _).2 | exact (hg.1 _).2 | (simp only [Int.toNat_natCast, upF_2] at *; omega)) (by first | omega | (simp only [Int.toNat_natCast, upF_2] at *; omega)) ?_
        refine w_iinc rfl rfl (by decide) ?_
        refine w_goto rfl ?_
        exact ih (k + 1) _ (by omega) (hn1 hc)
    refine w_iload rfl rfl ?_
    refine w_sipush rfl rfl ?_
    refine w_icge_f rfl (by first | omega | exact (hg.2 _ _ _).1 | exact (hg.1 _).1 | (simp only [Int.toNat_natCast, upF_2] at *; omega)) (by first | omega | exact (hg.2 _ _ _).2 | exact (hg.1 _).2 | (simp only [Int.toNat_natCast, upF_2] at *; omega)) (by first | omega | exact (hg.2 _ _ _).1 | exact (hg.1 _).1 | (simp only [Int.toNat_natCast, upF_2] at *; omega)) (by first | omega | exact (hg.2 _ _ _).2 | exact (hg.1 _).2 | (simp only [Int.toNat_natCast, upF_2] at *; omega)) (by first | omega | (simp only [Int.toNat_natCast, upF_2] at *; omega)) ?_
    refine w_aload_n rfl rfl ?_
    refine m_get rfl rfl ?_
    refine w_aload_n rfl rfl ?_
    refine m_get rfl rfl ?_
    rw [he3]
    refine m_aaload rfl rfl (by first | omega | (simp only [Int.toNat_natCast, upF_2] at *; omega)) (by first | omega | (simp only [Int.toNat_natCast, upF_2] at *; omega)) ?_
    refine w_iload rfl rfl ?_
    refine w_aload_n rfl rfl ?_
    refine m_get rfl rfl ?_
    refine w_iload rfl rfl ?_
    refine m_iaload rfl hb rl_1 (by first | omega | (simp only [Int.toNat_natCast, upF_2] at *; omega)) (by first | omega | (simp only [Int.toNat_natCast, upF_2] at *; omega)) ?_
    rw [Int.toNat_natCast, hkd]
    refine w_ifeq rfl (by first | omega | exact (hg.2 _ _ _).1 | exact (hg.1 _).1 | (simp only [Int.toNat_natCast, upF_2] at *; omega)) (by first | omega | exact (hg.2 _ _ _).2 | exact (hg.1 _).2 | (simp only [Int.toNat_natCast, upF_2] at *; omega)) (fun q0 => ?_) (fun q0 => ?_)
    · refine w_iconst rfl ?_
      refine m_zastore rfl (rlay_r15 (by first | omega | (simp only [Int.toNat_natCast, upF_2] at *; omega))) (by first | omega | (simp only [Int.toNat_natCast, upF_2] at *; omega)) (by first | omega | (simp only [Int.toNat_natCast, upF_2] at *; omega)) (by first | omega | (simp only [Int.toNat_natCast, upF_2] at *; omega)) ?_
      rw [Int.toNat_natCast, Int.toNat_natCast]
      exact hnx 0 (by rw [if_pos q0])
    · refine w_iconst rfl ?_
      refine w_goto rfl ?_
      refine m_zastore rfl (rlay_r15 (by first | omega | (simp only [Int.toNat_natCast, upF_2] at *; omega))) (by first | omega | (simp only [Int.toNat_natCast, upF_2] at *; omega)) (by first | omega | (simp only [Int.toNat_natCast, upF_2] at *; omega)) (by first | omega | (simp only [Int.toNat_natCast, upF_2] at *; omega)) ?_
      rw [Int.toNat_natCast, Int.toNat_natCast]
      exact hnx 1 (by rw [if_neg q0])
end Rr14
