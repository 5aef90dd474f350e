/-! the reference's back(r, at), one(d) -/
theorem cnt_pos {p : Nat → Prop} [DecidablePred p] : ∀ m : Nat, 0 < cnt p 0 m ↔ ∃ i, i < m ∧ p i
  | 0 => ⟨fun h => absurd h (Nat.lt_irrefl 0), fun ⟨i, h, _⟩ => absurd h (Nat.not_lt_zero i)⟩
  | m + 1 => by
    rw [cnt_snoc, ex_snoc, ← cnt_pos m]
    by_cases hp : p m
    · rw [if_pos hp]; exact ⟨fun _ => Or.inr hp, fun _ => by omega⟩
    · rw [if_neg hp, Nat.add_zero]; exact ⟨Or.inl, fun z => z.elim id (fun y => absurd y hp)⟩
theorem lost_eq {ρ : RS} {r : Nat} (ho : RecOk ρ r) (g : Nat → Bool) {q : Nat} (hq : ρ.2 21 0 r = (q : Int)) : (0 < cnt (fun i => g (i / each ρ r) = true) 0 q) ↔ (0 < cnt (fun i => g i = true) 0 (cont ρ r).toNat) := by
  rw [cnt_pos, cnt_pos]
  have he : (cont ρ r).toNat = (q + each ρ r - 1) / each ρ r ∧ 0 < each ρ r := by
    have h3 := ho.2.2.1
    unfold cont pts each
    rw [hq]
    rcases h3 with h3 | h3
    · rw [if_pos h3, if_pos h3]
      omega
    · rw [if_neg (by omega), if_neg (by omega)]
      omega
  obtain ⟨h1, h2⟩ := he
  have h4 : each ρ r = 64 ∨ each ρ r = 21 := by
    unfold each
    split <;> omega
  rw [h1]
  constructor
  · rintro ⟨i, hi, hg⟩
    refine ⟨i / each ρ r, ?_, hg⟩
    rcases h4 with h4 | h4
    · rw [h4]; omega
    · rw [h4]; omega
  · rintro ⟨i, hi, hg⟩
    refine ⟨i * each ρ r, ?_, by rw [Nat.mul_div_cancel _ h2]; exact hg⟩
    rcases h4 with h4 | h4
    · rw [h4] at hi ⊢; omega
    · rw [h4] at hi ⊢; omega
def bk2 (σ : RS) (n r : Nat) : RS := upA (upA (upA (upA (upA (upA (upA σ 38 0 n 0) 32 0 n (σ.2 18 0 r)) 34 0 n (σ.2 19 0 r)) 33 0 n (σ.2 20 0 r)) 35 0 n (σ.2 21 0 r)) 36 0 n (σ.2 22 0 r)) 37 0 n 0
theorem bk2_lo (σ : RS) (n r : Nat) {j r' i : Nat} (h : ¬ (r' = 0 ∧ i = n ∧ 32 ≤ j ∧ j ≤ 38)) : (bk2 σ n r).2 j r' i = σ.2 j r' i := by
  unfold bk2 upA
  dsimp only
  rw [if_neg (by omega), if_neg (by omega), if_neg (by omega), if_neg (by omega), if_neg (by omega), if_neg (by omega), if_neg (by omega)]
theorem bk2_at (σ : RS) (n r : Nat) : (bk2 σ n r).2 32 0 n = σ.2 18 0 r ∧ (bk2 σ n r).2 33 0 n = σ.2 20 0 r ∧ (bk2 σ n r).2 34 0 n = σ.2 19 0 r ∧ (bk2 σ n r).2 35 0 n = σ.2 21 0 r ∧ (bk2 σ n r).2 36 0 n = σ.2 22 0 r ∧ (bk2 σ n r).2 37 0 n = 0 ∧ (bk2 σ n r).2 38 0 n = 0 := by
  simp [bk2, upA]
theorem bk2_g {σ : RS} (hg : Rg σ) (n r : Nat) : Rg (bk2 σ n r) := by
  unfold bk2
  exact (((((((hg.upA 38 0 n (by decide) (by decide)).upA 32 0 n (hg.2 _ _ _).1 (hg.2 _ _ _).2).upA 34 0 n (hg.2 _ _ _).1 (hg.2 _ _ _).2).upA 33 0 n (hg.2 _ _ _).1 (hg.2 _ _ _).2).upA 35 0 n (hg.2 _ _ _).1 (hg.2 _ _ _).2).upA 36 0 n (hg.2 _ _ _).1 (hg.2 _ _ _).2).upA 37 0 n (by decide) (by decide))
theorem RecOk.keep {σ τ : RS} (h : ∀ j i, 17 ≤ j → j ≤ 23 → τ.2 j 0 i = σ.2 j 0 i) {r : Nat} (ho : RecOk σ r) : RecOk τ r := by
  unfold RecOk at ho ⊢
  rw [h 17 r (by decide) (by decide), h 18 r (by decide) (by decide), h 19 r (by decide) (by decide), h 20 r (by decide) (by decide), h 21 r (by decide) (by decide), h 22 r (by decide) (by decide), h 23 r (by decide) (by decide)]
  exact ho
theorem cont_keep {σ τ : RS} (h : ∀ j i, 17 ≤ j → j ≤ 23 → τ.2 j 0 i = σ.2 j 0 i) (r : Nat) : cont τ r = cont σ r := by
  unfold cont
  rw [h 18 r (by decide) (by decide), h 21 r (by decide) (by decide)]
theorem XInv_back {σ τ : RS} {Y : YS} {n r a q : Nat} (hX : XInv σ Y) (ho : RecOk σ r) (hn : σ.2 17 0 r = (n : Int)) (hq : σ.2 21 0 r = (q : Int)) (hs : σ.2 30 0 a = 0) (hI : BInv (bk2 σ n r) n r a q τ) : SameX σ τ ∧ τ.1 = σ.1 ∧ Rg τ ∧ XInv τ (yback σ r a Y) := by
  obtain ⟨g, i1, i2, i3, i4, i5⟩ := hI
  have e0 : ∀ j r' i, ¬ (r' = 0 ∧ i = n ∧ 32 ≤ j ∧ j ≤ 38) → ¬ (r' = n ∧ 39 ≤ j ∧ j ≤ 41) → τ.2 j r' i = σ.2 j r' i := fun j r' i h1 h2 => by
    rw [i2 j r' i (by omega) h2, bk2_lo σ n r h1]
  have hS : SameX σ τ := fun j r' i hj => e0 j r' i (by omega) (by omega)
  have hgo : ∀ i, gone (bk2 σ n r) a i = gone σ a i := fun i => by
    unfold gone
    rw [bk2_lo σ n r (by omega)]
  have hea : each (bk2 σ n r) r = each σ r := by
    unfold each
    rw [bk2_lo σ n r (by omega)]
  have b18 : (bk2 σ n r).2 18 0 r = σ.2 18 0 r := bk2_lo σ n r (by omega)
  have b23 : (bk2 σ n r).2 23 0 r = σ.2 23 0 r := bk2_lo σ n r (by omega)
  have b24 : ∀ i, (bk2 σ n r).2 24 0 i = σ.2 24 0 i := fun i => bk2_lo σ n r (by omega)
  have b25 : ∀ i, (bk2 σ n r).2 25 0 i = σ.2 25 0 i := fun i => bk2_lo σ n r (by omega)
  have b26 : ∀ i, (bk2 σ n r).2 26 0 i = σ.2 26 0 i := fun i => bk2_lo σ n r (by omega)
  obtain ⟨a1, a2, a3, a4, a5, a6, a7⟩ := bk2_at σ n r
  simp only [hgo, hea, b18, b23, b24, b25, b26] at i3 i4 i5
  refine ⟨hS, i1, g, fun m hm => ?_⟩
  by_cases hmn : m = n
  · subst hmn
    have hy : yback σ r a Y m = (some (r, a, gone σ a), decide (0 < cnt (fun i => gone σ a i = true) 0 (cont σ r).toNat)) := by
      unfold yback
      rw [if_pos hn.symm, if_neg (by rw [hs]; exact fun z => z rfl)]
    rw [hy]
    dsimp only
    constructor
    · rw [i3]
      by_cases hl : 0 < cnt (fun i => gone σ a (i / each σ r) = true) 0 q
      · rw [if_pos hl, if_pos (decide_eq_true ((lost_eq ho _ hq).mp hl))]
      · rw [if_neg hl, if_neg (fun z => hl ((lost_eq ho _ hq).mpr (of_decide_eq_true z)))]
    · have f : ∀ j, 17 ≤ j → j ≤ 26 → ∀ i, τ.2 j 0 i = σ.2 j 0 i := fun j h1 h2 i => e0 j 0 i (by omega) (by omega)
      unfold XIs
      rw [f 18 (by decide) (by decide), f 19 (by decide) (by decide), f 20 (by decide) (by decide), f 21 (by decide) (by decide), f 22 (by decide) (by decide), f 23 (by decide) (by decide), i2 32 0 m (by omega) (by omega), i2 33 0 m (by omega) (by omega), i2 34 0 m (by omega) (by omega), i2 35 0 m (by omega) (by omega), i2 36 0 m (by omega) (by omega)]
      refine ⟨a1, a2, a3, a4, a5, fun hf k hk => ?_, fun hf => ?_⟩
      · rw [f 24 (by decide) (by decide)]
        exact i4 hf k (by omega)
      · obtain ⟨z1, z2⟩ := i5 hf
        rw [hq, Int.toNat_natCast]
        refine ⟨z1, fun k hk hgk => ?_⟩
        rw [f 25 (by decide) (by decide), f 26 (by decide) (by decide)]
        exact z2 k (by omega) hgk
  · have hy : yback σ r a Y m = Y m := by
      unfold yback
      rw [if_neg (by omega)]
    rw [hy]
    obtain ⟨x1, x2⟩ := hX m hm
    refine ⟨by rw [e0 38 0 m (by omega) (by omega)]; exact x1, ?_⟩
    cases hY : (Y m).1 with
    | none =>
      rw [hY] at x2
      show τ.2 32 0 m = 0
      rw [e0 32 0 m (by omega) (by omega)]
      exact x2
    | some qq =>
      rw [hY] at x2
      exact x2.keep hS (fun j i h1 h2 h3 => e0 j 0 i (by omega) (by omega)) (fun j i h1 h2 => e0 j m i (by omega) (by omega))
section Rr17
variable {b L : Nat} {xs : Nat → Int32} {m0 : Nat} {h : AH} {ρ : RS}
variable {σ : RS} {Y : YS}
set_option maxRecDepth 50000 in
theorem r_back (hb : b < m0) (hg : Rg σ) (hE : EntOk σ) (d : Nat) {r a : Nat} (hr : r < 4000) (ho : RecOk σ r) (ha : a + 1 + cont σ r ≤ 4001) (hs : ∀ i, σ.2 30 0 i = 0 ∨ σ.2 30 0 i = 1) (hX : XInv σ Y) : Wp b L xs d mi_140 0 (ent (mL mi_140) [.ref m0, vI r, vI a]) [] (RH m0 h σ) (fun h' o => o = .inl none ∧ ∃ τ, h' = RH m0 h τ ∧ SameX σ τ ∧ τ.1 = σ.1 ∧ Rg τ ∧ XInv τ (yback σ r a Y)) := by
  have hc := cont_ok ho
  have ho2 := ho
  obtain ⟨o1, o2, o3, o4, o5, o6, o7, o8, o9, o10, o11, o12, o13, o14⟩ := ho2
  obtain ⟨n, hn⟩ := Int.eq_ofNat_of_zero_le o1
  obtain ⟨q, hq⟩ := Int.eq_ofNat_of_zero_le o8
  have hsa := hs a
  by_cases hs1 : σ.2 30 0 a = 1
  · refine w_aload_n rfl rfl ?_
    refine m_get rfl rfl ?_
    refine w_iload_n rfl rfl ?_
    refine m_iaload rfl hb rl_17 (by first | omega | (simp only [Int.toNat_natCast, upF_2] at *; omega)) (by first | omega | (simp only [Int.toNat_natCast, upF_2] at *; omega)) ?_
    rw [Int.toNat_natCast, hn]
    refine w_istore_n rfl (by decide) ?_
    refine w_aload_n rfl rfl ?_
    refine m_get rfl rfl ?_
    refine w_iload_n rfl rfl ?_
    refine w_aload_n rfl rfl ?_
    refine m_get rfl rfl ?_
    refine w_iload_n rfl rfl ?_
    refine m_zaload rfl rl_30 (by first | omega | (simp only [Int.toNat_natCast, upF_2] at *; omega)) (by first | omega | (simp only [Int.toNat_natCast, upF_2] at *; omega)) ?_
    first | rw [Int.toNat_natCast, hs1] | (simp only [Int.toNat_natCast]; rw [show (upA σ 38 0 n 1).2 30 0 a = 1 from hs1])
    refine m_zastore rfl rl_38 (by first | omega | (simp only [Int.toNat_natCast, upF_2] at *; omega)) (by first | omega | (simp only [Int.toNat_natCast, upF_2] at *; omega)) (by first | omega | (simp only [Int.toNat_natCast, upF_2] at *; omega)) ?_
    refine w_aload_n rfl rfl ?_
    refine m_get rfl rfl ?_
    refine w_iload_n rfl rfl ?_
    refine m_zaload rfl rl_30 (by first | omega | (simp only [Int.toNat_natCast, upF_2] at *; omega)) (by first | omega | (simp only [Int.toNat_natCast, upF_2] at *; omega)) ?_
    first | rw [Int.toNat_natCast, hs1] | (simp only [Int.toNat_natCast]; rw [show (upA σ 38 0 n 1).2 30 0 a = 1 from hs1])
    refine w_ifeq_f rfl (by first | omega | exact (hg.2 _ _ _).1 | exact (hg.1 _).1 | (simp only [Int.toNat_natCast, upF_2] at *; omega)) (by first | omega | exact (hg.2 _ _ _).2 | exact (hg.1 _).2 | (simp only [Int.toNat_natCast, upF_2] at *; omega)) (by first | omega | (simp only [Int.toNat_natCast, upF_2] at *; omega)) ?_
    refine w_return rfl rfl ?_
    refine ⟨rfl, upA σ 38 0 n 1, rfl, fun j r' i hj => ?_, rfl, hg.upA 38 0 n (by decide) (by decide), fun m hm => ?_⟩
    · show (if j = 38 ∧ r' = 0 ∧ i = n then _ else σ.2 j r' i) = _
      rw [if_neg (by omega)]
    · obtain ⟨x1, x2⟩ := hX m hm
      have e1 : ∀ j r' i, ¬ (j = 38 ∧ r' = 0 ∧ i = n) → (upA σ 38 0 n 1).2 j r' i = σ.2 j r' i := fun j r' i hj => by
        show (if j = 38 ∧ r' = 0 ∧ i = n then _ else σ.2 j r' i) = _
        rw [if_neg hj]
      by_cases hmn : m = n
      · subst hmn
        have hy : yback σ r a Y m = ((Y m).1, true) := by
          unfold yback
          rw [if_pos hn.symm, if_pos (by omega)]
        rw [hy]
        refine ⟨?_, ?_⟩
        · show (if 38 = 38 ∧ 0 = 0 ∧ m = m then (1 : Int) else _) = _
          rw [if_pos ⟨rfl, rfl, rfl⟩, if_pos rfl]
        · dsimp only
          cases hY : (Y m).1 with
          | none =>
            rw [hY] at x2
            exact (e1 32 0 m (by omega)).trans x2
          | some qq =>
            rw [hY] at x2
            exact x2.keep (fun j r' i hj => e1 j r' i (by omega)) (fun j i h1 h2 h3 => e1 j 0 i (by omega)) (fun j i h1 h2 => e1 j m i (by omega))
      · have hy : yback σ r a Y m = Y m := by
          unfold yback
          rw [if_neg (by omega)]
        rw [hy]
        refine ⟨(e1 38 0 m (by omega)).trans x1, ?_⟩
        cases hY : (Y m).1 with
        | none =>
          rw [hY] at x2
          exact (e1 32 0 m (by omega)).trans x2
        | some qq =>
          rw [hY] at x2
          exact x2.keep (fun j r' i hj => e1 j r' i (by omega)) (fun j i h1 h2 h3 => e1 j 0 i (by omega)) (fun j i h1 h2 => e1 j m i (by omega))
  have hs0 : σ.2 30 0 a = 0 := by omega
  have b18 : (bk2 σ n r).2 18 0 r = σ.2 18 0 r := bk2_lo σ n r (by omega)
  have hkp : ∀ j i, 17 ≤ j → j ≤ 23 → (bk2 σ n r).2 j 0 i = σ.2 j 0 i := fun j i h1 h2 => bk2_lo σ n r (by omega)
  have hI0 : BInv (bk2 σ n r) n r a 0 (bk2 σ n r) := ⟨bk2_g hg n r, rfl, fun _ _ _ _ _ => rfl, (bk2_at σ n r).2.2.2.2.2.2, fun _ i hi => absurd hi (Nat.not_lt_zero i), fun _ => ⟨(bk2_at σ n r).2.2.2.2.2.1, fun i hi => absurd hi (Nat.not_lt_zero i)⟩⟩
  refine w_aload_n rfl rfl ?_
  refine m_get rfl rfl ?_
  refine w_iload_n rfl rfl ?_
  refine m_iaload rfl hb rl_17 (by first | omega | (simp only [Int.toNat_natCast, upF_2] at *; omega)) (by first | omega | (simp only [Int.toNat_natCast, upF_2] at *; omega)) ?_
  rw [Int.toNat_natCast, hn]
  refine w_istore_n rfl (by decide) ?_
  refine w_aload_n rfl rfl ?_
  refine m_get rfl rfl ?_
  refine w_iload_n rfl rfl ?_
  refine w_aload_n rfl rfl ?_
  refine m_get rfl rfl ?_
  refine w_iload_n rfl rfl ?_
  refine m_zaload rfl rl_30 (by first | omega | (simp only [Int.toNat_natCast, upF_2] at *; omega)) (by first | omega | (simp only [Int.toNat_natCast, upF_2] at *; omega)) ?_
  first | rw [Int.toNat_natCast, hs0] | (simp only [Int.toNat_natCast]; rw [show (upA σ 38 0 n 0).2 30 0 a = 0 from hs0])
  refine m_zastore rfl rl_38 (by first | omega | (simp only [Int.toNat_natCast, upF_2] at *; omega)) (by first | omega | (simp only [Int.toNat_natCast, upF_2] at *; omega)) (by first | omega | (simp only [Int.toNat_natCast, upF_2] at *; omega)) ?_
  refine w_aload_n rfl rfl ?_
  refine m_get rfl rfl ?_
  refine w_iload_n rfl rfl ?_
  refine m_zaload rfl rl_30 (by first | omega | (simp only [Int.toNat_natCast, upF_2] at *; omega)) (by first | omega | (simp only [Int.toNat_natCast, upF_2] at *; omega)) ?_
  first | rw [Int.toNat_natCast, hs0] | (simp only [Int.toNat_natCast]; rw [show (upA σ 38 0 n 0).2 30 0 a = 0 from hs0])
  refine w_ifeq_t rfl (by first | omega | exact (hg.2 _ _ _).1 | exact (hg.1 _).1 | (simp only [Int.toNat_natCast, upF_2] at *; omega)) (by first | omega | exact (hg.2 _ _ _).2 | exact (hg.1 _).2 | (simp only [Int.toNat_natCast, upF_2] at *; omega)) (by first | omega | (simp only [Int.toNat_natCast, upF_2] at *; omega)) ?_
  refine w_aload_n rfl rfl ?_
  refine m_get rfl rfl ?_
  refine w_iload_n rfl rfl ?_
  refine w_aload_n rfl rfl ?_
  refine m_get rfl rfl ?_
  refine w_iload_n rfl rfl ?_
  refine m_iaload rfl hb rl_18 (by first | omega | (simp only [Int.toNat_natCast, upF_2] at *; omega)) (by first | omega | (simp only [Int.toNat_natCast, upF_2] at *; omega)) ?_
  refine m_iastore rfl rl_32 (by first | omega | (simp only [Int.toNat_natCast, upF_2] at *; omega)) (by first | omega | (simp only [Int.toNat_natCast, upF_2] at *; omega)) ?_
  refine w_aload_n rfl rfl ?_
  refine m_get rfl rfl ?_
  refine w_iload_n rfl rfl ?_
  refine w_aload_n rfl rfl ?_
  refine m_get rfl rfl ?_
  refine w_iload_n rfl rfl ?_
  refine m_iaload rfl hb rl_19 (by first | omega | (simp only [Int.toNat_natCast, upF_2] at *; omega)) (by first | omega | (simp only [Int.toNat_natCast, upF_2] at *; omega)) ?_
  refine m_iastore rfl rl_34 (by first | omega | (simp only [Int.toNat_natCast, upF_2] at *; omega)) (by first | omega | (simp only [Int.toNat_natCast, upF_2] at *; omega)) ?_
  refine w_aload_n rfl rfl ?_
  refine m_get rfl rfl ?_
  refine w_iload_n rfl rfl ?_
  refine w_aload_n rfl rfl ?_
  refine m_get rfl rfl ?_
  refine w_iload_n rfl rfl ?_
  refine m_iaload rfl hb rl_20 (by first | omega | (simp only [Int.toNat_natCast, upF_2] at *; omega)) (by first | omega | (simp only [Int.toNat_natCast, upF_2] at *; omega)) ?_
  refine m_iastore rfl rl_33 (by first | omega | (simp only [Int.toNat_natCast, upF_2] at *; omega)) (by first | omega | (simp only [Int.toNat_natCast, upF_2] at *; omega)) ?_
  refine w_aload_n rfl rfl ?_
  refine m_get rfl rfl ?_
  refine w_iload_n rfl rfl ?_
  refine w_aload_n rfl rfl ?_
  refine m_get rfl rfl ?_
  refine w_iload_n rfl rfl ?_
  refine m_iaload rfl hb rl_21 (by first | omega | (simp only [Int.toNat_natCast, upF_2] at *; omega)) (by first | omega | (simp only [Int.toNat_natCast, upF_2] at *; omega)) ?_
  refine m_iastore rfl rl_35 (by first | omega | (simp only [Int.toNat_natCast, upF_2] at *; omega)) (by first | omega | (simp only [Int.toNat_natCast, upF_2] at *; omega)) ?_
  refine w_aload_n rfl rfl ?_
  refine m_get rfl rfl ?_
  refine w_iload_n rfl rfl ?_
  refine w_aload_n rfl rfl ?_
  refine m_get rfl rfl ?_
  refine w_iload_n rfl rfl ?_
  refine m_iaload rfl hb rl_22 (by first | omega | (simp only [Int.toNat_natCast, upF_2] at *; omega)) (by first | omega | (simp only [Int.toNat_natCast, upF_2] at *; omega)) ?_
  refine m_iastore rfl rl_36 (by first | omega | (simp only [Int.toNat_natCast, upF_2] at *; omega)) (by first | omega | (simp only [Int.toNat_natCast, upF_2] at *; omega)) ?_
  refine w_aload_n rfl rfl ?_
  refine m_get rfl rfl ?_
  refine w_iload_n rfl rfl ?_
  refine w_iconst rfl ?_
  refine m_iastore rfl rl_37 (by first | omega | (simp only [Int.toNat_natCast, upF_2] at *; omega)) (by first | omega | (simp only [Int.toNat_natCast, upF_2] at *; omega)) ?_
  refine w_aload_n rfl rfl ?_
  refine m_get rfl rfl ?_
  refine w_iload_n rfl rfl ?_
  refine m_iaload rfl hb rl_18 (by first | omega | (simp only [Int.toNat_natCast, upF_2] at *; omega)) (by first | omega | (simp only [Int.toNat_natCast, upF_2] at *; omega)) ?_
  refine w_iconst rfl ?_
  refine w_icne rfl (by show _ ≤ σ.2 18 0 r; omega) (by show σ.2 18 0 r ≤ _; omega) (by decide) (by decide) (fun (hf : σ.2 18 0 r ≠ 1) => ?_) (fun (hf : ¬ (σ.2 18 0 r ≠ 1)) => ?_)
  · refine w_bipush rfl rfl ?_
    refine w_istore rfl (by decide) ?_
    refine w_iconst rfl ?_
    refine w_istore rfl (by decide) ?_
    have hlp := fun u => r_back_l (L := L) (xs := xs) (h := h) (σ := bk2 σ n r) hb d (Q := (fun h' o => o = .inl none ∧ ∃ τ, h' = RH m0 h τ ∧ SameX σ τ ∧ τ.1 = σ.1 ∧ Rg τ ∧ XInv τ (yback σ r a Y))) (n := n) (r := r) (a := a) (q := q) hr (by omega) (ho.keep hkp) (fun i => by rw [bk2_lo σ n r (by omega), bk2_lo σ n r (by omega)]; exact hE i) ((hkp 21 r (by decide) (by decide)).trans hq) (by rw [cont_keep hkp]; exact ha) (fun i => by rw [bk2_lo σ n r (by omega)]; exact hs i) (fun τ u hI => by
      refine w_return rfl rfl ?_
      have z := XInv_back hX ho hn hq hs0 hI
      exact ⟨rfl, τ, rfl, z.1, z.2.1, z.2.2.1, z.2.2.2⟩) q 0 (bk2 σ n r) u (Nat.zero_add _) hI0
    have hea : each (bk2 σ n r) r = 21 := by
      unfold each
      rw [b18, if_neg hf]
    rw [hea] at hlp
    exact hlp none
  · refine w_bipush rfl rfl ?_
    refine w_goto rfl ?_
    refine w_istore rfl (by decide) ?_
    refine w_iconst rfl ?_
    refine w_istore rfl (by decide) ?_
    have hlp := fun u => r_back_l (L := L) (xs := xs) (h := h) (σ := bk2 σ n r) hb d (Q := (fun h' o => o = .inl none ∧ ∃ τ, h' = RH m0 h τ ∧ SameX σ τ ∧ τ.1 = σ.1 ∧ Rg τ ∧ XInv τ (yback σ r a Y))) (n := n) (r := r) (a := a) (q := q) hr (by omega) (ho.keep hkp) (fun i => by rw [bk2_lo σ n r (by omega), bk2_lo σ n r (by omega)]; exact hE i) ((hkp 21 r (by decide) (by decide)).trans hq) (by rw [cont_keep hkp]; exact ha) (fun i => by rw [bk2_lo σ n r (by omega)]; exact hs i) (fun τ u hI => by
      refine w_return rfl rfl ?_
      have z := XInv_back hX ho hn hq hs0 hI
      exact ⟨rfl, τ, rfl, z.1, z.2.1, z.2.2.1, z.2.2.2⟩) q 0 (bk2 σ n r) u (Nat.zero_add _) hI0
    have hea : each (bk2 σ n r) r = 64 := by
      unfold each
      rw [b18, if_pos (Decidable.of_not_not hf)]
    rw [hea] at hlp
    exact hlp none
end Rr17
