/-! what is restored, by records: the reference's back(r, at) -/
/-- of each node: its record, where its facts lie, which blocks behind them are gone; whether something of it is lost -/
abbrev YS : Type := Nat → Option (Nat × Nat × (Nat → Bool)) × Bool
def each (ρ : RS) (r : Nat) : Nat := if ρ.2 18 0 r = 1 then 64 else 21
def gone (ρ : RS) (a i : Nat) : Bool := decide (ρ.2 30 0 (a + 1 + i) ≠ 0)
def yback (ρ : RS) (r a : Nat) (Y : YS) : YS := fun m => if (m : Int) = ρ.2 17 0 r then (if ρ.2 30 0 a ≠ 0 then ((Y m).1, true) else (some (r, a, gone ρ a), decide (0 < cnt (fun i => gone ρ a i = true) 0 (cont ρ r).toNat))) else Y m
theorem upA_ne {ρ : RS} {j r i j' r' i' : Nat} {x : Int} (h : ¬ (j' = j ∧ r' = r ∧ i' = i)) : (upA ρ j r i x).2 j' r' i' = ρ.2 j' r' i' := by
  show (if j' = j ∧ r' = r ∧ i' = i then x else ρ.2 j' r' i') = _
  rw [if_neg h]
theorem upA_eq {ρ : RS} {j r i : Nat} {x : Int} : (upA ρ j r i x).2 j r i = x := by
  show (if j = j ∧ r = r ∧ i = i then x else ρ.2 j r i) = _
  rw [if_pos ⟨rfl, rfl, rfl⟩]
/-- the reference's cells of a node hold that of a record which is there -/
def XIs (σ : RS) (n r : Nat) (g : Nat → Bool) : Prop :=
  σ.2 32 0 n = σ.2 18 0 r ∧ σ.2 33 0 n = σ.2 20 0 r ∧ σ.2 34 0 n = σ.2 19 0 r ∧ σ.2 35 0 n = σ.2 21 0 r ∧ σ.2 36 0 n = σ.2 22 0 r ∧
  (σ.2 18 0 r = 1 → ∀ k : Nat, (k : Int) < σ.2 21 0 r → σ.2 39 n k % 256 = if g (k / 64) = true then 0 else σ.2 24 0 ((σ.2 23 0 r).toNat + k) % 256) ∧
  (σ.2 18 0 r ≠ 1 → σ.2 37 0 n = cnt (fun k => g (k / 21) = false) 0 (σ.2 21 0 r).toNat ∧ ∀ k : Nat, (k : Int) < σ.2 21 0 r → g (k / 21) = false → σ.2 40 n (cnt (fun k => g (k / 21) = false) 0 k) = σ.2 25 0 ((σ.2 23 0 r).toNat + k) ∧ σ.2 41 n (cnt (fun k => g (k / 21) = false) 0 k) = σ.2 26 0 ((σ.2 23 0 r).toNat + k))
def XInv (σ : RS) (Y : YS) : Prop := ∀ n : Nat, n < 256 → σ.2 38 0 n = (if (Y n).2 = true then 1 else 0) ∧ (match (Y n).1 with
  | none => σ.2 32 0 n = 0
  | some q => XIs σ n q.1 q.2.2)
/-- all but what is restored -/
def SameX (σ τ : RS) : Prop := ∀ j r i, (j < 32 ∨ 41 < j) → τ.2 j r i = σ.2 j r i
theorem XIs.keep {σ τ : RS} (hS : SameX σ τ) {n r : Nat} {g : Nat → Bool} (h : ∀ j i, 32 ≤ j → j ≤ 37 → i = n → τ.2 j 0 i = σ.2 j 0 i) (h2 : ∀ j i, 39 ≤ j → j ≤ 41 → τ.2 j n i = σ.2 j n i) (hX : XIs σ n r g) : XIs τ n r g := by
  unfold XIs at hX ⊢
  rw [h 32 n (by decide) (by decide) rfl, h 33 n (by decide) (by decide) rfl, h 34 n (by decide) (by decide) rfl, h 35 n (by decide) (by decide) rfl, h 36 n (by decide) (by decide) rfl, h 37 n (by decide) (by decide) rfl]
  simp only [hS 18 0 _ (by decide), hS 19 0 _ (by decide), hS 20 0 _ (by decide), hS 21 0 _ (by decide), hS 22 0 _ (by decide), hS 23 0 _ (by decide), hS 24 0 _ (by decide), hS 25 0 _ (by decide), hS 26 0 _ (by decide), h2 39 _ (by decide) (by decide), h2 40 _ (by decide) (by decide), h2 41 _ (by decide) (by decide)]
  exact hX
/-- the loop's state behind k places -/
def BInv (σ : RS) (n r a : Nat) (k : Nat) (τ : RS) : Prop :=
  Rg τ ∧ τ.1 = σ.1 ∧ (∀ j r' i, ¬ (r' = 0 ∧ i = n ∧ (j = 37 ∨ j = 38)) → ¬ (r' = n ∧ 39 ≤ j ∧ j ≤ 41) → τ.2 j r' i = σ.2 j r' i) ∧
  τ.2 38 0 n = (if 0 < cnt (fun i => gone σ a (i / each σ r) = true) 0 k then 1 else 0) ∧
  (σ.2 18 0 r = 1 → ∀ i, i < k → τ.2 39 n i % 256 = if gone σ a (i / 64) = true then 0 else σ.2 24 0 ((σ.2 23 0 r).toNat + i) % 256) ∧
  (σ.2 18 0 r ≠ 1 → τ.2 37 0 n = cnt (fun i => gone σ a (i / 21) = false) 0 k ∧ ∀ i, i < k → gone σ a (i / 21) = false → τ.2 40 n (cnt (fun i => gone σ a (i / 21) = false) 0 i) = σ.2 25 0 ((σ.2 23 0 r).toNat + i) ∧ τ.2 41 n (cnt (fun i => gone σ a (i / 21) = false) 0 i) = σ.2 26 0 ((σ.2 23 0 r).toNat + i))
theorem ex_snoc (p : Nat → Prop) (k : Nat) : (∃ i, i < k + 1 ∧ p i) ↔ (∃ i, i < k ∧ p i) ∨ p k := by
  constructor
  · rintro ⟨i, hi, hp⟩
    by_cases e : i = k
    · subst e; exact Or.inr hp
    · exact Or.inl ⟨i, by omega, hp⟩
  · rintro (⟨i, hi, hp⟩ | hp)
    · exact ⟨i, by omega, hp⟩
    · exact ⟨k, by omega, hp⟩
section Rr16
variable {b L : Nat} {xs : Nat → Int32} {m0 : Nat} {h : AH} {ρ : RS}
variable {σ τ : RS}
set_option maxRecDepth 50000 in
theorem r_back_l (hb : b < m0) {Q : AH → RO → Prop} (d : Nat) {n r a q : Nat} (hr : r < 4000) (hn : n < 256) (ho : RecOk σ r) (hE : EntOk σ) (hq : σ.2 21 0 r = (q : Int)) (ha : a + 1 + cont σ r ≤ 4001) (hs : ∀ i, σ.2 30 0 i = 0 ∨ σ.2 30 0 i = 1) (kk : ∀ τ u, BInv σ n r a q τ → Wp b L xs d mi_140 272 [some (.ref m0), some (vI r), some (vI a), some (vI n), some (vI (each σ r)), some (vI q), u] [] (RH m0 h τ) Q) : ∀ (m k : Nat) (τ : RS) (u : Option Value), k + m = q → BInv σ n r a k τ → Wp b L xs d mi_140 118 [some (.ref m0), some (vI r), some (vI a), some (vI n), some (vI (each σ r)), some (vI k), u] [] (RH m0 h τ) Q := by
  have hc := cont_ok ho
  obtain ⟨o1, o2, o3, o4, o5, o6, o7, o8, o9, o10, o11, o12, o13, o14⟩ := ho
  have he : each σ r = 64 ∨ each σ r = 21 := by
    unfold each
    split <;> omega
  have hec : ∀ k : Nat, k < q → a + 1 + k / each σ r < 4001 := by
    intro k hk
    unfold cont pts at ha
    unfold each
    rcases o3 with o3 | o3
    · rw [if_pos o3] at ha ⊢
      omega
    · rw [if_neg (by omega)] at ha ⊢
      omega
  intro m
  induction m with
  | zero =>
    intro k τ u hk hI
    obtain rfl : k = q := hk
    have hg := hI.1
    have t21 : τ.2 21 0 r = (k : Int) := (hI.2.2.1 21 0 r (by omega) (by omega)).trans hq
    refine w_iload rfl rfl ?_
    refine w_aload_n rfl rfl ?_
    refine m_get rfl rfl ?_
    refine w_iload_n rfl rfl ?_
    refine m_iaload rfl hb rl_21 (by first | omega | (simp only [Int.toNat_natCast, upF_2] at *; omega)) (by first | omega | (simp only [Int.toNat_natCast, upF_2] at *; omega)) ?_
    rw [Int.toNat_natCast, t21]
    refine w_icge_t rfl (by first | omega | exact (hg.2 _ _ _).1 | exact (hg.1 _).1 | (simp only [Int.toNat_natCast, upF_2] at *; omega)) (by first | omega | exact (hg.2 _ _ _).2 | exact (hg.1 _).2 | (simp only [Int.toNat_natCast, upF_2] at *; omega)) (by first | omega | exact (hg.2 _ _ _).1 | exact (hg.1 _).1 | (simp only [Int.toNat_natCast, upF_2] at *; omega)) (by first | omega | exact (hg.2 _ _ _).2 | exact (hg.1 _).2 | (simp only [Int.toNat_natCast, upF_2] at *; omega)) (by first | omega | (simp only [Int.toNat_natCast, upF_2] at *; omega)) ?_
    exact kk τ u hI
  | succ m ih =>
    intro k τ u hk hI
    have hI0 := hI
    obtain ⟨hg, i1, i2, i3, i4, i5⟩ := hI
    have t21 : τ.2 21 0 r = (q : Int) := (i2 21 0 r (by omega) (by omega)).trans hq
    have t18 : τ.2 18 0 r = σ.2 18 0 r := i2 18 0 r (by omega) (by omega)
    have t23 : τ.2 23 0 r = σ.2 23 0 r := i2 23 0 r (by omega) (by omega)
    have hk4 := hec k (by omega)
    have t30 : τ.2 30 0 (a + 1 + k / each σ r) = σ.2 30 0 (a + 1 + k / each σ r) := i2 30 0 _ (by omega) (by omega)
    have hdv : (k : Int) / ((each σ r : Nat) : Int) = ((k / each σ r : Nat) : Int) := (Int.natCast_ediv k (each σ r)).symm
    have e1 : ((a : Int) + 1 + (k : Int) / ((each σ r : Nat) : Int)).toNat = a + 1 + k / each σ r := by
      rw [hdv]
      generalize k / each σ r = z
      omega
    have e2 : 0 ≤ ((a : Int) + 1 + (k : Int) / ((each σ r : Nat) : Int)) ∧ ((a : Int) + 1 + (k : Int) / ((each σ r : Nat) : Int)) < 4001 := by
      rw [hdv]
      revert hk4
      generalize k / each σ r = z
      omega
    have e3 : (σ.2 23 0 r + (k : Int)).toNat = (σ.2 23 0 r).toNat + k := by omega
    have hsk := hs (a + 1 + k / each σ r)
    have hgk : gone σ a (k / each σ r) = true ↔ σ.2 30 0 (a + 1 + k / each σ r) ≠ 0 := by
      unfold gone
      rw [decide_eq_true_eq]
    have stepF : ∀ τ' : RS, Rg τ' → τ'.1 = τ.1 → (∀ j r' i, ¬ (r' = 0 ∧ i = n ∧ (j = 37 ∨ j = 38)) → ¬ (r' = n ∧ 39 ≤ j ∧ j ≤ 41) → τ'.2 j r' i = τ.2 j r' i) → τ'.2 38 0 n = (if gone σ a (k / each σ r) = true then 1 else τ.2 38 0 n) → (σ.2 18 0 r = 1 → (∀ i, i < k → τ'.2 39 n i = τ.2 39 n i) ∧ τ'.2 39 n k % 256 = if gone σ a (k / 64) = true then 0 else σ.2 24 0 ((σ.2 23 0 r).toNat + k) % 256) → (σ.2 18 0 r ≠ 1 → if gone σ a (k / 21) = true then (τ'.2 37 0 n = τ.2 37 0 n ∧ ∀ i, τ'.2 40 n i = τ.2 40 n i ∧ τ'.2 41 n i = τ.2 41 n i) else (τ'.2 37 0 n = τ.2 37 0 n + 1 ∧ (∀ i : Nat, (i : Int) ≠ τ.2 37 0 n → τ'.2 40 n i = τ.2 40 n i ∧ τ'.2 41 n i = τ.2 41 n i) ∧ τ'.2 40 n (τ.2 37 0 n).toNat = σ.2 25 0 ((σ.2 23 0 r).toNat + k) ∧ τ'.2 41 n (τ.2 37 0 n).toNat = σ.2 26 0 ((σ.2 23 0 r).toNat + k))) → BInv σ n r a (k + 1) τ' := by
      intro τ' s1 s2 s3 s4 s5 s6
      refine ⟨s1, s2.trans i1, fun j r' i h1 h2 => (s3 j r' i h1 h2).trans (i2 j r' i h1 h2), ?_, fun hf i hi => ?_, fun hf => ?_⟩
      · rw [s4, i3]
        rw [cnt_snoc (fun i => gone σ a (i / each σ r) = true) k]
        by_cases hgo : gone σ a (k / each σ r) = true
        · rw [if_pos hgo, if_pos hgo, if_pos (by omega)]
        · rw [if_neg hgo, if_neg hgo, Nat.add_zero]
      · obtain ⟨z1, z2⟩ := s5 hf
        by_cases q1 : i = k
        · subst q1; exact z2
        · rw [z1 i (by omega)]
          exact i4 hf i (by omega)
      · obtain ⟨y1, y2⟩ := i5 hf
        have z := s6 hf
        rw [cnt_snoc (fun i => gone σ a (i / 21) = false) k]
        by_cases hgo : gone σ a (k / 21) = true
        · rw [if_pos hgo] at z
          rw [if_neg (by rw [hgo]; exact Bool.noConfusion), Nat.add_zero]
          refine ⟨z.1.trans y1, fun i hi hgi => ?_⟩
          have q1 : i ≠ k := fun e => by
            subst e
            rw [hgo] at hgi
            exact Bool.noConfusion hgi
          rw [(z.2 _).1, (z.2 _).2]
          exact y2 i (by omega) hgi
        · rw [if_neg hgo] at z
          have hgo2 : gone σ a (k / 21) = false := Bool.eq_false_iff.mpr hgo
          rw [if_pos hgo2]
          obtain ⟨z1, z2, z3, z4⟩ := z
          refine ⟨by rw [z1, y1]; omega, fun i hi hgi => ?_⟩
          by_cases q1 : i = k
          · subst q1
            rw [y1, Int.toNat_natCast] at z3 z4
            exact ⟨z3, z4⟩
          · have hlt : cnt (fun i => gone σ a (i / 21) = false) 0 i < cnt (fun i => gone σ a (i / 21) = false) 0 k := by
              have h1 := cnt_add (fun i => gone σ a (i / 21) = false) (i + 1) 0 (k - (i + 1))
              rw [show i + 1 + (k - (i + 1)) = k by omega, cnt_snoc _ i, if_pos hgi] at h1
              omega
            obtain ⟨z5, z6⟩ := z2 (cnt (fun i => gone σ a (i / 21) = false) 0 i) (by rw [y1]; omega)
            rw [z5, z6]
            exact y2 i (by omega) hgi
    by_cases hgo : σ.2 30 0 (a + 1 + k / each σ r) ≠ 0
    · have hg1 : gone σ a (k / each σ r) = true := hgk.mpr hgo
      have h1v : σ.2 30 0 (a + 1 + k / each σ r) = 1 := by omega
      by_cases hf : σ.2 18 0 r = 1
      · have e64 : each σ r = 64 := by unfold each; rw [if_pos hf]
        have t18' : (upA τ 38 0 n 1).2 18 0 r = 1 := t18.trans hf
        refine w_iload rfl rfl ?_
        refine w_aload_n rfl rfl ?_
        refine m_get rfl rfl ?_
        refine w_iload_n rfl rfl ?_
        refine m_iaload rfl hb rl_21 (by first | omega | exact e2.1 | exact e2.2 | (simp only [Int.toNat_natCast, upF_2] at *; omega)) (by first | omega | exact e2.1 | exact e2.2 | (simp only [Int.toNat_natCast, upF_2] at *; omega)) ?_
        rw [Int.toNat_natCast, t21]
        refine w_icge_f rfl (by first | omega | exact (hg.2 _ _ _).1 | exact (hg.1 _).1 | (simp only [Int.toNat_natCast, upF_2] at *; omega)) (by first | omega | exact (hg.2 _ _ _).2 | exact (hg.1 _).2 | (simp only [Int.toNat_natCast, upF_2] at *; omega)) (by first | omega | exact (hg.2 _ _ _).1 | exact (hg.1 _).1 | (simp only [Int.toNat_natCast, upF_2] at *; omega)) (by first | omega | exact (hg.2 _ _ _).2 | exact (hg.1 _).2 | (simp only [Int.toNat_natCast, upF_2] at *; omega)) (by first | omega | exact e2.1 | exact e2.2 | (simp only [Int.toNat_natCast, upF_2] at *; omega)) ?_
        refine w_aload_n rfl rfl ?_
        refine m_get rfl rfl ?_
        refine w_iload_n rfl rfl ?_
        refine w_iconst rfl ?_
        refine w_iadd rfl ?_
        refine w_iload rfl rfl ?_
        refine w_iload rfl rfl ?_
        refine w_idiv rfl (by first | omega | exact e2.1 | exact e2.2 | (simp only [Int.toNat_natCast, upF_2] at *; omega)) (by first | omega | exact e2.1 | exact e2.2 | (simp only [Int.toNat_natCast, upF_2] at *; omega)) (by first | omega | exact e2.1 | exact e2.2 | (simp only [Int.toNat_natCast, upF_2] at *; omega)) (by first | omega | exact e2.1 | exact e2.2 | (simp only [Int.toNat_natCast, upF_2] at *; omega)) ?_
        refine w_iadd rfl ?_
        refine m_zaload rfl rl_30 (by first | omega | exact e2.1 | exact e2.2 | (simp only [Int.toNat_natCast, upF_2] at *; omega)) (by first | omega | exact e2.1 | exact e2.2 | (simp only [Int.toNat_natCast, upF_2] at *; omega)) ?_
        rw [e1, t30]
        rw [h1v]
        refine w_istore rfl (by decide) ?_
        refine w_iload rfl rfl ?_
        refine w_ifeq_f rfl (by first | omega | exact (hg.2 _ _ _).1 | exact (hg.1 _).1 | (simp only [Int.toNat_natCast, upF_2] at *; omega)) (by first | omega | exact (hg.2 _ _ _).2 | exact (hg.1 _).2 | (simp only [Int.toNat_natCast, upF_2] at *; omega)) (by first | omega | exact e2.1 | exact e2.2 | (simp only [Int.toNat_natCast, upF_2] at *; omega)) ?_
        refine w_aload_n rfl rfl ?_
        refine m_get rfl rfl ?_
        refine w_iload_n rfl rfl ?_
        refine w_iconst rfl ?_
        refine m_zastore rfl rl_38 (by first | omega | exact e2.1 | exact e2.2 | (simp only [Int.toNat_natCast, upF_2] at *; omega)) (by first | omega | exact e2.1 | exact e2.2 | (simp only [Int.toNat_natCast, upF_2] at *; omega)) (by first | omega | exact e2.1 | exact e2.2 | (simp only [Int.toNat_natCast, upF_2] at *; omega)) ?_
        refine w_aload_n rfl rfl ?_
        refine m_get rfl rfl ?_
        refine w_iload_n rfl rfl ?_
        refine m_iaload rfl hb rl_18 (by first | omega | exact e2.1 | exact e2.2 | (simp only [Int.toNat_natCast, upF_2] at *; omega)) (by first | omega | exact e2.1 | exact e2.2 | (simp only [Int.toNat_natCast, upF_2] at *; omega)) ?_
        try simp only [Int.toNat_natCast]
        rw [t18']
        refine w_iconst rfl ?_
        refine w_icne_f rfl (by first | omega | exact (hg.2 _ _ _).1 | exact (hg.1 _).1 | (simp only [Int.toNat_natCast, upF_2] at *; omega)) (by first | omega | exact (hg.2 _ _ _).2 | exact (hg.1 _).2 | (simp only [Int.toNat_natCast, upF_2] at *; omega)) (by first | omega | exact (hg.2 _ _ _).1 | exact (hg.1 _).1 | (simp only [Int.toNat_natCast, upF_2] at *; omega)) (by first | omega | exact (hg.2 _ _ _).2 | exact (hg.1 _).2 | (simp only [Int.toNat_natCast, upF_2] at *; omega)) (by first | omega | exact e2.1 | exact e2.2 | (simp only [Int.toNat_natCast, upF_2] at *; omega)) ?_
        refine w_aload_n rfl rfl ?_
        refine m_get rfl rfl ?_
        refine w_iload_n rfl rfl ?_
        refine m_aaload rfl rfl (by first | omega | exact e2.1 | exact e2.2 | (simp only [Int.toNat_natCast, upF_2] at *; omega)) (by first | omega | exact e2.1 | exact e2.2 | (simp only [Int.toNat_natCast, upF_2] at *; omega)) ?_
        refine w_iload rfl rfl ?_
        refine w_iload rfl rfl ?_
        refine w_ifeq_f rfl (by first | omega | exact (hg.2 _ _ _).1 | exact (hg.1 _).1 | (simp only [Int.toNat_natCast, upF_2] at *; omega)) (by first | omega | exact (hg.2 _ _ _).2 | exact (hg.1 _).2 | (simp only [Int.toNat_natCast, upF_2] at *; omega)) (by first | omega | exact e2.1 | exact e2.2 | (simp only [Int.toNat_natCast, upF_2] at *; omega)) ?_
        refine w_iconst rfl ?_
        refine w_goto rfl ?_
        refine m_bastore rfl (rlay_r39 (by first | omega | exact e2.1 | exact e2.2 | (simp only [Int.toNat_natCast, upF_2] at *; omega))) (by first | omega | exact e2.1 | exact e2.2 | (simp only [Int.toNat_natCast, upF_2] at *; omega)) (by first | omega | exact e2.1 | exact e2.2 | (simp only [Int.toNat_natCast, upF_2] at *; omega)) ?_
        refine w_goto rfl ?_
        try simp only [Int.toNat_natCast]
        refine w_iinc rfl rfl (by decide) ?_
        refine w_goto rfl ?_
        refine ih (k + 1) _ _ (by omega) (stepF _ ((hg.upA 38 0 n (by decide) (by decide)).upA 39 n k (by decide) (by decide)) rfl (fun j r' i h1 h2 => ?_) ?_ (fun _ => ⟨fun i hi => ?_, ?_⟩) (fun z => absurd hf z))
        · rw [upA_ne (by omega), upA_ne (by omega)]
        · rw [if_pos hg1]
          rw [upA_ne (by omega), upA_eq]
        · rw [upA_ne (by omega), upA_ne (by omega)]
        · rw [upA_eq, if_pos (by rw [← e64]; exact hg1)]
          rfl
      · have e21 : each σ r = 21 := by unfold each; rw [if_neg hf]
        have t18' : (upA τ 38 0 n 1).2 18 0 r = σ.2 18 0 r := t18
        refine w_iload rfl rfl ?_
        refine w_aload_n rfl rfl ?_
        refine m_get rfl rfl ?_
        refine w_iload_n rfl rfl ?_
        refine m_iaload rfl hb rl_21 (by first | omega | exact e2.1 | exact e2.2 | (simp only [Int.toNat_natCast, upF_2] at *; omega)) (by first | omega | exact e2.1 | exact e2.2 | (simp only [Int.toNat_natCast, upF_2] at *; omega)) ?_
        rw [Int.toNat_natCast, t21]
        refine w_icge_f rfl (by first | omega | exact (hg.2 _ _ _).1 | exact (hg.1 _).1 | (simp only [Int.toNat_natCast, upF_2] at *; omega)) (by first | omega | exact (hg.2 _ _ _).2 | exact (hg.1 _).2 | (simp only [Int.toNat_natCast, upF_2] at *; omega)) (by first | omega | exact (hg.2 _ _ _).1 | exact (hg.1 _).1 | (simp only [Int.toNat_natCast, upF_2] at *; omega)) (by first | omega | exact (hg.2 _ _ _).2 | exact (hg.1 _).2 | (simp only [Int.toNat_natCast, upF_2] at *; omega)) (by first | omega | exact e2.1 | exact e2.2 | (simp only [Int.toNat_natCast, upF_2] at *; omega)) ?_
        refine w_aload_n rfl rfl ?_
        refine m_get rfl rfl ?_
        refine w_iload_n rfl rfl ?_
        refine w_iconst rfl ?_
        refine w_iadd rfl ?_
        refine w_iload rfl rfl ?_
        refine w_iload rfl rfl ?_
        refine w_idiv rfl (by first | omega | exact e2.1 | exact e2.2 | (simp only [Int.toNat_natCast, upF_2] at *; omega)) (by first | omega | exact e2.1 | exact e2.2 | (simp only [Int.toNat_natCast, upF_2] at *; omega)) (by first | omega | exact e2.1 | exact e2.2 | (simp only [Int.toNat_natCast, upF_2] at *; omega)) (by first | omega | exact e2.1 | exact e2.2 | (simp only [Int.toNat_natCast, upF_2] at *; omega)) ?_
        refine w_iadd rfl ?_
        refine m_zaload rfl rl_30 (by first | omega | exact e2.1 | exact e2.2 | (simp only [Int.toNat_natCast, upF_2] at *; omega)) (by first | omega | exact e2.1 | exact e2.2 | (simp only [Int.toNat_natCast, upF_2] at *; omega)) ?_
        rw [e1, t30]
        rw [h1v]
        refine w_istore rfl (by decide) ?_
        refine w_iload rfl rfl ?_
        refine w_ifeq_f rfl (by first | omega | exact (hg.2 _ _ _).1 | exact (hg.1 _).1 | (simp only [Int.toNat_natCast, upF_2] at *; omega)) (by first | omega | exact (hg.2 _ _ _).2 | exact (hg.1 _).2 | (simp only [Int.toNat_natCast, upF_2] at *; omega)) (by first | omega | exact e2.1 | exact e2.2 | (simp only [Int.toNat_natCast, upF_2] at *; omega)) ?_
        refine w_aload_n rfl rfl ?_
        refine m_get rfl rfl ?_
        refine w_iload_n rfl rfl ?_
        refine w_iconst rfl ?_
        refine m_zastore rfl rl_38 (by first | omega | exact e2.1 | exact e2.2 | (simp only [Int.toNat_natCast, upF_2] at *; omega)) (by first | omega | exact e2.1 | exact e2.2 | (simp only [Int.toNat_natCast, upF_2] at *; omega)) (by first | omega | exact e2.1 | exact e2.2 | (simp only [Int.toNat_natCast, upF_2] at *; omega)) ?_
        refine w_aload_n rfl rfl ?_
        refine m_get rfl rfl ?_
        refine w_iload_n rfl rfl ?_
        refine m_iaload rfl hb rl_18 (by first | omega | exact e2.1 | exact e2.2 | (simp only [Int.toNat_natCast, upF_2] at *; omega)) (by first | omega | exact e2.1 | exact e2.2 | (simp only [Int.toNat_natCast, upF_2] at *; omega)) ?_
        try simp only [Int.toNat_natCast]
        rw [t18']
        refine w_iconst rfl ?_
        refine w_icne_t rfl (by first | omega | exact (hg.2 _ _ _).1 | exact (hg.1 _).1 | (simp only [Int.toNat_natCast, upF_2] at *; omega)) (by first | omega | exact (hg.2 _ _ _).2 | exact (hg.1 _).2 | (simp only [Int.toNat_natCast, upF_2] at *; omega)) (by first | omega | exact (hg.2 _ _ _).1 | exact (hg.1 _).1 | (simp only [Int.toNat_natCast, upF_2] at *; omega)) (by first | omega | exact (hg.2 _ _ _).2 | exact (hg.1 _).2 | (simp only [Int.toNat_natCast, upF_2] at *; omega)) (by first | omega | exact e2.1 | exact e2.2 | (simp only [Int.toNat_natCast, upF_2] at *; omega)) ?_
        refine w_iload rfl rfl ?_
        refine w_ifne_t rfl (by first | omega | exact (hg.2 _ _ _).1 | exact (hg.1 _).1 | (simp only [Int.toNat_natCast, upF_2] at *; omega)) (by first | omega | exact (hg.2 _ _ _).2 | exact (hg.1 _).2 | (simp only [Int.toNat_natCast, upF_2] at *; omega)) (by first | omega | exact e2.1 | exact e2.2 | (simp only [Int.toNat_natCast, upF_2] at *; omega)) ?_
        try simp only [Int.toNat_natCast]
        refine w_iinc rfl rfl (by decide) ?_
        refine w_goto rfl ?_
        refine ih (k + 1) _ _ (by omega) (stepF _ (hg.upA 38 0 n (by decide) (by decide)) rfl (fun j r' i h1 h2 => ?_) ?_ (fun z => absurd z hf) (fun _ => ?_))
        · rw [upA_ne (by omega)]
        · rw [if_pos hg1]
          rw [upA_eq]
        · rw [e21] at hg1
          rw [if_pos hg1]
          refine ⟨?_, fun i => ⟨?_, ?_⟩⟩
          · rw [upA_ne (by omega)]
          · rw [upA_ne (by omega)]
          · rw [upA_ne (by omega)]
    · have hg0 : ¬ gone σ a (k / each σ r) = true := fun z => hgo (hgk.mp z)
      have h0v : σ.2 30 0 (a + 1 + k / each σ r) = 0 := by omega
      by_cases hf : σ.2 18 0 r = 1
      · have e64 : each σ r = 64 := by unfold each; rw [if_pos hf]
        have o15 := o13 hf
        have t24 : τ.2 24 0 ((σ.2 23 0 r).toNat + k) = σ.2 24 0 ((σ.2 23 0 r).toNat + k) := i2 24 0 _ (by omega) (by omega)
        refine w_iload rfl rfl ?_
        refine w_aload_n rfl rfl ?_
        refine m_get rfl rfl ?_
        refine w_iload_n rfl rfl ?_
        refine m_iaload rfl hb rl_21 (by first | omega | exact e2.1 | exact e2.2 | (simp only [Int.toNat_natCast, upF_2] at *; omega)) (by first | omega | exact e2.1 | exact e2.2 | (simp only [Int.toNat_natCast, upF_2] at *; omega)) ?_
        rw [Int.toNat_natCast, t21]
        refine w_icge_f rfl (by first | omega | exact (hg.2 _ _ _).1 | exact (hg.1 _).1 | (simp only [Int.toNat_natCast, upF_2] at *; omega)) (by first | omega | exact (hg.2 _ _ _).2 | exact (hg.1 _).2 | (simp only [Int.toNat_natCast, upF_2] at *; omega)) (by first | omega | exact (hg.2 _ _ _).1 | exact (hg.1 _).1 | (simp only [Int.toNat_natCast, upF_2] at *; omega)) (by first | omega | exact (hg.2 _ _ _).2 | exact (hg.1 _).2 | (simp only [Int.toNat_natCast, upF_2] at *; omega)) (by first | omega | exact e2.1 | exact e2.2 | (simp only [Int.toNat_natCast, upF_2] at *; omega)) ?_
        refine w_aload_n rfl rfl ?_
        refine m_get rfl rfl ?_
        refine w_iload_n rfl rfl ?_
        refine w_iconst rfl ?_
        refine w_iadd rfl ?_
        refine w_iload rfl rfl ?_
        refine w_iload rfl rfl ?_
        refine w_idiv rfl (by first | omega | exact e2.1 | exact e2.2 | (simp only [Int.toNat_natCast, upF_2] at *; omega)) (by first | omega | exact e2.1 | exact e2.2 | (simp only [Int.toNat_natCast, upF_2] at *; omega)) (by first | omega | exact e2.1 | exact e2.2 | (simp only [Int.toNat_natCast, upF_2] at *; omega)) (by first | omega | exact e2.1 | exact e2.2 | (simp only [Int.toNat_natCast, upF_2] at *; omega)) ?_
        refine w_iadd rfl ?_
        refine m_zaload rfl rl_30 (by first | omega | exact e2.1 | exact e2.2 | (simp only [Int.toNat_natCast, upF_2] at *; omega)) (by first | omega | exact e2.1 | exact e2.2 | (simp only [Int.toNat_natCast, upF_2] at *; omega)) ?_
        rw [e1, t30]
        rw [h0v]
        refine w_istore rfl (by decide) ?_
        refine w_iload rfl rfl ?_
        refine w_ifeq_t rfl (by first | omega | exact (hg.2 _ _ _).1 | exact (hg.1 _).1 | (simp only [Int.toNat_natCast, upF_2] at *; omega)) (by first | omega | exact (hg.2 _ _ _).2 | exact (hg.1 _).2 | (simp only [Int.toNat_natCast, upF_2] at *; omega)) (by first | omega | exact e2.1 | exact e2.2 | (simp only [Int.toNat_natCast, upF_2] at *; omega)) ?_
        refine w_aload_n rfl rfl ?_
        refine m_get rfl rfl ?_
        refine w_iload_n rfl rfl ?_
        refine m_iaload rfl hb rl_18 (by first | omega | exact e2.1 | exact e2.2 | (simp only [Int.toNat_natCast, upF_2] at *; omega)) (by first | omega | exact e2.1 | exact e2.2 | (simp only [Int.toNat_natCast, upF_2] at *; omega)) ?_
        try simp only [Int.toNat_natCast]
        rw [t18]
        refine w_iconst rfl ?_
        refine w_icne_f rfl (by first | omega | exact (hg.2 _ _ _).1 | exact (hg.1 _).1 | (simp only [Int.toNat_natCast, upF_2] at *; omega)) (by first | omega | exact (hg.2 _ _ _).2 | exact (hg.1 _).2 | (simp only [Int.toNat_natCast, upF_2] at *; omega)) (by first | omega | exact (hg.2 _ _ _).1 | exact (hg.1 _).1 | (simp only [Int.toNat_natCast, upF_2] at *; omega)) (by first | omega | exact (hg.2 _ _ _).2 | exact (hg.1 _).2 | (simp only [Int.toNat_natCast, upF_2] at *; omega)) (by first | omega | exact e2.1 | exact e2.2 | (simp only [Int.toNat_natCast, upF_2] at *; omega)) ?_
        refine w_aload_n rfl rfl ?_
        refine m_get rfl rfl ?_
        refine w_iload_n rfl rfl ?_
        refine m_aaload rfl rfl (by first | omega | exact e2.1 | exact e2.2 | (simp only [Int.toNat_natCast, upF_2] at *; omega)) (by first | omega | exact e2.1 | exact e2.2 | (simp only [Int.toNat_natCast, upF_2] at *; omega)) ?_
        refine w_iload rfl rfl ?_
        refine w_iload rfl rfl ?_
        refine w_ifeq_t rfl (by first | omega | exact (hg.2 _ _ _).1 | exact (hg.1 _).1 | (simp only [Int.toNat_natCast, upF_2] at *; omega)) (by first | omega | exact (hg.2 _ _ _).2 | exact (hg.1 _).2 | (simp only [Int.toNat_natCast, upF_2] at *; omega)) (by first | omega | exact e2.1 | exact e2.2 | (simp only [Int.toNat_natCast, upF_2] at *; omega)) ?_
        refine w_aload_n rfl rfl ?_
        refine m_get rfl rfl ?_
        refine w_aload_n rfl rfl ?_
        refine m_get rfl rfl ?_
        refine w_iload_n rfl rfl ?_
        refine m_iaload rfl hb rl_23 (by first | omega | exact e2.1 | exact e2.2 | (simp only [Int.toNat_natCast, upF_2] at *; omega)) (by first | omega | exact e2.1 | exact e2.2 | (simp only [Int.toNat_natCast, upF_2] at *; omega)) ?_
        rw [Int.toNat_natCast, t23]
        refine w_iload rfl rfl ?_
        refine w_iadd rfl ?_
        refine m_baload rfl rl_24 (by first | omega | exact e2.1 | exact e2.2 | (simp only [Int.toNat_natCast, upF_2] at *; omega)) (by first | omega | exact e2.1 | exact e2.2 | (simp only [Int.toNat_natCast, upF_2] at *; omega)) ?_
        rw [e3, t24]
        refine m_bastore rfl (rlay_r39 (by first | omega | exact e2.1 | exact e2.2 | (simp only [Int.toNat_natCast, upF_2] at *; omega))) (by first | omega | exact e2.1 | exact e2.2 | (simp only [Int.toNat_natCast, upF_2] at *; omega)) (by first | omega | exact e2.1 | exact e2.2 | (simp only [Int.toNat_natCast, upF_2] at *; omega)) ?_
        refine w_goto rfl ?_
        try simp only [Int.toNat_natCast]
        refine w_iinc rfl rfl (by decide) ?_
        refine w_goto rfl ?_
        refine ih (k + 1) _ _ (by omega) (stepF _ (hg.upA 39 n k (Int.le_trans (by decide) (Int.emod_nonneg _ (by decide))) (Int.le_trans (Int.le_of_lt (Int.emod_lt_of_pos _ (by decide))) (by decide))) rfl (fun j r' i h1 h2 => ?_) ?_ (fun _ => ⟨fun i hi => ?_, ?_⟩) (fun z => absurd hf z))
        · rw [upA_ne (by omega)]
        · rw [if_neg hg0]
          rw [upA_ne (by omega)]
        · rw [upA_ne (by omega)]
        · rw [upA_eq, if_neg (by rw [← e64]; exact hg0), sb_mod]
          omega
      · have e21 : each σ r = 21 := by unfold each; rw [if_neg hf]
        have o15 := o14 (by omega)
        obtain ⟨y1, y2⟩ := i5 hf
        have y3 := cnt_le (fun i => gone σ a (i / 21) = false) 0 k
        obtain ⟨xe, hxe⟩ : ∃ xe : Nat, τ.2 37 0 n = (xe : Int) := ⟨_, y1⟩
        have hxe2 : xe < 256 := by omega
        have en := hE ((σ.2 23 0 r).toNat + k)
        have t25 : τ.2 25 0 ((σ.2 23 0 r).toNat + k) = σ.2 25 0 ((σ.2 23 0 r).toNat + k) := i2 25 0 _ (by omega) (by omega)
        have t26 : τ.2 26 0 ((σ.2 23 0 r).toNat + k) = σ.2 26 0 ((σ.2 23 0 r).toNat + k) := i2 26 0 _ (by omega) (by omega)
        refine w_iload rfl rfl ?_
        refine w_aload_n rfl rfl ?_
        refine m_get rfl rfl ?_
        refine w_iload_n rfl rfl ?_
        refine m_iaload rfl hb rl_21 (by first | omega | exact e2.1 | exact e2.2 | (simp only [Int.toNat_natCast, upF_2] at *; omega)) (by first | omega | exact e2.1 | exact e2.2 | (simp only [Int.toNat_natCast, upF_2] at *; omega)) ?_
        rw [Int.toNat_natCast, t21]
        refine w_icge_f rfl (by first | omega | exact (hg.2 _ _ _).1 | exact (hg.1 _).1 | (simp only [Int.toNat_natCast, upF_2] at *; omega)) (by first | omega | exact (hg.2 _ _ _).2 | exact (hg.1 _).2 | (simp only [Int.toNat_natCast, upF_2] at *; omega)) (by first | omega | exact (hg.2 _ _ _).1 | exact (hg.1 _).1 | (simp only [Int.toNat_natCast, upF_2] at *; omega)) (by first | omega | exact (hg.2 _ _ _).2 | exact (hg.1 _).2 | (simp only [Int.toNat_natCast, upF_2] at *; omega)) (by first | omega | exact e2.1 | exact e2.2 | (simp only [Int.toNat_natCast, upF_2] at *; omega)) ?_
        refine w_aload_n rfl rfl ?_
        refine m_get rfl rfl ?_
        refine w_iload_n rfl rfl ?_
        refine w_iconst rfl ?_
        refine w_iadd rfl ?_
        refine w_iload rfl rfl ?_
        refine w_iload rfl rfl ?_
        refine w_idiv rfl (by first | omega | exact e2.1 | exact e2.2 | (simp only [Int.toNat_natCast, upF_2] at *; omega)) (by first | omega | exact e2.1 | exact e2.2 | (simp only [Int.toNat_natCast, upF_2] at *; omega)) (by first | omega | exact e2.1 | exact e2.2 | (simp only [Int.toNat_natCast, upF_2] at *; omega)) (by first | omega | exact e2.1 | exact e2.2 | (simp only [Int.toNat_natCast, upF_2] at *; omega)) ?_
        refine w_iadd rfl ?_
        refine m_zaload rfl rl_30 (by first | omega | exact e2.1 | exact e2.2 | (simp only [Int.toNat_natCast, upF_2] at *; omega)) (by first | omega | exact e2.1 | exact e2.2 | (simp only [Int.toNat_natCast, upF_2] at *; omega)) ?_
        rw [e1, t30]
        rw [h0v]
        refine w_istore rfl (by decide) ?_
        refine w_iload rfl rfl ?_
        refine w_ifeq_t rfl (by first | omega | exact (hg.2 _ _ _).1 | exact (hg.1 _).1 | (simp only [Int.toNat_natCast, upF_2] at *; omega)) (by first | omega | exact (hg.2 _ _ _).2 | exact (hg.1 _).2 | (simp only [Int.toNat_natCast, upF_2] at *; omega)) (by first | omega | exact e2.1 | exact e2.2 | (simp only [Int.toNat_natCast, upF_2] at *; omega)) ?_
        refine w_aload_n rfl rfl ?_
        refine m_get rfl rfl ?_
        refine w_iload_n rfl rfl ?_
        refine m_iaload rfl hb rl_18 (by first | omega | exact e2.1 | exact e2.2 | (simp only [Int.toNat_natCast, upF_2] at *; omega)) (by first | omega | exact e2.1 | exact e2.2 | (simp only [Int.toNat_natCast, upF_2] at *; omega)) ?_
        try simp only [Int.toNat_natCast]
        rw [t18]
        refine w_iconst rfl ?_
        refine w_icne_t rfl (by first | omega | exact (hg.2 _ _ _).1 | exact (hg.1 _).1 | (simp only [Int.toNat_natCast, upF_2] at *; omega)) (by first | omega | exact (hg.2 _ _ _).2 | exact (hg.1 _).2 | (simp only [Int.toNat_natCast, upF_2] at *; omega)) (by first | omega | exact (hg.2 _ _ _).1 | exact (hg.1 _).1 | (simp only [Int.toNat_natCast, upF_2] at *; omega)) (by first | omega | exact (hg.2 _ _ _).2 | exact (hg.1 _).2 | (simp only [Int.toNat_natCast, upF_2] at *; omega)) (by first | omega | exact e2.1 | exact e2.2 | (simp only [Int.toNat_natCast, upF_2] at *; omega)) ?_
        refine w_iload rfl rfl ?_
        refine w_ifne_f rfl (by first | omega | exact (hg.2 _ _ _).1 | exact (hg.1 _).1 | (simp only [Int.toNat_natCast, upF_2] at *; omega)) (by first | omega | exact (hg.2 _ _ _).2 | exact (hg.1 _).2 | (simp only [Int.toNat_natCast, upF_2] at *; omega)) (by first | omega | exact e2.1 | exact e2.2 | (simp only [Int.toNat_natCast, upF_2] at *; omega)) ?_
        refine w_aload_n rfl rfl ?_
        refine m_get rfl rfl ?_
        refine w_iload_n rfl rfl ?_
        refine m_aaload rfl rfl (by first | omega | exact e2.1 | exact e2.2 | (simp only [Int.toNat_natCast, upF_2] at *; omega)) (by first | omega | exact e2.1 | exact e2.2 | (simp only [Int.toNat_natCast, upF_2] at *; omega)) ?_
        refine w_aload_n rfl rfl ?_
        refine m_get rfl rfl ?_
        refine w_iload_n rfl rfl ?_
        refine m_iaload rfl hb rl_37 (by first | omega | exact e2.1 | exact e2.2 | (simp only [Int.toNat_natCast, upF_2] at *; omega)) (by first | omega | exact e2.1 | exact e2.2 | (simp only [Int.toNat_natCast, upF_2] at *; omega)) ?_
        first | rw [Int.toNat_natCast, hxe] | (simp only [Int.toNat_natCast]; rw [show (upA τ 40 n xe (σ.2 25 0 ((σ.2 23 0 r).toNat + k))).2 37 0 n = (xe : Int) from hxe])
        refine w_aload_n rfl rfl ?_
        refine m_get rfl rfl ?_
        refine w_aload_n rfl rfl ?_
        refine m_get rfl rfl ?_
        refine w_iload_n rfl rfl ?_
        refine m_iaload rfl hb rl_23 (by first | omega | exact e2.1 | exact e2.2 | (simp only [Int.toNat_natCast, upF_2] at *; omega)) (by first | omega | exact e2.1 | exact e2.2 | (simp only [Int.toNat_natCast, upF_2] at *; omega)) ?_
        first | rw [Int.toNat_natCast, t23] | (simp only [Int.toNat_natCast]; rw [show (upA (upA τ 40 n xe (σ.2 25 0 ((σ.2 23 0 r).toNat + k))) 37 0 n ((xe : Int) + 1)).2 23 0 r = σ.2 23 0 r from t23])
        refine w_iload rfl rfl ?_
        refine w_iadd rfl ?_
        refine m_iaload rfl hb rl_25 (by first | omega | exact e2.1 | exact e2.2 | (simp only [Int.toNat_natCast, upF_2] at *; omega)) (by first | omega | exact e2.1 | exact e2.2 | (simp only [Int.toNat_natCast, upF_2] at *; omega)) ?_
        rw [e3, t25]
        refine m_iastore rfl (rlay_r40 (by first | omega | exact e2.1 | exact e2.2 | (simp only [Int.toNat_natCast, upF_2] at *; omega))) (by first | omega | exact e2.1 | exact e2.2 | (simp only [Int.toNat_natCast, upF_2] at *; omega)) (by first | omega | exact e2.1 | exact e2.2 | (simp only [Int.toNat_natCast, upF_2] at *; omega)) ?_
        refine w_aload_n rfl rfl ?_
        refine m_get rfl rfl ?_
        refine w_iload_n rfl rfl ?_
        refine m_aaload rfl rfl (by first | omega | exact e2.1 | exact e2.2 | (simp only [Int.toNat_natCast, upF_2] at *; omega)) (by first | omega | exact e2.1 | exact e2.2 | (simp only [Int.toNat_natCast, upF_2] at *; omega)) ?_
        refine w_aload_n rfl rfl ?_
        refine m_get rfl rfl ?_
        refine w_iload_n rfl rfl ?_
        refine w_dup2 rfl ?_
        refine m_iaload rfl hb rl_37 (by first | omega | exact e2.1 | exact e2.2 | (simp only [Int.toNat_natCast, upF_2] at *; omega)) (by first | omega | exact e2.1 | exact e2.2 | (simp only [Int.toNat_natCast, upF_2] at *; omega)) ?_
        first | rw [Int.toNat_natCast, hxe] | (simp only [Int.toNat_natCast]; rw [show (upA τ 40 n xe (σ.2 25 0 ((σ.2 23 0 r).toNat + k))).2 37 0 n = (xe : Int) from hxe])
        refine w_dup_x2 rfl ?_
        refine w_iconst rfl ?_
        refine w_iadd rfl ?_
        refine m_iastore rfl rl_37 (by first | omega | exact e2.1 | exact e2.2 | (simp only [Int.toNat_natCast, upF_2] at *; omega)) (by first | omega | exact e2.1 | exact e2.2 | (simp only [Int.toNat_natCast, upF_2] at *; omega)) ?_
        refine w_aload_n rfl rfl ?_
        refine m_get rfl rfl ?_
        refine w_aload_n rfl rfl ?_
        refine m_get rfl rfl ?_
        refine w_iload_n rfl rfl ?_
        refine m_iaload rfl hb rl_23 (by first | omega | exact e2.1 | exact e2.2 | (simp only [Int.toNat_natCast, upF_2] at *; omega)) (by first | omega | exact e2.1 | exact e2.2 | (simp only [Int.toNat_natCast, upF_2] at *; omega)) ?_
        first | rw [Int.toNat_natCast, t23] | (simp only [Int.toNat_natCast]; rw [show (upA (upA τ 40 n xe (σ.2 25 0 ((σ.2 23 0 r).toNat + k))) 37 0 n ((xe : Int) + 1)).2 23 0 r = σ.2 23 0 r from t23])
        refine w_iload rfl rfl ?_
        refine w_iadd rfl ?_
        refine m_iaload rfl hb rl_26 (by first | omega | exact e2.1 | exact e2.2 | (simp only [Int.toNat_natCast, upF_2] at *; omega)) (by first | omega | exact e2.1 | exact e2.2 | (simp only [Int.toNat_natCast, upF_2] at *; omega)) ?_
        rw [e3, show (upA (upA τ 40 n xe (σ.2 25 0 ((σ.2 23 0 r).toNat + k))) 37 0 n ((xe : Int) + 1)).2 26 0 ((σ.2 23 0 r).toNat + k) = σ.2 26 0 ((σ.2 23 0 r).toNat + k) from t26]
        refine m_iastore rfl (rlay_r41 (by first | omega | exact e2.1 | exact e2.2 | (simp only [Int.toNat_natCast, upF_2] at *; omega))) (by first | omega | exact e2.1 | exact e2.2 | (simp only [Int.toNat_natCast, upF_2] at *; omega)) (by first | omega | exact e2.1 | exact e2.2 | (simp only [Int.toNat_natCast, upF_2] at *; omega)) ?_
        try simp only [Int.toNat_natCast]
        refine w_iinc rfl rfl (by decide) ?_
        refine w_goto rfl ?_
        refine ih (k + 1) _ _ (by omega) (stepF _ (((hg.upA 40 n xe (by omega) (by omega)).upA 37 0 n (by omega) (by omega)).upA 41 n xe (by omega) (by omega)) rfl (fun j r' i h1 h2 => ?_) ?_ (fun z => absurd z hf) (fun _ => ?_))
        · rw [upA_ne (by omega), upA_ne (by omega), upA_ne (by omega)]
        · rw [if_neg hg0]
          rw [upA_ne (by omega), upA_ne (by omega), upA_ne (by omega)]
        · rw [e21] at hg0
          rw [if_neg hg0, hxe, Int.toNat_natCast]
          refine ⟨?_, fun i hi => ⟨?_, ?_⟩, ?_, ?_⟩
          · rw [upA_ne (by omega), upA_eq]
          · rw [upA_ne (by omega), upA_ne (by omega), upA_ne (by omega)]
          · rw [upA_ne (by omega), upA_ne (by omega), upA_ne (by omega)]
          · rw [upA_ne (by omega), upA_ne (by omega), upA_eq]
          · rw [upA_eq]
end Rr16
