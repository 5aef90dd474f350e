/-! the reference's record(n) -/
def RecIs (ρ' : RS) (r : Nat) (ρ : RS) (n : Nat) (c : Nat → Nat) (q : Nat) : Prop :=
  ρ'.2 17 0 r = n ∧ ρ'.2 18 0 r = ρ.2 1 0 n ∧ ρ'.2 19 0 r = ρ.2 3 0 n ∧ ρ'.2 20 0 r = ρ.2 2 0 n ∧ ρ'.2 22 0 r = ρ.2 5 0 n ∧ ρ'.2 21 0 r = (if ρ.2 1 0 n = 1 then ρ.2 4 0 n else (q : Int)) ∧ 0 ≤ ρ'.2 23 0 r ∧
  (ρ.2 1 0 n = 1 → (∀ k : Nat, (k : Int) < ρ.2 4 0 n → ρ'.2 24 0 ((ρ'.2 23 0 r).toNat + k) = ρ.2 6 n k % 256) ∧ ρ'.2 23 0 r + ρ.2 4 0 n ≤ ρ'.1 28) ∧
  (ρ.2 1 0 n ≠ 1 → (∀ k : Nat, k < q → ρ'.2 25 0 ((ρ'.2 23 0 r).toNat + k) = ρ.2 3 0 (c k) ∧ ρ'.2 26 0 ((ρ'.2 23 0 r).toNat + k) = c k) ∧ ρ'.2 23 0 r + q ≤ ρ'.1 29)
def RecPost (ρ ρ' : RS) (n : Nat) (c : Nat → Nat) (q : Nat) : Prop :=
  Rg ρ' ∧ ρ'.1 27 = ρ.1 27 + 1 ∧ ρ'.1 28 = ρ.1 28 + (if ρ.2 1 0 n = 1 then ρ.2 4 0 n else 0) ∧ ρ'.1 29 = ρ.1 29 + (if ρ.2 1 0 n = 1 then 0 else (q : Int)) ∧ (∀ k, k ≠ 27 → k ≠ 28 → k ≠ 29 → ρ'.1 k = ρ.1 k) ∧
  (∀ j r i, (j < 17 ∨ 26 < j) → ρ'.2 j r i = ρ.2 j r i) ∧ (∀ j i, 17 ≤ j → j ≤ 23 → i ≠ (ρ.1 27).toNat → ρ'.2 j 0 i = ρ.2 j 0 i) ∧
  (∀ i : Nat, (i : Int) < ρ.1 28 → ρ'.2 24 0 i = ρ.2 24 0 i) ∧ (∀ i : Nat, (i : Int) < ρ.1 29 → ρ'.2 25 0 i = ρ.2 25 0 i ∧ ρ'.2 26 0 i = ρ.2 26 0 i) ∧
  RecIs ρ' (ρ.1 27).toNat ρ n c q ∧ (EntOk ρ → EntOk ρ')
theorem rc1_g {ρ : RS} (hg : Rg ρ) (n : Nat) (hn : n < 256) (h1 : 0 ≤ ρ.1 27) (h2 : ρ.1 27 < 4000) {sz fr : Int} (s1 : 0 ≤ sz) (s2 : sz ≤ 1000000) (f1 : 0 ≤ fr) (f2 : fr ≤ 1000000) : Rg (rc1 ρ n sz fr) := by
  unfold rc1
  exact ((((((((hg.upF 27 (by omega) (by omega)).upA 17 0 _ (by omega) (by omega)).upA 18 0 _ (hg.2 1 0 n).1 (hg.2 1 0 n).2).upA 19 0 _ (hg.2 3 0 n).1 (hg.2 3 0 n).2).upA 20 0 _ (hg.2 2 0 n).1 (hg.2 2 0 n).2).upA 22 0 _ (hg.2 5 0 n).1 (hg.2 5 0 n).2).upA 21 0 _ (by omega) (by omega)).upA 23 0 _ (by omega) (by omega))
theorem rc1_lo (ρ : RS) (n : Nat) (sz fr : Int) {j r i : Nat} (hj : j < 17 ∨ 23 < j) : (rc1 ρ n sz fr).2 j r i = ρ.2 j r i := by
  unfold rc1 upA upF
  dsimp only
  rw [if_neg (by omega), if_neg (by omega), if_neg (by omega), if_neg (by omega), if_neg (by omega), if_neg (by omega), if_neg (by omega)]
theorem rc1_ne (ρ : RS) (n : Nat) (sz fr : Int) {j i : Nat} (hi : i ≠ (ρ.1 27).toNat) : (rc1 ρ n sz fr).2 j 0 i = ρ.2 j 0 i := by
  unfold rc1 upA upF
  dsimp only
  rw [if_neg (by omega), if_neg (by omega), if_neg (by omega), if_neg (by omega), if_neg (by omega), if_neg (by omega), if_neg (by omega)]
theorem rc1_at (ρ : RS) (n : Nat) (sz fr : Int) : (rc1 ρ n sz fr).2 17 0 (ρ.1 27).toNat = n ∧ (rc1 ρ n sz fr).2 18 0 (ρ.1 27).toNat = ρ.2 1 0 n ∧ (rc1 ρ n sz fr).2 19 0 (ρ.1 27).toNat = ρ.2 3 0 n ∧ (rc1 ρ n sz fr).2 20 0 (ρ.1 27).toNat = ρ.2 2 0 n ∧ (rc1 ρ n sz fr).2 22 0 (ρ.1 27).toNat = ρ.2 5 0 n ∧ (rc1 ρ n sz fr).2 21 0 (ρ.1 27).toNat = sz ∧ (rc1 ρ n sz fr).2 23 0 (ρ.1 27).toNat = fr := by
  simp [rc1, upA, upF]
theorem rc1_f (ρ : RS) (n : Nat) (sz fr : Int) (k : Nat) : (rc1 ρ n sz fr).1 k = if k = 27 then ρ.1 27 + 1 else ρ.1 k := rfl
theorem cpO_lo (σ : RS) (n om k : Nat) {j r i : Nat} (hj : j ≠ 24) : (cpO σ n om k).2 j r i = σ.2 j r i := by
  unfold cpO
  dsimp only
  rw [if_neg (fun z => hj z.1)]
theorem enO_lo (σ : RS) (c : Nat → Nat) (em k : Nat) {j r i : Nat} (hj : j ≠ 25 ∧ j ≠ 26) : (enO σ c em k).2 j r i = σ.2 j r i := by
  unfold enO
  dsimp only
  rw [if_neg (fun z => hj.1 z.1), if_neg (fun z => hj.2 z.1)]
theorem cpO_g {σ : RS} (hg : Rg σ) (n om k : Nat) (h : om + k ≤ 1000000) : Rg (cpO σ n om k) := by
  refine ⟨fun i => ?_, fun j r i => ?_⟩
  · show _ ≤ (if i = 28 then _ else _) ∧ (if i = 28 then _ else _) ≤ _
    split
    · omega
    · exact hg.1 i
  · show _ ≤ (if _ then _ else _) ∧ (if _ then _ else _) ≤ _
    split
    · have h1 := Int.emod_nonneg (σ.2 6 n (i - om)) (show (256 : Int) ≠ 0 by decide)
      have h2 := Int.emod_lt_of_pos (σ.2 6 n (i - om)) (show (0 : Int) < 256 by decide)
      exact ⟨Int.le_trans (by decide) h1, Int.le_trans (Int.le_of_lt h2) (by decide)⟩
    · exact hg.2 j r i
theorem enO_g {σ : RS} (hg : Rg σ) (c : Nat → Nat) (em k : Nat) (h : em + k ≤ 1000000) (hc : ∀ i, i < k → c i < 256) : Rg (enO σ c em k) := by
  refine ⟨fun i => ?_, fun j r i => ?_⟩
  · show _ ≤ (if i = 29 then _ else _) ∧ (if i = 29 then _ else _) ≤ _
    split
    · omega
    · exact hg.1 i
  · show _ ≤ (if _ then _ else if _ then _ else _) ∧ (if _ then _ else if _ then _ else _) ≤ _
    split
    · exact hg.2 3 0 _
    · split
      · rename_i z
        have := hc (i - em) (by omega)
        omega
      · exact hg.2 j r i
theorem rec_post_f {ρ : RS} (hg : Rg ρ) {n om sz q : Nat} {c : Nat → Nat} (hn : n < 256) (hk : ρ.2 1 0 n = 1) (hsz : ρ.2 4 0 n = (sz : Int)) (h1 : sz ≤ 512) (hom : ρ.1 28 = (om : Int)) (h2 : om + sz ≤ 256000) (r1 : 0 ≤ ρ.1 27) (r2 : ρ.1 27 < 4000) : RecPost ρ (cpO (rc1 ρ n sz om) n om sz) n c q := by
  have g1 : Rg (rc1 ρ n sz om) := rc1_g hg n hn r1 r2 (by omega) (by omega) (by omega) (by omega)
  obtain ⟨a1, a2, a3, a4, a5, a6, a7⟩ := rc1_at ρ n sz om
  refine ⟨cpO_g g1 n om sz (by omega), rfl, ?_, ?_, ?_, ?_, ?_, ?_, ?_, ?_, ?_⟩
  · show ((om + sz : Nat) : Int) = _
    rw [if_pos hk, hsz, hom]
    omega
  · rw [if_pos hk]
    show ρ.1 29 = _
    omega
  · intro k k1 k2 k3
    show (if k = 28 then _ else (rc1 ρ n sz om).1 k) = _
    rw [if_neg k2, rc1_f, if_neg k1]
  · intro j r i hj
    rw [cpO_lo _ _ _ _ (by omega), rc1_lo _ _ _ _ (by omega)]
  · intro j i j1 j2 hi
    rw [cpO_lo _ _ _ _ (by omega), rc1_ne _ _ _ _ hi]
  · intro i hi
    show (if 24 = 24 ∧ 0 = 0 ∧ om ≤ i ∧ i < om + sz then _ else (rc1 ρ n sz om).2 24 0 i) = _
    rw [if_neg (by omega), rc1_lo _ _ _ _ (by omega)]
  · intro i hi
    rw [cpO_lo _ _ _ _ (by omega), rc1_lo _ _ _ _ (by omega), cpO_lo _ _ _ _ (by omega), rc1_lo _ _ _ _ (by omega)]
    exact ⟨rfl, rfl⟩
  · refine ⟨?_, ?_, ?_, ?_, ?_, ?_, ?_, ?_, ?_⟩
    · rw [cpO_lo _ _ _ _ (by omega)]; exact a1
    · rw [cpO_lo _ _ _ _ (by omega)]; exact a2
    · rw [cpO_lo _ _ _ _ (by omega)]; exact a3
    · rw [cpO_lo _ _ _ _ (by omega)]; exact a4
    · rw [cpO_lo _ _ _ _ (by omega)]; exact a5
    · rw [cpO_lo _ _ _ _ (by omega), if_pos hk, hsz]; exact a6
    · rw [cpO_lo _ _ _ _ (by omega), a7]; omega
    · intro _
      rw [cpO_lo _ _ _ _ (by omega), a7]
      refine ⟨fun k hk2 => ?_, ?_⟩
      · show (if 24 = 24 ∧ 0 = 0 ∧ om ≤ (om : Int).toNat + k ∧ (om : Int).toNat + k < om + sz then (rc1 ρ n sz om).2 6 n ((om : Int).toNat + k - om) % 256 else _) = _
        rw [if_pos ⟨rfl, rfl, by omega, by omega⟩, rc1_lo _ _ _ _ (by omega), show (om : Int).toNat + k - om = k by omega]
      · show _ ≤ ((om + sz : Nat) : Int)
        omega
    · intro z
      exact absurd hk z
  · intro hE k
    rw [cpO_lo _ _ _ _ (by omega), rc1_lo _ _ _ _ (by omega), cpO_lo _ _ _ _ (by omega), rc1_lo _ _ _ _ (by omega)]
    exact hE k
theorem rec_post_d {ρ : RS} (hg : Rg ρ) {n em q : Nat} {c : Nat → Nat} (hn : n < 256) (hk : ρ.2 1 0 n ≠ 1) (hK : Kids ρ n c q) (hnm : ∀ m : Nat, m < 256 → ρ.2 3 0 m ≤ 30000) (h1 : q ≤ 255) (hem : ρ.1 29 = (em : Int)) (h2 : em + q ≤ 84000) (r1 : 0 ≤ ρ.1 27) (r2 : ρ.1 27 < 4000) : RecPost ρ (enO (rc1 ρ n q em) c em q) n c q := by
  have g1 : Rg (rc1 ρ n q em) := rc1_g hg n hn r1 r2 (by omega) (by omega) (by omega) (by omega)
  obtain ⟨a1, a2, a3, a4, a5, a6, a7⟩ := rc1_at ρ n q em
  refine ⟨enO_g g1 c em q (by omega) (fun i hi => (hK.1 i hi).2.1), rfl, ?_, ?_, ?_, ?_, ?_, ?_, ?_, ?_, ?_⟩
  · rw [if_neg hk]
    show ρ.1 28 = _
    omega
  · show ((em + q : Nat) : Int) = _
    rw [if_neg hk, hem]
    omega
  · intro k k1 k2 k3
    show (if k = 29 then _ else (rc1 ρ n q em).1 k) = _
    rw [if_neg k3, rc1_f, if_neg k1]
  · intro j r i hj
    rw [enO_lo _ _ _ _ (by omega), rc1_lo _ _ _ _ (by omega)]
  · intro j i j1 j2 hi
    rw [enO_lo _ _ _ _ (by omega), rc1_ne _ _ _ _ hi]
  · intro i hi
    rw [enO_lo _ _ _ _ (by omega), rc1_lo _ _ _ _ (by omega)]
  · intro i hi
    constructor
    · show (if 25 = 25 ∧ 0 = 0 ∧ em ≤ i ∧ i < em + q then _ else if 25 = 26 ∧ 0 = 0 ∧ em ≤ i ∧ i < em + q then _ else (rc1 ρ n q em).2 25 0 i) = _
      rw [if_neg (by omega), if_neg (by omega), rc1_lo _ _ _ _ (by omega)]
    · show (if 26 = 25 ∧ 0 = 0 ∧ em ≤ i ∧ i < em + q then (rc1 ρ n q em).2 3 0 (c (i - em)) else if 26 = 26 ∧ 0 = 0 ∧ em ≤ i ∧ i < em + q then _ else (rc1 ρ n q em).2 26 0 i) = _
      rw [if_neg (by omega), if_neg (by omega), rc1_lo _ _ _ _ (by omega)]
  · refine ⟨?_, ?_, ?_, ?_, ?_, ?_, ?_, ?_, ?_⟩
    · rw [enO_lo _ _ _ _ (by omega)]; exact a1
    · rw [enO_lo _ _ _ _ (by omega)]; exact a2
    · rw [enO_lo _ _ _ _ (by omega)]; exact a3
    · rw [enO_lo _ _ _ _ (by omega)]; exact a4
    · rw [enO_lo _ _ _ _ (by omega)]; exact a5
    · rw [enO_lo _ _ _ _ (by omega), if_neg hk]; exact a6
    · rw [enO_lo _ _ _ _ (by omega), a7]; omega
    · intro z
      exact absurd z hk
    · intro _
      rw [enO_lo _ _ _ _ (by omega), a7]
      refine ⟨fun k hk2 => ⟨?_, ?_⟩, ?_⟩
      · show (if 25 = 25 ∧ 0 = 0 ∧ em ≤ (em : Int).toNat + k ∧ (em : Int).toNat + k < em + q then (rc1 ρ n q em).2 3 0 (c ((em : Int).toNat + k - em)) else _) = _
        rw [if_pos ⟨rfl, rfl, by omega, by omega⟩, rc1_lo _ _ _ _ (by omega), show (em : Int).toNat + k - em = k by omega]
      · show (if 26 = 25 ∧ 0 = 0 ∧ em ≤ (em : Int).toNat + k ∧ (em : Int).toNat + k < em + q then (rc1 ρ n q em).2 3 0 (c ((em : Int).toNat + k - em)) else if 26 = 26 ∧ 0 = 0 ∧ em ≤ (em : Int).toNat + k ∧ (em : Int).toNat + k < em + q then ((c ((em : Int).toNat + k - em) : Nat) : Int) else _) = _
        rw [if_neg (by omega), if_pos ⟨rfl, rfl, by omega, by omega⟩, show (em : Int).toNat + k - em = k by omega]
      · show _ ≤ ((em + q : Nat) : Int)
        omega
  · intro hE k
    have e0 := hE k
    refine ⟨?_, ?_, ?_, ?_⟩
    all_goals
      first
      | (show 0 ≤ (if 25 = 25 ∧ 0 = 0 ∧ em ≤ k ∧ k < em + q then (rc1 ρ n q em).2 3 0 (c (k - em)) else if 25 = 26 ∧ 0 = 0 ∧ em ≤ k ∧ k < em + q then _ else (rc1 ρ n q em).2 25 0 k)
         split
         · rename_i z
           rw [rc1_lo _ _ _ _ (by omega)]
           have := hK.2.2.2 (k - em) (by omega)
           omega
         · rw [if_neg (by omega), rc1_lo _ _ _ _ (by omega)]
           omega)
      | (show (if 25 = 25 ∧ 0 = 0 ∧ em ≤ k ∧ k < em + q then (rc1 ρ n q em).2 3 0 (c (k - em)) else if 25 = 26 ∧ 0 = 0 ∧ em ≤ k ∧ k < em + q then _ else (rc1 ρ n q em).2 25 0 k) ≤ 30000
         split
         · rename_i z
           rw [rc1_lo _ _ _ _ (by omega)]
           exact hnm _ (hK.1 (k - em) (by omega)).2.1
         · rw [if_neg (by omega), rc1_lo _ _ _ _ (by omega)]
           omega)
      | (show 0 ≤ (if 26 = 25 ∧ 0 = 0 ∧ em ≤ k ∧ k < em + q then (rc1 ρ n q em).2 3 0 (c (k - em)) else if 26 = 26 ∧ 0 = 0 ∧ em ≤ k ∧ k < em + q then ((c (k - em) : Nat) : Int) else (rc1 ρ n q em).2 26 0 k)
         rw [if_neg (by omega)]
         split
         · omega
         · rw [rc1_lo _ _ _ _ (by omega)]
           omega)
      | (show (if 26 = 25 ∧ 0 = 0 ∧ em ≤ k ∧ k < em + q then (rc1 ρ n q em).2 3 0 (c (k - em)) else if 26 = 26 ∧ 0 = 0 ∧ em ≤ k ∧ k < em + q then ((c (k - em) : Nat) : Int) else (rc1 ρ n q em).2 26 0 k) < 256
         rw [if_neg (by omega)]
         split
         · rename_i z
           have := (hK.1 (k - em) (by omega)).2.1
           omega
         · rw [rc1_lo _ _ _ _ (by omega)]
           omega)
section Rr12
variable {b L : Nat} {xs : Nat → Int32} {m0 : Nat} {h : AH} {ρ σ : RS}
set_option maxRecDepth 50000 in
theorem r_rec_el (hb : b < m0) (hg : Rg σ) (d : Nat) {n em q r : Nat} {c : Nat → Nat} (hn : n < 256) (hr : r < 4000) (hq : σ.2 21 0 r = (q : Int)) (h1 : q ≤ 255) (h2 : em + q ≤ 84000) (hK : Kids σ n c q) (hnm : ∀ m : Nat, m < 256 → σ.2 3 0 m ≤ 30000) : ∀ (m k : Nat) (last : Int) (u5 u6 : Option Value), k + m = q → last = (if k = 0 then 0 else σ.2 3 0 (c (k - 1))) → Wp b L xs d mi_126 168 [some (.ref m0), some (vI n), some (vI r), some (vI last), some (vI k), u5, u6] [] (RH m0 h (enO σ c em k)) (Rn (RH m0 h (enO σ c em q))) := by
  intro m
  induction m with
  | zero =>
    intro k last u5 u6 hk hl
    obtain rfl : k = q := hk
    refine w_iload rfl rfl ?_
    refine w_aload_n rfl rfl ?_
    refine m_get rfl rfl ?_
    refine w_iload_n rfl rfl ?_
    refine m_iaload rfl hb rl_21 (by first | omega | (simp only [Int.toNat_natCast, upF_2] at *; omega)) (by first | omega | (simp only [Int.toNat_natCast, upF_2] at *; omega)) ?_
    rw [show (enO σ c em k).2 21 0 (r : Int).toNat = (k : Int) from hq]
    refine w_icge_t rfl (by first | omega | exact (hg.2 _ _ _).1 | exact (hg.1 _).1 | (simp only [Int.toNat_natCast, upF_2] at *; omega)) (by first | omega | exact (hg.2 _ _ _).2 | exact (hg.1 _).2 | (simp only [Int.toNat_natCast, upF_2] at *; omega)) (by first | omega | exact (hg.2 _ _ _).1 | exact (hg.1 _).1 | (simp only [Int.toNat_natCast, upF_2] at *; omega)) (by first | omega | exact (hg.2 _ _ _).2 | exact (hg.1 _).2 | (simp only [Int.toNat_natCast, upF_2] at *; omega)) (by first | omega | (simp only [Int.toNat_natCast, upF_2] at *; omega)) ?_
    refine w_return rfl rfl ?_
    exact ⟨rfl, rfl⟩
  | succ m ih =>
    intro k last u5 u6 hk hl
    have hc := hK.1 k (by omega)
    have hcn := hK.2.2.2 k (by omega)
    have hl1 : 0 ≤ last ∧ last < σ.2 3 0 (c k) := by
      by_cases q0 : k = 0
      · rw [if_pos q0] at hl
        omega
      · rw [if_neg q0] at hl
        have z1 := hK.2.2.2 (k - 1) (by omega)
        have z2 := hK.2.1 (k - 1) k (by omega) (by omega)
        omega
    have hg2 : Rg (enO σ c em k) := enO_g hg c em k (by omega) (fun i hi => (hK.1 i (by omega)).2.1)
    have ht6 : ∀ m : Nat, 1 ≤ m → m < 256 → m ≠ c k → σ.2 1 0 m ≠ 0 → σ.2 2 0 m = n → last < σ.2 3 0 m → σ.2 3 0 (c k) < σ.2 3 0 m := by
      intro m m1 m2 m3 m4 m5 m6
      obtain ⟨i, hi, rfl⟩ := hK.2.2.1 m m1 m2 m4 m5
      by_cases q1 : i < k
      · exfalso
        rw [if_neg (by omega)] at hl
        by_cases q2 : i = k - 1
        · subst q2
          omega
        · have := hK.2.1 i (k - 1) (by omega) (by omega)
          omega
      · have q3 : i ≠ k := fun z => m3 (by rw [z])
        exact hK.2.1 k i (by omega) hi
    have hl3 := hnm (c k) hc.2.1
    refine w_iload rfl rfl ?_
    refine w_aload_n rfl rfl ?_
    refine m_get rfl rfl ?_
    refine w_iload_n rfl rfl ?_
    refine m_iaload rfl hb rl_21 (by first | omega | (simp only [Int.toNat_natCast, upF_2] at *; omega)) (by first | omega | (simp only [Int.toNat_natCast, upF_2] at *; omega)) ?_
    rw [show (enO σ c em k).2 21 0 (r : Int).toNat = (q : Int) from hq]
    refine w_icge_f rfl (by first | omega | exact (hg.2 _ _ _).1 | exact (hg.1 _).1 | (simp only [Int.toNat_natCast, upF_2] at *; omega)) (by first | omega | exact (hg.2 _ _ _).2 | exact (hg.1 _).2 | (simp only [Int.toNat_natCast, upF_2] at *; omega)) (by first | omega | exact (hg.2 _ _ _).1 | exact (hg.1 _).1 | (simp only [Int.toNat_natCast, upF_2] at *; omega)) (by first | omega | exact (hg.2 _ _ _).2 | exact (hg.1 _).2 | (simp only [Int.toNat_natCast, upF_2] at *; omega)) (by first | omega | (simp only [Int.toNat_natCast, upF_2] at *; omega)) ?_
    refine w_iconst rfl ?_
    refine w_istore rfl (by decide) ?_
    refine w_iconst rfl ?_
    refine w_istore rfl (by decide) ?_
    refine r_rec_in (σ := enO σ c em k) hb hg2 d (t := c k) hn hl1.1 (by omega) hc.1 hc.2.1 (by rw [enO_lo _ _ _ _ (by omega)]; exact hc.2.2.1) (by rw [enO_lo _ _ _ _ (by omega)]; exact hc.2.2.2) (by rw [enO_lo _ _ _ _ (by omega)]; exact hl1.2) (fun m m1 m2 m3 m4 m5 m6 => ?_) ?_ 255 1 (-1) rfl (by omega) (Or.inl ⟨hc.1, Or.inl rfl⟩)
    · rw [enO_lo _ _ _ _ (by omega)] at m4 m5 m6
      rw [enO_lo _ _ _ _ (by omega), enO_lo _ _ _ _ (by omega)]
      exact ht6 m m1 m2 m3 m4 m5 m6
    refine w_aload_n rfl rfl ?_
    refine m_get rfl rfl ?_
    refine w_iload rfl rfl ?_
    refine m_iaload rfl hb rl_3 (by first | omega | (simp only [Int.toNat_natCast, upF_2] at *; omega)) (by first | omega | (simp only [Int.toNat_natCast, upF_2] at *; omega)) ?_
    rw [show (enO σ c em k).2 3 0 ((c k : Nat) : Int).toNat = σ.2 3 0 (c k) from rfl]
    refine w_istore_n rfl (by decide) ?_
    refine w_aload_n rfl rfl ?_
    refine m_get rfl rfl ?_
    refine w_aload_n rfl rfl ?_
    refine m_get rfl rfl ?_
    first | rw [show (enO σ c em k).1 29 = ((em + k : Nat) : Int) from rfl] | rw [show (upA (enO σ c em k) 25 0 ((em + k : Nat) : Int).toNat (σ.2 3 0 (c k))).1 29 = ((em + k : Nat) : Int) from rfl]
    refine w_iload_n rfl rfl ?_
    refine m_iastore rfl rl_25 (by first | omega | (simp only [Int.toNat_natCast, upF_2] at *; omega)) (by first | omega | (simp only [Int.toNat_natCast, upF_2] at *; omega)) ?_
    refine w_aload_n rfl rfl ?_
    refine m_get rfl rfl ?_
    refine w_aload_n rfl rfl ?_
    refine w_dupR rfl ?_
    refine m_get rfl rfl ?_
    first | rw [show (enO σ c em k).1 29 = ((em + k : Nat) : Int) from rfl] | rw [show (upA (enO σ c em k) 25 0 ((em + k : Nat) : Int).toNat (σ.2 3 0 (c k))).1 29 = ((em + k : Nat) : Int) from rfl]
    refine w_dup_x1 rfl ?_
    refine w_iconst rfl ?_
    refine w_iadd rfl ?_
    refine m_put rfl rfl rfl rfl ?_
    refine w_iload rfl rfl ?_
    refine m_iastore rfl rl_26 (by first | omega | (simp only [Int.toNat_natCast, upF_2] at *; omega)) (by first | omega | (simp only [Int.toNat_natCast, upF_2] at *; omega)) ?_
    rw [Int.toNat_natCast, enO_succ σ c em k _ _ _ rfl rfl rfl]
    refine w_iinc rfl rfl (by decide) ?_
    refine w_goto rfl ?_
    exact ih (k + 1) (σ.2 3 0 (c k)) _ _ (by omega) (by rw [if_neg (by omega), Nat.add_sub_cancel])
set_option maxRecDepth 50000 in
theorem r_rec_f (hb : b < m0) (hg : Rg ρ) (d : Nat) {n om sz q : Nat} {c : Nat → Nat} (hn : n < 256) (hk : ρ.2 1 0 n = 1) (hsz : ρ.2 4 0 n = (sz : Int)) (h1 : sz ≤ 512) (hom : ρ.1 28 = (om : Int)) (h2 : om + sz ≤ 256000) (r1 : 0 ≤ ρ.1 27) (r2 : ρ.1 27 < 4000) : Wp b L xs d mi_126 0 (ent (mL mi_126) [.ref m0, vI n]) [] (RH m0 h ρ) (fun h' o => o = .inl none ∧ ∃ ρ', h' = RH m0 h ρ' ∧ RecPost ρ ρ' n c q) := by
  refine w_aload_n rfl rfl ?_
  refine w_dupR rfl ?_
  refine m_get rfl rfl ?_
  refine w_dup_x1 rfl ?_
  refine w_iconst rfl ?_
  refine w_iadd rfl ?_
  refine m_put rfl rfl rfl rfl ?_
  refine w_istore_n rfl (by decide) ?_
  refine w_aload_n rfl rfl ?_
  refine m_get rfl rfl ?_
  refine w_iload_n rfl rfl ?_
  refine w_iload_n rfl rfl ?_
  refine m_iastore rfl rl_17 (by first | omega | exact r1 | exact r2) (by first | omega | exact r1 | exact r2) ?_
  refine w_aload_n rfl rfl ?_
  refine m_get rfl rfl ?_
  refine w_iload_n rfl rfl ?_
  refine w_aload_n rfl rfl ?_
  refine m_get rfl rfl ?_
  refine w_iload_n rfl rfl ?_
  refine m_iaload rfl hb rl_1 (by first | omega | exact r1 | exact r2) (by first | omega | exact r1 | exact r2) ?_
  refine m_iastore rfl rl_18 (by first | omega | exact r1 | exact r2) (by first | omega | exact r1 | exact r2) ?_
  refine w_aload_n rfl rfl ?_
  refine m_get rfl rfl ?_
  refine w_iload_n rfl rfl ?_
  refine w_aload_n rfl rfl ?_
  refine m_get rfl rfl ?_
  refine w_iload_n rfl rfl ?_
  refine m_iaload rfl hb rl_3 (by first | omega | exact r1 | exact r2) (by first | omega | exact r1 | exact r2) ?_
  refine m_iastore rfl rl_19 (by first | omega | exact r1 | exact r2) (by first | omega | exact r1 | exact r2) ?_
  refine w_aload_n rfl rfl ?_
  refine m_get rfl rfl ?_
  refine w_iload_n rfl rfl ?_
  refine w_aload_n rfl rfl ?_
  refine m_get rfl rfl ?_
  refine w_iload_n rfl rfl ?_
  refine m_iaload rfl hb rl_2 (by first | omega | exact r1 | exact r2) (by first | omega | exact r1 | exact r2) ?_
  refine m_iastore rfl rl_20 (by first | omega | exact r1 | exact r2) (by first | omega | exact r1 | exact r2) ?_
  refine w_aload_n rfl rfl ?_
  refine m_get rfl rfl ?_
  refine w_iload_n rfl rfl ?_
  refine w_aload_n rfl rfl ?_
  refine m_get rfl rfl ?_
  refine w_iload_n rfl rfl ?_
  refine m_iaload rfl hb rl_5 (by first | omega | exact r1 | exact r2) (by first | omega | exact r1 | exact r2) ?_
  refine m_iastore rfl rl_22 (by first | omega | exact r1 | exact r2) (by first | omega | exact r1 | exact r2) ?_
  refine w_aload_n rfl rfl ?_
  refine m_get rfl rfl ?_
  refine w_iload_n rfl rfl ?_
  refine m_iaload rfl hb rl_1 (by first | omega | exact r1 | exact r2) (by first | omega | exact r1 | exact r2) ?_
  refine w_iconst rfl ?_
  refine w_icne_f rfl (hg.2 1 0 n).1 (hg.2 1 0 n).2 (by decide) (by decide) (fun z => z hk) ?_
  refine w_aload_n rfl rfl ?_
  refine m_get rfl rfl ?_
  refine w_iload_n rfl rfl ?_
  refine w_aload_n rfl rfl ?_
  refine m_get rfl rfl ?_
  refine w_iload_n rfl rfl ?_
  refine m_iaload rfl hb rl_4 (by first | omega | exact r1 | exact r2) (by first | omega | exact r1 | exact r2) ?_
  refine m_iastore rfl rl_21 (by first | omega | exact r1 | exact r2) (by first | omega | exact r1 | exact r2) ?_
  refine w_aload_n rfl rfl ?_
  refine m_get rfl rfl ?_
  refine w_iload_n rfl rfl ?_
  refine w_aload_n rfl rfl ?_
  refine m_get rfl rfl ?_
  refine m_iastore rfl rl_23 (by first | omega | exact r1 | exact r2) (by first | omega | exact r1 | exact r2) ?_
  refine w_iconst rfl ?_
  refine w_istore_n rfl (by decide) ?_
  have g1 : Rg (rc1 ρ n sz om) := rc1_g hg n hn r1 r2 (by omega) (by omega) (by omega) (by omega)
  have lp := r_rec_ol (L := L) (xs := xs) (h := h) (σ := rc1 ρ n sz om) hb g1 d (r := ρ.1 27) hn hsz h1 h2 sz 0 (Nat.zero_add _)
  rw [cpO_zero (rc1 ρ n sz om) n om hom] at lp
  have e9 : rc1 ρ n sz om = rc1 ρ n (ρ.2 4 0 n) (ρ.1 28) := by rw [hsz, hom]
  rw [e9] at lp
  refine Wp.mono lp (fun h' o z => ⟨z.2, _, z.1, ?_⟩)
  rw [← e9]
  exact rec_post_f hg hn hk hsz h1 hom h2 r1 r2
set_option maxRecDepth 50000 in
theorem r_rec_d (hb : b < m0) (hg : Rg ρ) (d : Nat) (hd : 1 ≤ d) {n em q : Nat} {c : Nat → Nat} (hn : n < 256) (hk : ρ.2 1 0 n ≠ 1) (hK : Kids ρ n c q) (hnm : ∀ m : Nat, m < 256 → ρ.2 3 0 m ≤ 30000) (hq : rEnt ρ n = q) (h1 : q ≤ 255) (hem : ρ.1 29 = (em : Int)) (h2 : em + q ≤ 84000) (r1 : 0 ≤ ρ.1 27) (r2 : ρ.1 27 < 4000) : Wp b L xs d mi_126 0 (ent (mL mi_126) [.ref m0, vI n]) [] (RH m0 h ρ) (fun h' o => o = .inl none ∧ ∃ ρ', h' = RH m0 h ρ' ∧ RecPost ρ ρ' n c q) := by
  have r3 : (ρ.1 27).toNat < 4000 := by omega
  have r4 : (((ρ.1 27).toNat : Nat) : Int) = ρ.1 27 := by omega
  refine w_aload_n rfl rfl ?_
  refine w_dupR rfl ?_
  refine m_get rfl rfl ?_
  refine w_dup_x1 rfl ?_
  refine w_iconst rfl ?_
  refine w_iadd rfl ?_
  refine m_put rfl rfl rfl rfl ?_
  refine w_istore_n rfl (by decide) ?_
  refine w_aload_n rfl rfl ?_
  refine m_get rfl rfl ?_
  refine w_iload_n rfl rfl ?_
  refine w_iload_n rfl rfl ?_
  refine m_iastore rfl rl_17 (by first | omega | exact r1 | exact r2) (by first | omega | exact r1 | exact r2) ?_
  refine w_aload_n rfl rfl ?_
  refine m_get rfl rfl ?_
  refine w_iload_n rfl rfl ?_
  refine w_aload_n rfl rfl ?_
  refine m_get rfl rfl ?_
  refine w_iload_n rfl rfl ?_
  refine m_iaload rfl hb rl_1 (by first | omega | exact r1 | exact r2) (by first | omega | exact r1 | exact r2) ?_
  refine m_iastore rfl rl_18 (by first | omega | exact r1 | exact r2) (by first | omega | exact r1 | exact r2) ?_
  refine w_aload_n rfl rfl ?_
  refine m_get rfl rfl ?_
  refine w_iload_n rfl rfl ?_
  refine w_aload_n rfl rfl ?_
  refine m_get rfl rfl ?_
  refine w_iload_n rfl rfl ?_
  refine m_iaload rfl hb rl_3 (by first | omega | exact r1 | exact r2) (by first | omega | exact r1 | exact r2) ?_
  refine m_iastore rfl rl_19 (by first | omega | exact r1 | exact r2) (by first | omega | exact r1 | exact r2) ?_
  refine w_aload_n rfl rfl ?_
  refine m_get rfl rfl ?_
  refine w_iload_n rfl rfl ?_
  refine w_aload_n rfl rfl ?_
  refine m_get rfl rfl ?_
  refine w_iload_n rfl rfl ?_
  refine m_iaload rfl hb rl_2 (by first | omega | exact r1 | exact r2) (by first | omega | exact r1 | exact r2) ?_
  refine m_iastore rfl rl_20 (by first | omega | exact r1 | exact r2) (by first | omega | exact r1 | exact r2) ?_
  refine w_aload_n rfl rfl ?_
  refine m_get rfl rfl ?_
  refine w_iload_n rfl rfl ?_
  refine w_aload_n rfl rfl ?_
  refine m_get rfl rfl ?_
  refine w_iload_n rfl rfl ?_
  refine m_iaload rfl hb rl_5 (by first | omega | exact r1 | exact r2) (by first | omega | exact r1 | exact r2) ?_
  refine m_iastore rfl rl_22 (by first | omega | exact r1 | exact r2) (by first | omega | exact r1 | exact r2) ?_
  refine w_aload_n rfl rfl ?_
  refine m_get rfl rfl ?_
  refine w_iload_n rfl rfl ?_
  refine m_iaload rfl hb rl_1 (by first | omega | exact r1 | exact r2) (by first | omega | exact r1 | exact r2) ?_
  refine w_iconst rfl ?_
  refine w_icne_t rfl (hg.2 1 0 n).1 (hg.2 1 0 n).2 (by decide) (by decide) hk ?_
  refine w_aload_n rfl rfl ?_
  refine m_get rfl rfl ?_
  refine w_iload_n rfl rfl ?_
  refine w_aload_n rfl rfl ?_
  refine w_iload_n rfl rfl ?_
  refine w_cvV rfl (by decide) (by first | omega | exact r1 | exact r2) rfl RH_obj mt_121 (Nat.le_of_ble_eq_true rfl) (Nat.le_of_ble_eq_true rfl) (r_ent hb (((((((hg.upF 27 (by omega) (by omega)).upA 17 0 _ (by omega) (by omega)).upA 18 0 _ (hg.2 1 0 n).1 (hg.2 1 0 n).2).upA 19 0 _ (hg.2 3 0 n).1 (hg.2 3 0 n).2).upA 20 0 _ (hg.2 2 0 n).1 (hg.2 2 0 n).2).upA 22 0 _ (hg.2 5 0 n).1 (hg.2 5 0 n).2)) _ (by omega) (by omega)) ?_
  refine m_iastore rfl rl_21 (by first | omega | exact r1 | exact r2) (by first | omega | exact r1 | exact r2) ?_
  refine w_aload_n rfl rfl ?_
  refine m_get rfl rfl ?_
  refine w_iload_n rfl rfl ?_
  refine w_aload_n rfl rfl ?_
  refine m_get rfl rfl ?_
  refine m_iastore rfl rl_23 (by first | omega | exact r1 | exact r2) (by first | omega | exact r1 | exact r2) ?_
  refine w_iconst rfl ?_
  refine w_istore_n rfl (by decide) ?_
  refine w_iconst rfl ?_
  refine w_istore rfl (by decide) ?_
  have e9 : rc1 ρ n q em = rc1 ρ n (rEnt ρ n) (ρ.1 29) := by rw [hq, hem]
  have g1 : Rg (rc1 ρ n q em) := rc1_g hg n hn r1 r2 (by omega) (by omega) (by omega) (by omega)
  have lp := r_rec_el (L := L) (xs := xs) (h := h) (σ := rc1 ρ n q em) (c := c) hb g1 d hn r3 (rc1_at ρ n q em).2.2.2.2.2.1 h1 h2 hK hnm q 0 0 none none (Nat.zero_add _) rfl
  rw [enO_zero (rc1 ρ n q em) c em hem, e9, r4] at lp
  refine Wp.mono lp (fun h' o z => ⟨z.2, _, z.1, ?_⟩)
  rw [← e9]
  exact rec_post_d hg hn hk hK hnm h1 hem h2 r1 r2
end Rr12
