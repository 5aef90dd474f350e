/-! the reference's restore: its last loops -/
def PInv (σ τ : RS) (k : Nat) : Prop := SameX σ τ ∧ τ.1 = σ.1 ∧ Rg τ ∧ ∀ n, n < k → τ.2 32 0 n = 0 ∧ τ.2 38 0 n = 0
def lostN (Y : YS) : Nat := cnt (fun n => (Y n).2 = true) 0 256
theorem DumpsOk_2 {ρ ρ' : RS} (hh : ρ.2 = ρ'.2) {E : Nat} (hD : DumpsOk ρ E) : DumpsOk ρ' E := by
  obtain ⟨f, A⟩ := ρ
  obtain ⟨f', A'⟩ := ρ'
  have hh : A = A' := hh
  subst hh
  intro e he
  obtain ⟨x1, x2, x3, x4⟩ := hD e he
  refine ⟨x1, x2, x3, ?_⟩
  rw [sumC_2 (ρ := (f, A)) (ρ' := (f', A)) rfl] at x4
  exact x4
section Rr20
variable {b L : Nat} {xs : Nat → Int32} {m0 : Nat} {h : AH} {ρ : RS}
variable {σ : RS}
set_option maxRecDepth 50000 in
theorem r_rs_b {Q : AH → RO → Prop} (d : Nat) {k0 wh : Int} {u4 u5 : Option Value} (kk : ∀ τ, PInv σ τ 256 → Wp b L xs d mi_137 155 [some (.ref m0), some (vI k0), some (vI wh), some (vI 256), u4, u5] [] (RH m0 h τ) Q) : ∀ (m k : Nat) (τ : RS), k + m = 256 → PInv σ τ k → Wp b L xs d mi_137 121 [some (.ref m0), some (vI k0), some (vI wh), some (vI k), u4, u5] [] (RH m0 h τ) Q := by
  intro m
  induction m with
  | zero =>
    intro k τ hk hI
    obtain rfl : k = 256 := hk
    refine w_iload_n rfl rfl ?_
    refine w_sipush rfl rfl ?_
    refine w_icge_t rfl (by first | omega | exact (hg.2 _ _ _).1 | exact (hg.1 _).1 | (simp only [Int.toNat_natCast, upF_2] at *; omega)) (by first | omega | exact (hg.2 _ _ _).2 | exact (hg.1 _).2 | (simp only [Int.toNat_natCast, upF_2] at *; omega)) (by first | omega | exact (hg.2 _ _ _).1 | exact (hg.1 _).1 | (simp only [Int.toNat_natCast, upF_2] at *; omega)) (by first | omega | exact (hg.2 _ _ _).2 | exact (hg.1 _).2 | (simp only [Int.toNat_natCast, upF_2] at *; omega)) (by first | omega | (simp only [Int.toNat_natCast, upF_2] at *; omega)) ?_
    exact kk τ hI
  | succ m ih =>
    intro k τ hk hI
    obtain ⟨i1, i2, hg, i4⟩ := hI
    refine w_iload_n rfl rfl ?_
    refine w_sipush rfl rfl ?_
    refine w_icge_f rfl (by first | omega | exact (hg.2 _ _ _).1 | exact (hg.1 _).1 | (simp only [Int.toNat_natCast, upF_2] at *; omega)) (by first | omega | exact (hg.2 _ _ _).2 | exact (hg.1 _).2 | (simp only [Int.toNat_natCast, upF_2] at *; omega)) (by first | omega | exact (hg.2 _ _ _).1 | exact (hg.1 _).1 | (simp only [Int.toNat_natCast, upF_2] at *; omega)) (by first | omega | exact (hg.2 _ _ _).2 | exact (hg.1 _).2 | (simp only [Int.toNat_natCast, upF_2] at *; omega)) (by first | omega | (simp only [Int.toNat_natCast, upF_2] at *; omega)) ?_
    refine w_aload_n rfl rfl ?_
    refine m_get rfl rfl ?_
    refine w_iload_n rfl rfl ?_
    refine w_iconst rfl ?_
    refine m_iastore rfl rl_32 (by first | omega | (simp only [Int.toNat_natCast, upF_2] at *; omega)) (by first | omega | (simp only [Int.toNat_natCast, upF_2] at *; omega)) ?_
    refine w_aload_n rfl rfl ?_
    refine m_get rfl rfl ?_
    refine w_iload_n rfl rfl ?_
    refine w_iconst rfl ?_
    refine m_zastore rfl rl_38 (by first | omega | (simp only [Int.toNat_natCast, upF_2] at *; omega)) (by first | omega | (simp only [Int.toNat_natCast, upF_2] at *; omega)) (by first | omega | (simp only [Int.toNat_natCast, upF_2] at *; omega)) ?_
    refine w_aload_n rfl rfl ?_
    refine m_get rfl rfl ?_
    refine w_iload_n rfl rfl ?_
    refine w_iconst rfl ?_
    refine m_iastore rfl rl_37 (by first | omega | (simp only [Int.toNat_natCast, upF_2] at *; omega)) (by first | omega | (simp only [Int.toNat_natCast, upF_2] at *; omega)) ?_
    refine w_iinc rfl rfl (by decide) ?_
    refine w_goto rfl ?_
    simp only [Int.toNat_natCast]
    refine ih (k + 1) (upA (upA (upA τ 32 0 k 0) 38 0 k 0) 37 0 k 0) (by omega) ⟨fun j r i hj => ?_, i2, ((hg.upA 32 0 k (by decide) (by decide)).upA 38 0 k (by decide) (by decide)).upA 37 0 k (by decide) (by decide), fun n hn => ?_⟩
    · rw [upA_ne (by omega), upA_ne (by omega), upA_ne (by omega)]
      exact i1 j r i hj
    · by_cases q : n = k
      · subst q
        refine ⟨?_, ?_⟩
        · rw [upA_ne (by omega), upA_ne (by omega), upA_eq]
        · rw [upA_ne (by omega), upA_eq]
      · rw [upA_ne (by omega), upA_ne (by omega), upA_ne (by omega), upA_ne (by omega), upA_ne (by omega), upA_ne (by omega)]
        exact i4 n (by omega)
set_option maxRecDepth 50000 in
theorem r_rs_up (hb : b < m0) {Q : AH → RO → Prop} (d : Nat) {τ : RS} (hg : Rg τ) {k0 wh : Int} {s E : Nat} (hS : SameX σ τ) (hE : E ≤ 100) (hs : s ≤ 100) (hbs : ∀ e : Nat, e < E → σ.2 12 0 e < e ∧ -1 ≤ σ.2 12 0 e) {f : Int} (kk : Wp b L xs d mi_137 193 [some (.ref m0), some (vI k0), some (vI wh), some (vI s), some (vI f), some (vI s)] [] (RH m0 h τ) Q) : ∀ (m i : Nat) (k : Int), i + m = s → (∀ j, j ≤ m → 0 ≤ bsN σ j k ∧ bsN σ j k < E) → bsN σ m k = f → Wp b L xs d mi_137 172 [some (.ref m0), some (vI k0), some (vI wh), some (vI s), some (vI k), some (vI i)] [] (RH m0 h τ) Q := by
  intro m
  induction m with
  | zero =>
    intro i k hi hj hf
    obtain rfl : i = s := hi
    obtain rfl : k = f := hf
    refine w_iload rfl rfl ?_
    refine w_iload_n rfl rfl ?_
    refine w_icge_t rfl (by first | omega | exact (hg.2 _ _ _).1 | exact (hg.1 _).1 | (simp only [Int.toNat_natCast, upF_2] at *; omega)) (by first | omega | exact (hg.2 _ _ _).2 | exact (hg.1 _).2 | (simp only [Int.toNat_natCast, upF_2] at *; omega)) (by first | omega | exact (hg.2 _ _ _).1 | exact (hg.1 _).1 | (simp only [Int.toNat_natCast, upF_2] at *; omega)) (by first | omega | exact (hg.2 _ _ _).2 | exact (hg.1 _).2 | (simp only [Int.toNat_natCast, upF_2] at *; omega)) (by first | omega | (simp only [Int.toNat_natCast, upF_2] at *; omega)) ?_
    exact kk
  | succ m ih =>
    intro i k hi hj hf
    have h0 : 0 ≤ k ∧ k < E := hj 0 (by omega)
    refine w_iload rfl rfl ?_
    refine w_iload_n rfl rfl ?_
    refine w_icge_f rfl (by first | omega | exact (hg.2 _ _ _).1 | exact (hg.1 _).1 | (simp only [Int.toNat_natCast, upF_2] at *; omega)) (by first | omega | exact (hg.2 _ _ _).2 | exact (hg.1 _).2 | (simp only [Int.toNat_natCast, upF_2] at *; omega)) (by first | omega | exact (hg.2 _ _ _).1 | exact (hg.1 _).1 | (simp only [Int.toNat_natCast, upF_2] at *; omega)) (by first | omega | exact (hg.2 _ _ _).2 | exact (hg.1 _).2 | (simp only [Int.toNat_natCast, upF_2] at *; omega)) (by first | omega | (simp only [Int.toNat_natCast, upF_2] at *; omega)) ?_
    refine w_aload_n rfl rfl ?_
    refine m_get rfl rfl ?_
    refine w_iload rfl rfl ?_
    refine m_iaload rfl hb rl_12 (by first | omega | (simp only [Int.toNat_natCast, upF_2] at *; omega)) (by first | omega | (simp only [Int.toNat_natCast, upF_2] at *; omega)) ?_
    refine w_istore rfl (by decide) ?_
    refine w_iinc rfl rfl (by decide) ?_
    refine w_goto rfl ?_
    rw [hS 12 0 _ (by decide)]
    exact ih (i + 1) (σ.2 12 0 k.toNat) (by omega) (fun j h1 => hj (j + 1) (by omega)) hf
set_option maxRecDepth 50000 in
theorem r_rs_c (hb : b < m0) {Q : AH → RO → Prop} (d : Nat) (hd : 4 ≤ d) {k0 : Int} {wh : Int} {E : Nat} {Z : YS} {rz : Int} (hE : EntOk σ) (hE2 : E ≤ 100) (hD : DumpsOk σ E) (hs : ∀ i, σ.2 30 0 i = 0 ∨ σ.2 30 0 i = 1) (kk : ∀ (τ : RS) (u4 u5 : Option Value), OInv σ τ Z rz → Wp b L xs d mi_137 205 [some (.ref m0), some (vI k0), some (vI wh), some (vI (-1)), u4, u5] [] (RH m0 h τ) Q) : ∀ (m : Nat) (τ : RS) (Y : YS) (rd : Int) (u4 u5 : Option Value), m ≤ 100 → (∀ j, j < m → 0 ≤ bsN σ j k0 ∧ bsN σ j k0 < E) → 0 ≤ rd → rd + 4000 * m ≤ 400000 → yst σ k0 m Y = Z → rd + rdS σ k0 m = rz → OInv σ τ Y rd → Wp b L xs d mi_137 162 [some (.ref m0), some (vI k0), some (vI wh), some (vI ((m : Int) - 1)), u4, u5] [] (RH m0 h τ) Q := by
  intro m
  induction m with
  | zero =>
    intro τ Y rd u4 u5 hm hj h1 h2 hY hrd hO
    obtain rfl : Y = Z := hY
    obtain rfl : rd = rz := by
      have hrd : rd + 0 = rz := hrd
      omega
    refine w_iload_n rfl rfl ?_
    refine w_iflt_t rfl (by first | omega | exact (hg.2 _ _ _).1 | exact (hg.1 _).1 | (simp only [Int.toNat_natCast, upF_2] at *; omega)) (by first | omega | exact (hg.2 _ _ _).2 | exact (hg.1 _).2 | (simp only [Int.toNat_natCast, upF_2] at *; omega)) (by first | omega | (simp only [Int.toNat_natCast, upF_2] at *; omega)) ?_
    exact kk τ u4 u5 hO
  | succ m ih =>
    intro τ Y rd u4 u5 hm hj h1 h2 hY hrd hO
    have hY : yst σ k0 m (yone σ (bsN σ m k0).toNat Y) = Z := hY
    have hrd : rd + (rdN σ (bsN σ m k0).toNat + rdS σ k0 m) = rz := hrd
    rw [show ((m + 1 : Nat) : Int) - 1 = (m : Int) by omega]
    obtain ⟨s1, s2, s3, hg, s5⟩ := hO
    have hjm := hj m (by omega)
    obtain ⟨e, he⟩ := Int.eq_ofNat_of_zero_le hjm.1
    have hDe := hD e (by omega)
    obtain ⟨x1, x2, x3, x4⟩ := hDe
    have hrl := rd_le (ρ := σ) (e := e) x1.2.2.2.2.2.2.1 x3
    rw [he, Int.toNat_natCast] at hY hrd
    have hsp := sumC_pos (ρ := σ) (σ.2 14 0 (e + 1) - σ.2 14 0 e).toNat (σ.2 14 0 e).toNat (fun j a b => x1.2.2.2.2.2.2.2.2.2.2.2 j (by have := x1.2.2.2.2.2.2.2.1; omega) (by have := x1.2.2.2.2.2.2.2.1; have := x1.2.2.2.2.2.2.2.2.1; omega))
    have hnx : 0 ≤ nix σ e := Int.ediv_nonneg (by have := x1.2.2.2.2.2.2.2.2.1; omega) (by decide)
    have hbs : ∀ e : Nat, e < E → σ.2 12 0 e < e ∧ -1 ≤ σ.2 12 0 e := fun e he => ⟨(hD e he).1.2.2.2.2.2.1, (hD e he).1.2.2.2.2.1⟩
    refine w_iload_n rfl rfl ?_
    refine w_iflt_f rfl (by first | omega | exact (hg.2 _ _ _).1 | exact (hg.1 _).1 | (simp only [Int.toNat_natCast, upF_2] at *; omega)) (by first | omega | exact (hg.2 _ _ _).2 | exact (hg.1 _).2 | (simp only [Int.toNat_natCast, upF_2] at *; omega)) (by first | omega | (simp only [Int.toNat_natCast, upF_2] at *; omega)) ?_
    refine w_iload_n rfl rfl ?_
    refine w_istore rfl (by decide) ?_
    refine w_iconst rfl ?_
    refine w_istore rfl (by decide) ?_
    refine r_rs_up (σ := σ) hb d hg s1 hE2 (by omega) hbs (f := (e : Int)) ?_ m 0 k0 (Nat.zero_add _) (fun j h1 => hj j (by omega)) he
    refine w_aload_n rfl rfl ?_
    refine w_iload rfl rfl ?_
    refine w_cv rfl (by decide) (by first | omega | (simp only [Int.toNat_natCast, upF_2] at *; omega)) rfl RH_obj mt_139 (Nat.le_of_ble_eq_true rfl) (Nat.le_of_ble_eq_true rfl) (r_one (σ := τ) (Y := Y) hb (fun i => by rw [s1 25 0 i (by decide), s1 26 0 i (by decide)]; exact hE i) hg _ (by omega) (e := e) (by omega) (x1.keep s1) (fun n hn => by rw [s1 15 e n (by decide)]; exact x2 n hn) (fun i => by rw [s1 30 0 i (by decide)]; exact hs i) (by omega) (by omega) (by rw [s1 13 0 _ (by decide), s1 13 0 _ (by decide)]; omega) (by rw [s1 13 0 _ (by decide)]; omega) (by rw [s1 13 0 _ (by decide), s1 14 0 _ (by decide), s1 14 0 _ (by decide), nix_congr s1, sumC_congr s1]; omega) s5) ?_
    rintro _ _ ⟨rfl, ν, rfl, v1, v2, v3, v4, v5⟩
    refine ⟨none, rfl, ?_⟩
    refine w_iinc rfl rfl (by decide) ?_
    refine w_goto rfl ?_
    refine ih ν (yone σ e Y) (rd + rdN σ e) _ _ (by omega) (fun j h1 => hj j (by omega)) (by omega) (by omega) hY (by omega) ⟨fun j r i hj => (v1 j r i hj).trans (s1 j r i hj), fun i hi => (v2 i hi).trans (s2 i hi), ?_, v4, ?_⟩
    · rw [v3, s3, rdN_congr s1]
    · rw [← yone_congr s1]
      exact v5
set_option maxRecDepth 50000 in
theorem r_rs_d (hb : b < m0) {Y : YS} {Q : AH → RO → Prop} (d : Nat) {k0 wh : Int} {u4 u5 : Option Value} (hg : Rg σ) (hX : XInv σ Y) (kk : Wp b L xs d mi_137 244 [some (.ref m0), some (vI k0), some (vI wh), some (vI 256), u4, u5] [] (RH m0 h (upF σ 44 (lostN Y))) Q) : ∀ (m k c : Nat), k + m = 256 → c + cnt (fun n => (Y n).2 = true) k m = lostN Y → Wp b L xs d mi_137 212 [some (.ref m0), some (vI k0), some (vI wh), some (vI k), u4, u5] [] (RH m0 h (upF σ 44 (c : Int))) Q := by
  have hll : lostN Y ≤ 256 := cnt_le _ _ _
  intro m
  induction m with
  | zero =>
    intro k c hk hc
    obtain rfl : k = 256 := hk
    have hc2 : c + 0 = lostN Y := hc
    rw [Nat.add_zero] at hc2
    rw [hc2]
    refine w_iload_n rfl rfl ?_
    refine w_sipush rfl rfl ?_
    refine w_icge_t rfl (by first | omega | exact (hg.2 _ _ _).1 | exact (hg.1 _).1 | (simp only [Int.toNat_natCast, upF_2] at *; omega)) (by first | omega | exact (hg.2 _ _ _).2 | exact (hg.1 _).2 | (simp only [Int.toNat_natCast, upF_2] at *; omega)) (by first | omega | exact (hg.2 _ _ _).1 | exact (hg.1 _).1 | (simp only [Int.toNat_natCast, upF_2] at *; omega)) (by first | omega | exact (hg.2 _ _ _).2 | exact (hg.1 _).2 | (simp only [Int.toNat_natCast, upF_2] at *; omega)) (by first | omega | (simp only [Int.toNat_natCast, upF_2] at *; omega)) ?_
    exact kk
  | succ m ih =>
    intro k c hk hc
    have hc : c + ((if (Y k).2 = true then 1 else 0) + cnt (fun n => (Y n).2 = true) (k + 1) m) = lostN Y := hc
    have hx := (hX k (by omega)).1
    by_cases q : (Y k).2 = true
    · rw [if_pos q] at hc hx
      refine w_iload_n rfl rfl ?_
      refine w_sipush rfl rfl ?_
      refine w_icge_f rfl (by first | omega | exact (hg.2 _ _ _).1 | exact (hg.1 _).1 | (simp only [Int.toNat_natCast, upF_2] at *; omega)) (by first | omega | exact (hg.2 _ _ _).2 | exact (hg.1 _).2 | (simp only [Int.toNat_natCast, upF_2] at *; omega)) (by first | omega | exact (hg.2 _ _ _).1 | exact (hg.1 _).1 | (simp only [Int.toNat_natCast, upF_2] at *; omega)) (by first | omega | exact (hg.2 _ _ _).2 | exact (hg.1 _).2 | (simp only [Int.toNat_natCast, upF_2] at *; omega)) (by first | omega | (simp only [Int.toNat_natCast, upF_2] at *; omega)) ?_
      refine w_aload_n rfl rfl ?_
      refine m_get rfl rfl ?_
      refine w_iload_n rfl rfl ?_
      refine m_zaload rfl rl_38 (by first | omega | (simp only [Int.toNat_natCast, upF_2] at *; omega)) (by first | omega | (simp only [Int.toNat_natCast, upF_2] at *; omega)) ?_
      rw [show (upF σ 44 (c : Int)).2 38 0 (k : Int).toNat = σ.2 38 0 k from rfl, hx]
      refine w_ifeq_f rfl (by first | omega | exact (hg.2 _ _ _).1 | exact (hg.1 _).1 | (simp only [Int.toNat_natCast, upF_2] at *; omega)) (by first | omega | exact (hg.2 _ _ _).2 | exact (hg.1 _).2 | (simp only [Int.toNat_natCast, upF_2] at *; omega)) (by first | omega | (simp only [Int.toNat_natCast, upF_2] at *; omega)) ?_
      refine w_aload_n rfl rfl ?_
      refine w_dupR rfl ?_
      refine m_get rfl rfl ?_
      rw [show (upF σ 44 (c : Int)).1 44 = (c : Int) from rfl]
      refine w_iconst rfl ?_
      refine w_iadd rfl ?_
      refine m_put rfl rfl rfl rfl ?_
      rw [upF_upF]
      refine w_iinc rfl rfl (by decide) ?_
      refine w_goto rfl ?_
      exact ih (k + 1) (c + 1) (by omega) (by omega)
    · rw [if_neg q] at hc hx
      refine w_iload_n rfl rfl ?_
      refine w_sipush rfl rfl ?_
      refine w_icge_f rfl (by first | omega | exact (hg.2 _ _ _).1 | exact (hg.1 _).1 | (simp only [Int.toNat_natCast, upF_2] at *; omega)) (by first | omega | exact (hg.2 _ _ _).2 | exact (hg.1 _).2 | (simp only [Int.toNat_natCast, upF_2] at *; omega)) (by first | omega | exact (hg.2 _ _ _).1 | exact (hg.1 _).1 | (simp only [Int.toNat_natCast, upF_2] at *; omega)) (by first | omega | exact (hg.2 _ _ _).2 | exact (hg.1 _).2 | (simp only [Int.toNat_natCast, upF_2] at *; omega)) (by first | omega | (simp only [Int.toNat_natCast, upF_2] at *; omega)) ?_
      refine w_aload_n rfl rfl ?_
      refine m_get rfl rfl ?_
      refine w_iload_n rfl rfl ?_
      refine m_zaload rfl rl_38 (by first | omega | (simp only [Int.toNat_natCast, upF_2] at *; omega)) (by first | omega | (simp only [Int.toNat_natCast, upF_2] at *; omega)) ?_
      rw [show (upF σ 44 (c : Int)).2 38 0 (k : Int).toNat = σ.2 38 0 k from rfl, hx]
      refine w_ifeq_t rfl (by first | omega | exact (hg.2 _ _ _).1 | exact (hg.1 _).1 | (simp only [Int.toNat_natCast, upF_2] at *; omega)) (by first | omega | exact (hg.2 _ _ _).2 | exact (hg.1 _).2 | (simp only [Int.toNat_natCast, upF_2] at *; omega)) (by first | omega | (simp only [Int.toNat_natCast, upF_2] at *; omega)) ?_
      refine w_iinc rfl rfl (by decide) ?_
      refine w_goto rfl ?_
      exact ih (k + 1) c (by omega) (by omega)
set_option maxRecDepth 50000 in
theorem r_rest_2 (hb : b < m0) (hg : Rg ρ) (d : Nat) (hd : 4 ≤ d) {k0 : Int} {E c : Nat} (hEq : ρ.1 16 = (E : Int)) (hE2 : E ≤ 100) (k1 : 0 ≤ k0) (k2 : k0 < E) (hD : DumpsOk ρ E) (hs : ∀ i, ρ.2 30 0 i = 0 ∨ ρ.2 30 0 i = 1) (hc : c ≤ 100) (hb1 : ∀ s, s < c → 0 ≤ bsN ρ s k0) (hb2 : bsN ρ c k0 < 0) (hw : ¬ whl ρ c k0) : Wp b L xs d mi_137 0 (ent (mL mi_137) [.ref m0, vI k0]) [] (RH m0 h ρ) (fun h' o => ∃ τ, h' = RH m0 h τ ∧ Rg τ ∧ SameX ρ τ ∧ (∀ i, i ≠ 0 → i ≠ 42 → i ≠ 43 → i ≠ 44 → i ≠ 45 → τ.1 i = ρ.1 i) ∧ τ.1 0 = 0 ∧ τ.1 43 = (c : Int) ∧ τ.1 42 = 0 ∧ τ.1 44 = 0 ∧ τ.1 45 = 0 ∧ o = .inl (some (vI 2))) := by
  have bse : ∀ (x : Nat → Int) (i : Nat) (k : Int), bsN (x, ρ.2) i k = bsN ρ i k := by
    intro x i
    induction i with
    | zero => intro k; rfl
    | succ i ih => intro k; exact ih _
  have wle : ∀ (x : Nat → Int) (i : Nat) (k : Int), whl (x, ρ.2) i k ↔ whl ρ i k := by
    intro x i
    induction i with
    | zero => intro k; exact Iff.rfl
    | succ i ih => intro k; exact and_congr Iff.rfl (ih _)
  have hD0 : DumpsOk (upF (upF (upF (upF (upF ρ 0 0) 42 0) 43 0) 44 0) 45 0) E := DumpsOk_2 (ρ := ρ) (ρ' := upF (upF (upF (upF (upF ρ 0 0) 42 0) 43 0) 44 0) 45 0) rfl hD
  have hgR : Rg (upF (upF (upF (upF (upF ρ 0 0) 42 0) 43 0) 44 0) 45 0) := ((((hg.upF 0 (by decide) (by decide)).upF 42 (by decide) (by decide)).upF 43 (by decide) (by decide)).upF 44 (by decide) (by decide)).upF 45 (by decide) (by decide)
  have h43 : upF (upF (upF (upF (upF (upF ρ 0 0) 42 0) 43 0) 44 0) 45 0) 43 0 = upF (upF (upF (upF (upF ρ 0 0) 42 0) 43 0) 44 0) 45 0 := by
    apply Prod.ext
    · funext i
      show (if i = 43 then (0 : Int) else if i = 45 then 0 else if i = 44 then 0 else if i = 43 then 0 else _) = (if i = 45 then (0 : Int) else if i = 44 then 0 else if i = 43 then 0 else _)
      by_cases q : i = 43
      · subst q; rfl
      · rw [if_neg q]
    · rfl
  refine w_aload_n rfl rfl ?_
  refine w_iload_n rfl rfl ?_
  refine w_iflt_f rfl (by first | omega | exact (hg.2 _ _ _).1 | exact (hg.1 _).1 | (simp only [Int.toNat_natCast, upF_2] at *; omega)) (by first | omega | exact (hg.2 _ _ _).2 | exact (hg.1 _).2 | (simp only [Int.toNat_natCast, upF_2] at *; omega)) (by first | omega | (simp only [Int.toNat_natCast, upF_2] at *; omega)) ?_
  refine w_iload_n rfl rfl ?_
  refine w_aload_n rfl rfl ?_
  refine m_get rfl rfl ?_
  rw [hEq]
  refine w_iclt_t rfl (by first | omega | exact (hg.2 _ _ _).1 | exact (hg.1 _).1 | (simp only [Int.toNat_natCast, upF_2] at *; omega)) (by first | omega | exact (hg.2 _ _ _).2 | exact (hg.1 _).2 | (simp only [Int.toNat_natCast, upF_2] at *; omega)) (by first | omega | exact (hg.2 _ _ _).1 | exact (hg.1 _).1 | (simp only [Int.toNat_natCast, upF_2] at *; omega)) (by first | omega | exact (hg.2 _ _ _).2 | exact (hg.1 _).2 | (simp only [Int.toNat_natCast, upF_2] at *; omega)) (by first | omega | (simp only [Int.toNat_natCast, upF_2] at *; omega)) ?_
  refine w_iconst rfl ?_
  refine w_iconst rfl ?_
  refine w_cvV rfl (by decide) (by first | omega | (simp only [Int.toNat_natCast, upF_2] at *; omega)) rfl RH_obj mt_112 (Nat.le_of_ble_eq_true rfl) (Nat.le_of_ble_eq_true rfl) (r_fails0 hb (by assumption) _) ?_
  refine w_ifeq_t rfl (by first | omega | exact (hg.2 _ _ _).1 | exact (hg.1 _).1 | (simp only [Int.toNat_natCast, upF_2] at *; omega)) (by first | omega | exact (hg.2 _ _ _).2 | exact (hg.1 _).2 | (simp only [Int.toNat_natCast, upF_2] at *; omega)) (by first | omega | (simp only [Int.toNat_natCast, upF_2] at *; omega)) ?_
  refine w_aload_n rfl rfl ?_
  refine w_iconst rfl ?_
  refine m_put rfl rfl rfl rfl ?_
  refine w_aload_n rfl rfl ?_
  refine w_iconst rfl ?_
  refine m_put rfl rfl rfl rfl ?_
  refine w_aload_n rfl rfl ?_
  refine w_iconst rfl ?_
  refine m_put rfl rfl rfl rfl ?_
  refine w_aload_n rfl rfl ?_
  refine w_iconst rfl ?_
  refine m_put rfl rfl rfl rfl ?_
  refine w_iconst rfl ?_
  refine w_istore_n rfl (by decide) ?_
  refine w_iload_n rfl rfl ?_
  refine w_istore_n rfl (by decide) ?_
  suffices kk : ∀ (k : Int) (u4 : Option Value), k < 0 → -1 ≤ k → Wp b L xs d mi_137 113 [some (.ref m0), some (vI k0), some (vI 0), some (vI k), u4, none] [] (RH m0 h (upF (upF (upF (upF (upF (upF ρ 0 0) 42 0) 43 0) 44 0) 45 0) 43 c)) (fun h' o => ∃ τ, h' = RH m0 h τ ∧ Rg τ ∧ SameX ρ τ ∧ (∀ i, i ≠ 0 → i ≠ 42 → i ≠ 43 → i ≠ 44 → i ≠ 45 → τ.1 i = ρ.1 i) ∧ τ.1 0 = 0 ∧ τ.1 43 = (c : Int) ∧ τ.1 42 = 0 ∧ τ.1 44 = 0 ∧ τ.1 45 = 0 ∧ o = .inl (some (vI 2))) by
    have lp := r_rs_a (L := L) (xs := xs) (h := h) (σ := upF (upF (upF (upF (upF ρ 0 0) 42 0) 43 0) 44 0) 45 0) hb hgR d hd (k0 := k0) (Q := (fun h' o => ∃ τ, h' = RH m0 h τ ∧ Rg τ ∧ SameX ρ τ ∧ (∀ i, i ≠ 0 → i ≠ 42 → i ≠ 43 → i ≠ 44 → i ≠ 45 → τ.1 i = ρ.1 i) ∧ τ.1 0 = 0 ∧ τ.1 43 = (c : Int) ∧ τ.1 42 = 0 ∧ τ.1 44 = 0 ∧ τ.1 45 = 0 ∧ o = .inl (some (vI 2)))) (fin := 0) hE2 hD0 hs hc kk c 0 k0 1 none (Nat.zero_add _) k2 (by omega) (fun s h1 => by rw [show bsN (upF (upF (upF (upF (upF ρ 0 0) 42 0) 43 0) 44 0) 45 0) s k0 = bsN ρ s k0 from bse _ _ _]; exact hb1 s h1) (by rw [show bsN (upF (upF (upF (upF (upF ρ 0 0) 42 0) 43 0) 44 0) 45 0) c k0 = bsN ρ c k0 from bse _ _ _]; exact hb2) (Or.inr ⟨fun z => hw ((wle _ _ _).mp z), rfl⟩)
    rw [show ((0 : Nat) : Int) = 0 from rfl, h43] at lp
    exact lp
  intro kx u4 kx1 kx2
  refine w_iload_n rfl rfl ?_
  refine w_ifne_f rfl (by first | omega | exact (hg.2 _ _ _).1 | exact (hg.1 _).1 | (simp only [Int.toNat_natCast, upF_2] at *; omega)) (by first | omega | exact (hg.2 _ _ _).2 | exact (hg.1 _).2 | (simp only [Int.toNat_natCast, upF_2] at *; omega)) (by first | omega | (simp only [Int.toNat_natCast, upF_2] at *; omega)) ?_
  refine w_iconst rfl ?_
  refine w_ireturn rfl rfl ?_
  refine ⟨_, rfl, hgR.upF 43 (by omega) (by omega), fun _ _ _ _ => rfl, fun i i0 i1 i2 i3 i4 => ?_, rfl, rfl, rfl, rfl, rfl, rfl⟩
  show (if i = 43 then (c : Int) else if i = 45 then 0 else if i = 44 then 0 else if i = 43 then 0 else if i = 42 then 0 else if i = 0 then 0 else ρ.1 i) = _
  rw [if_neg i2, if_neg i4, if_neg i3, if_neg i2, if_neg i1, if_neg i0]
set_option maxRecDepth 50000 in
theorem r_rest (hb : b < m0) (hg : Rg ρ) (d : Nat) (hd : 4 ≤ d) {k0 : Int} {E c : Nat} (hEq : ρ.1 16 = (E : Int)) (hE2 : E ≤ 100) (k1 : 0 ≤ k0) (k2 : k0 < E) (hD : DumpsOk ρ E) (hs : ∀ i, ρ.2 30 0 i = 0 ∨ ρ.2 30 0 i = 1) (hc : c ≤ 100) (hb1 : ∀ s, s < c → 0 ≤ bsN ρ s k0) (hb2 : bsN ρ c k0 < 0) (hE : EntOk ρ) (hw : whl ρ c k0) : Wp b L xs d mi_137 0 (ent (mL mi_137) [.ref m0, vI k0]) [] (RH m0 h ρ) (fun h' o => ∃ τ, h' = RH m0 h τ ∧ Rg τ ∧ SameX ρ τ ∧ (∀ i, i ≠ 0 → i ≠ 42 → i ≠ 43 → i ≠ 44 → i ≠ 45 → τ.1 i = ρ.1 i) ∧ τ.1 0 = 0 ∧ τ.1 43 = (c : Int) ∧ τ.1 42 = 1 ∧ τ.1 44 = (lostN (yst ρ k0 c (fun _ => yNo)) : Int) ∧ τ.1 45 = rdS ρ k0 c ∧ XInv τ (yst ρ k0 c (fun _ => yNo)) ∧ o = .inl (some (vI (if 0 < lostN (yst ρ k0 c (fun _ => yNo)) then 1 else 0)))) := by
  have bse : ∀ (x : Nat → Int) (i : Nat) (k : Int), bsN (x, ρ.2) i k = bsN ρ i k := by
    intro x i
    induction i with
    | zero => intro k; rfl
    | succ i ih => intro k; exact ih _
  have wle : ∀ (x : Nat → Int) (i : Nat) (k : Int), whl (x, ρ.2) i k ↔ whl ρ i k := by
    intro x i
    induction i with
    | zero => intro k; exact Iff.rfl
    | succ i ih => intro k; exact and_congr Iff.rfl (ih _)
  have hD0 : DumpsOk (upF (upF (upF (upF (upF ρ 0 0) 42 0) 43 0) 44 0) 45 0) E := DumpsOk_2 (ρ := ρ) (ρ' := upF (upF (upF (upF (upF ρ 0 0) 42 0) 43 0) 44 0) 45 0) rfl hD
  have hgR : Rg (upF (upF (upF (upF (upF ρ 0 0) 42 0) 43 0) 44 0) 45 0) := ((((hg.upF 0 (by decide) (by decide)).upF 42 (by decide) (by decide)).upF 43 (by decide) (by decide)).upF 44 (by decide) (by decide)).upF 45 (by decide) (by decide)
  have h43 : upF (upF (upF (upF (upF (upF ρ 0 0) 42 0) 43 0) 44 0) 45 0) 43 0 = upF (upF (upF (upF (upF ρ 0 0) 42 0) 43 0) 44 0) 45 0 := by
    apply Prod.ext
    · funext i
      show (if i = 43 then (0 : Int) else if i = 45 then 0 else if i = 44 then 0 else if i = 43 then 0 else _) = (if i = 45 then (0 : Int) else if i = 44 then 0 else if i = 43 then 0 else _)
      by_cases q : i = 43
      · subst q; rfl
      · rw [if_neg q]
    · rfl
  refine w_aload_n rfl rfl ?_
  refine w_iload_n rfl rfl ?_
  refine w_iflt_f rfl (by first | omega | exact (hg.2 _ _ _).1 | exact (hg.1 _).1 | (simp only [Int.toNat_natCast, upF_2] at *; omega)) (by first | omega | exact (hg.2 _ _ _).2 | exact (hg.1 _).2 | (simp only [Int.toNat_natCast, upF_2] at *; omega)) (by first | omega | (simp only [Int.toNat_natCast, upF_2] at *; omega)) ?_
  refine w_iload_n rfl rfl ?_
  refine w_aload_n rfl rfl ?_
  refine m_get rfl rfl ?_
  rw [hEq]
  refine w_iclt_t rfl (by first | omega | exact (hg.2 _ _ _).1 | exact (hg.1 _).1 | (simp only [Int.toNat_natCast, upF_2] at *; omega)) (by first | omega | exact (hg.2 _ _ _).2 | exact (hg.1 _).2 | (simp only [Int.toNat_natCast, upF_2] at *; omega)) (by first | omega | exact (hg.2 _ _ _).1 | exact (hg.1 _).1 | (simp only [Int.toNat_natCast, upF_2] at *; omega)) (by first | omega | exact (hg.2 _ _ _).2 | exact (hg.1 _).2 | (simp only [Int.toNat_natCast, upF_2] at *; omega)) (by first | omega | (simp only [Int.toNat_natCast, upF_2] at *; omega)) ?_
  refine w_iconst rfl ?_
  refine w_iconst rfl ?_
  refine w_cvV rfl (by decide) (by first | omega | (simp only [Int.toNat_natCast, upF_2] at *; omega)) rfl RH_obj mt_112 (Nat.le_of_ble_eq_true rfl) (Nat.le_of_ble_eq_true rfl) (r_fails0 hb (by assumption) _) ?_
  refine w_ifeq_t rfl (by first | omega | exact (hg.2 _ _ _).1 | exact (hg.1 _).1 | (simp only [Int.toNat_natCast, upF_2] at *; omega)) (by first | omega | exact (hg.2 _ _ _).2 | exact (hg.1 _).2 | (simp only [Int.toNat_natCast, upF_2] at *; omega)) (by first | omega | (simp only [Int.toNat_natCast, upF_2] at *; omega)) ?_
  refine w_aload_n rfl rfl ?_
  refine w_iconst rfl ?_
  refine m_put rfl rfl rfl rfl ?_
  refine w_aload_n rfl rfl ?_
  refine w_iconst rfl ?_
  refine m_put rfl rfl rfl rfl ?_
  refine w_aload_n rfl rfl ?_
  refine w_iconst rfl ?_
  refine m_put rfl rfl rfl rfl ?_
  refine w_aload_n rfl rfl ?_
  refine w_iconst rfl ?_
  refine m_put rfl rfl rfl rfl ?_
  refine w_iconst rfl ?_
  refine w_istore_n rfl (by decide) ?_
  refine w_iload_n rfl rfl ?_
  refine w_istore_n rfl (by decide) ?_
  suffices kk : ∀ (k : Int) (u4 : Option Value), k < 0 → -1 ≤ k → Wp b L xs d mi_137 113 [some (.ref m0), some (vI k0), some (vI 1), some (vI k), u4, none] [] (RH m0 h (upF (upF (upF (upF (upF (upF ρ 0 0) 42 0) 43 0) 44 0) 45 0) 43 c)) (fun h' o => ∃ τ, h' = RH m0 h τ ∧ Rg τ ∧ SameX ρ τ ∧ (∀ i, i ≠ 0 → i ≠ 42 → i ≠ 43 → i ≠ 44 → i ≠ 45 → τ.1 i = ρ.1 i) ∧ τ.1 0 = 0 ∧ τ.1 43 = (c : Int) ∧ τ.1 42 = 1 ∧ τ.1 44 = (lostN (yst ρ k0 c (fun _ => yNo)) : Int) ∧ τ.1 45 = rdS ρ k0 c ∧ XInv τ (yst ρ k0 c (fun _ => yNo)) ∧ o = .inl (some (vI (if 0 < lostN (yst ρ k0 c (fun _ => yNo)) then 1 else 0)))) by
    have lp := r_rs_a (L := L) (xs := xs) (h := h) (σ := upF (upF (upF (upF (upF ρ 0 0) 42 0) 43 0) 44 0) 45 0) hb hgR d hd (k0 := k0) (Q := (fun h' o => ∃ τ, h' = RH m0 h τ ∧ Rg τ ∧ SameX ρ τ ∧ (∀ i, i ≠ 0 → i ≠ 42 → i ≠ 43 → i ≠ 44 → i ≠ 45 → τ.1 i = ρ.1 i) ∧ τ.1 0 = 0 ∧ τ.1 43 = (c : Int) ∧ τ.1 42 = 1 ∧ τ.1 44 = (lostN (yst ρ k0 c (fun _ => yNo)) : Int) ∧ τ.1 45 = rdS ρ k0 c ∧ XInv τ (yst ρ k0 c (fun _ => yNo)) ∧ o = .inl (some (vI (if 0 < lostN (yst ρ k0 c (fun _ => yNo)) then 1 else 0))))) (fin := 1) hE2 hD0 hs hc kk c 0 k0 1 none (Nat.zero_add _) k2 (by omega) (fun s h1 => by rw [show bsN (upF (upF (upF (upF (upF ρ 0 0) 42 0) 43 0) 44 0) 45 0) s k0 = bsN ρ s k0 from bse _ _ _]; exact hb1 s h1) (by rw [show bsN (upF (upF (upF (upF (upF ρ 0 0) 42 0) 43 0) 44 0) 45 0) c k0 = bsN ρ c k0 from bse _ _ _]; exact hb2) (Or.inl ⟨(wle _ _ _).mpr hw, rfl⟩)
    rw [show ((0 : Nat) : Int) = 0 from rfl, h43] at lp
    exact lp
  intro kx u4 kx1 kx2
  have hg1 : Rg (upF (upF (upF (upF (upF (upF ρ 0 0) 42 0) 43 0) 44 0) 45 0) 43 c) := hgR.upF 43 (by omega) (by omega)
  have hS1 : SameX ρ (upF (upF (upF (upF (upF (upF ρ 0 0) 42 0) 43 0) 44 0) 45 0) 43 c) := fun _ _ _ _ => rfl
  have hD1 : DumpsOk (upF (upF (upF (upF (upF (upF ρ 0 0) 42 0) 43 0) 44 0) 45 0) 43 c) E := DumpsOk_2 (ρ := ρ) (ρ' := upF (upF (upF (upF (upF (upF ρ 0 0) 42 0) 43 0) 44 0) 45 0) 43 c) rfl hD
  have hst : ∀ (x : Nat → Int) (m : Nat) (Y : YS), yst (x, ρ.2) k0 m Y = yst ρ k0 m Y := by
    intro x m
    induction m with
    | zero => intro Y; rfl
    | succ m ih =>
      intro Y
      show yst (x, ρ.2) k0 m (yone (x, ρ.2) (bsN (x, ρ.2) m k0).toNat Y) = yst ρ k0 m (yone ρ (bsN ρ m k0).toNat Y)
      rw [bse, ih, yone_congr (σ := ρ) (τ := (x, ρ.2)) (fun _ _ _ _ => rfl)]
  have hrs : ∀ (x : Nat → Int) (m : Nat), rdS (x, ρ.2) k0 m = rdS ρ k0 m := by
    intro x m
    induction m with
    | zero => rfl
    | succ m ih =>
      show ((rdN (x, ρ.2) (bsN (x, ρ.2) m k0).toNat : Nat) : Int) + rdS (x, ρ.2) k0 m = (rdN ρ (bsN ρ m k0).toNat : Int) + rdS ρ k0 m
      rw [bse, ih, rdN_congr (σ := ρ) (τ := (x, ρ.2)) (fun _ _ _ _ => rfl)]
  have hbd : ∀ j, j < c → 0 ≤ bsN ρ j k0 ∧ bsN ρ j k0 < E := by
    intro j
    induction j with
    | zero => intro _; exact ⟨k1, k2⟩
    | succ j ih =>
      intro hj
      have h1 := ih (by omega)
      have h2 := hb1 (j + 1) hj
      rw [bsN_succ] at h2 ⊢
      have h3 := (hD (bsN ρ j k0).toNat (by omega)).1.2.2.2.2.2.1
      omega
  refine w_iload_n rfl rfl ?_
  refine w_ifne_t rfl (by first | omega | exact (hg.2 _ _ _).1 | exact (hg.1 _).1 | (simp only [Int.toNat_natCast, upF_2] at *; omega)) (by first | omega | exact (hg.2 _ _ _).2 | exact (hg.1 _).2 | (simp only [Int.toNat_natCast, upF_2] at *; omega)) (by first | omega | (simp only [Int.toNat_natCast, upF_2] at *; omega)) ?_
  refine w_iconst rfl ?_
  refine w_istore_n rfl (by decide) ?_
  refine r_rs_b (σ := upF (upF (upF (upF (upF (upF ρ 0 0) 42 0) 43 0) 44 0) 45 0) 43 c) d ?_ 256 0 (upF (upF (upF (upF (upF (upF ρ 0 0) 42 0) 43 0) 44 0) 45 0) 43 c) rfl ⟨fun _ _ _ _ => rfl, rfl, hg1, fun n hn => absurd hn (Nat.not_lt_zero n)⟩
  intro τ hP
  obtain ⟨p1, p2, p3, p4⟩ := hP
  refine w_aload_n rfl rfl ?_
  refine m_get rfl rfl ?_
  rw [show τ.1 43 = (c : Int) from by rw [p2]; rfl]
  refine w_iconst rfl ?_
  refine w_isub rfl ?_
  refine w_istore_n rfl (by decide) ?_
  refine r_rs_c (σ := upF (upF (upF (upF (upF (upF ρ 0 0) 42 0) 43 0) 44 0) 45 0) 43 c) hb d hd hE hE2 hD1 hs (Z := yst ρ k0 c (fun _ => yNo)) (rz := rdS ρ k0 c) ?_ c τ (fun _ => yNo) 0 _ _ hc (fun j hj => by rw [show bsN (upF (upF (upF (upF (upF (upF ρ 0 0) 42 0) 43 0) 44 0) 45 0) 43 c) j k0 = bsN ρ j k0 from bse _ _ _]; exact hbd j hj) (by decide) (by omega) (hst _ _ _) (by rw [Int.zero_add]; exact hrs _ _) ⟨p1, fun i _ => by rw [p2], by rw [p2]; rfl, p3, fun n hn => ⟨(p4 n hn).2, (p4 n hn).1⟩⟩
  intro ν u4 u5 hO
  obtain ⟨s1, s2, s3, s4, s5⟩ := hO
  refine w_aload_n rfl rfl ?_
  refine w_iconst rfl ?_
  refine m_put rfl rfl rfl rfl ?_
  refine w_iconst rfl ?_
  refine w_istore_n rfl (by decide) ?_
  have h44 : upF (upF ν 42 1) 44 ((0 : Nat) : Int) = upF ν 42 1 := by
    apply Prod.ext
    · funext i
      show (if i = 44 then ((0 : Nat) : Int) else if i = 42 then 1 else ν.1 i) = (if i = 42 then 1 else ν.1 i)
      by_cases q : i = 44
      · subst q
        rw [if_pos rfl, if_neg (by decide), s2 44 (by decide)]
        rfl
      · rw [if_neg q]
    · rfl
  suffices kk : Wp b L xs d mi_137 244 [some (.ref m0), some (vI k0), some (vI 1), some (vI 256), u4, u5] [] (RH m0 h (upF (upF ν 42 1) 44 (lostN (yst ρ k0 c (fun _ => yNo)) : Int))) (fun h' o => ∃ τ, h' = RH m0 h τ ∧ Rg τ ∧ SameX ρ τ ∧ (∀ i, i ≠ 0 → i ≠ 42 → i ≠ 43 → i ≠ 44 → i ≠ 45 → τ.1 i = ρ.1 i) ∧ τ.1 0 = 0 ∧ τ.1 43 = (c : Int) ∧ τ.1 42 = 1 ∧ τ.1 44 = (lostN (yst ρ k0 c (fun _ => yNo)) : Int) ∧ τ.1 45 = rdS ρ k0 c ∧ XInv τ (yst ρ k0 c (fun _ => yNo)) ∧ o = .inl (some (vI (if 0 < lostN (yst ρ k0 c (fun _ => yNo)) then 1 else 0)))) by
    have lp := r_rs_d (L := L) (xs := xs) (h := h) (σ := upF ν 42 1) hb d (s4.upF 42 (by decide) (by decide)) s5 kk 256 0 0 rfl (Nat.zero_add _)
    rw [h44] at lp
    exact lp
  have hll : lostN (yst ρ k0 c (fun _ => yNo)) ≤ 256 := cnt_le _ _ _
  have hgF : Rg (upF (upF ν 42 1) 44 (lostN (yst ρ k0 c (fun _ => yNo)) : Int)) := (s4.upF 42 (by decide) (by decide)).upF 44 (by omega) (by omega)
  have hfin : ∀ i, i ≠ 0 → i ≠ 42 → i ≠ 43 → i ≠ 44 → i ≠ 45 → (upF (upF ν 42 1) 44 (lostN (yst ρ k0 c (fun _ => yNo)) : Int)).1 i = ρ.1 i := by
    intro i i0 i1 i2 i3 i4
    show (if i = 44 then _ else if i = 42 then _ else ν.1 i) = _
    rw [if_neg i3, if_neg i1, s2 i i4]
    show (if i = 43 then (c : Int) else if i = 45 then 0 else if i = 44 then 0 else if i = 43 then 0 else if i = 42 then 0 else if i = 0 then 0 else ρ.1 i) = _
    rw [if_neg i2, if_neg i4, if_neg i3, if_neg i2, if_neg i1, if_neg i0]
  have h0F : (upF (upF ν 42 1) 44 (lostN (yst ρ k0 c (fun _ => yNo)) : Int)).1 0 = 0 := s2 0 (by decide)
  have h43F : (upF (upF ν 42 1) 44 (lostN (yst ρ k0 c (fun _ => yNo)) : Int)).1 43 = (c : Int) := s2 43 (by decide)
  refine w_aload_n rfl rfl ?_
  refine m_get rfl rfl ?_
  rw [show (upF (upF ν 42 1) 44 (lostN (yst ρ k0 c (fun _ => yNo)) : Int)).1 44 = (lostN (yst ρ k0 c (fun _ => yNo)) : Int) from rfl]
  refine w_ifle rfl (by first | omega | exact (hg.2 _ _ _).1 | exact (hg.1 _).1 | (simp only [Int.toNat_natCast, upF_2] at *; omega)) (by first | omega | exact (hg.2 _ _ _).2 | exact (hg.1 _).2 | (simp only [Int.toNat_natCast, upF_2] at *; omega)) (fun ql => ?_) (fun ql => ?_)
  · refine w_iconst rfl ?_
    refine w_ireturn rfl rfl ?_
    refine ⟨_, rfl, hgF, s1, hfin, h0F, h43F, rfl, rfl, s3, s5, ?_⟩
    rw [if_neg (by omega)]
  · refine w_iconst rfl ?_
    refine w_goto rfl ?_
    refine w_ireturn rfl rfl ?_
    refine ⟨_, rfl, hgF, s1, hfin, h0F, h43F, rfl, rfl, s3, s5, ?_⟩
    rw [if_pos (by omega)]
end Rr20
