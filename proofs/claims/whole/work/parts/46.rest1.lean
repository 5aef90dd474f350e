/-! the reference's restore -/
def bsN (ρ : RS) : Nat → Int → Int
  | 0, k => k
  | i + 1, k => bsN ρ i (ρ.2 12 0 k.toNat)
abbrev hdBad (ρ : RS) (e : Nat) : Prop := 0 < cnt (fun j => ρ.2 30 0 ((ρ.2 13 0 e).toNat + j) ≠ 0) 0 (2 + nix ρ e).toNat
theorem hdBad_dec (ρ : RS) (e : Nat) : hdBad ρ e ∨ ¬ hdBad ρ e := Decidable.em (0 < cnt (fun j => ρ.2 30 0 ((ρ.2 13 0 e).toNat + j) ≠ 0) 0 (2 + nix ρ e).toNat)
def whl (ρ : RS) : Nat → Int → Prop
  | 0, _ => True
  | m + 1, k => ¬ hdBad ρ k.toNat ∧ whl ρ m (ρ.2 12 0 k.toNat)
def yst (ρ : RS) (k : Int) : Nat → YS → YS
  | 0, Y => Y
  | m + 1, Y => yst ρ k m (yone ρ (bsN ρ m k).toNat Y)
def rdS (ρ : RS) (k : Int) : Nat → Int
  | 0 => 0
  | m + 1 => rdN ρ (bsN ρ m k).toNat + rdS ρ k m
def DumpsOk (ρ : RS) (E : Nat) : Prop := ∀ e, e < E → DumpOk ρ e ∧ (∀ n, n < 256 → 0 ≤ ρ.2 15 e n ∧ ρ.2 15 e n ≤ 1) ∧ ρ.2 13 0 (e + 1) ≤ 4000 ∧ ρ.2 13 0 e + (2 + nix ρ e) + sumC ρ (ρ.2 14 0 e).toNat (ρ.2 14 0 (e + 1) - ρ.2 14 0 e).toNat = ρ.2 13 0 (e + 1)
theorem ydr_congr {σ τ : RS} (hS : SameX σ τ) (e k : Nat) (Y : YS) : ydr τ e k Y = ydr σ e k Y := by
  funext n
  unfold ydr
  rw [hS 15 e n (by decide)]
theorem yrecs_congr {σ τ : RS} (hS : SameX σ τ) : ∀ (m a r : Nat) (Y : YS), yrecs τ a r m Y = yrecs σ a r m Y
  | 0, _, _, _ => rfl
  | m + 1, a, r, Y => by
    show yrecs τ (a + 1 + (cont τ r).toNat) (r + 1) m (yback τ r a Y) = yrecs σ (a + 1 + (cont σ r).toNat) (r + 1) m (yback σ r a Y)
    rw [yback_congr hS, cont_keep (fun j i h1 h2 => hS j 0 i (by omega)), yrecs_congr hS m]
theorem nix_congr {σ τ : RS} (hS : SameX σ τ) (e : Nat) : nix τ e = nix σ e := by
  unfold nix
  rw [hS 14 0 _ (by decide), hS 14 0 _ (by decide)]
theorem yone_congr {σ τ : RS} (hS : SameX σ τ) (e : Nat) (Y : YS) : yone τ e Y = yone σ e Y := by
  unfold yone
  rw [yrecs_congr hS, ydr_congr hS, nix_congr hS, hS 13 0 _ (by decide), hS 14 0 _ (by decide), hS 14 0 _ (by decide)]
theorem rdN_congr {σ τ : RS} (hS : SameX σ τ) (e : Nat) : rdN τ e = rdN σ e := by
  unfold rdN
  rw [hS 13 0 _ (by decide), hS 13 0 _ (by decide)]
  exact cnt_congr _ _ (fun n _ _ => by rw [hS 30 0 _ (by decide)])
theorem sumC_congr {σ τ : RS} (hS : SameX σ τ) : ∀ m s : Nat, sumC τ s m = sumC σ s m
  | 0, _ => rfl
  | m + 1, s => by
    show 1 + cont τ s + sumC τ (s + 1) m = 1 + cont σ s + sumC σ (s + 1) m
    rw [sumC_congr hS m, cont_keep (fun j i h1 h2 => hS j 0 i (by omega))]
theorem DumpOk.keep {σ τ : RS} (hS : SameX σ τ) {e : Nat} (h : DumpOk σ e) : DumpOk τ e := by
  obtain ⟨d1, d2, d3, d4, d5, d6, d7, d8, d9, d10, d11, d12⟩ := h
  unfold DumpOk
  rw [hS 10 0 _ (by decide), hS 11 0 _ (by decide), hS 12 0 _ (by decide), hS 13 0 _ (by decide), hS 14 0 _ (by decide), hS 14 0 _ (by decide)]
  exact ⟨d1, d2, d3, d4, d5, d6, d7, d8, d9, d10, d11, fun j h1 h2 => (d12 j h1 h2).keep (fun j i a b => hS j 0 i (by omega))⟩
theorem rd_le {ρ : RS} {e : Nat} (h1 : 0 ≤ ρ.2 13 0 e) (h2 : ρ.2 13 0 (e + 1) ≤ 4000) : rdN ρ e ≤ 4000 := by
  have := cnt_le (fun k => ρ.2 30 0 k = 0) (ρ.2 13 0 e).toNat (ρ.2 13 0 (e + 1) - ρ.2 13 0 e).toNat
  unfold rdN
  omega
theorem bsN_succ (ρ : RS) : ∀ (i : Nat) (k : Int), bsN ρ (i + 1) k = ρ.2 12 0 (bsN ρ i k).toNat
  | 0, _ => rfl
  | i + 1, k => bsN_succ ρ i (ρ.2 12 0 k.toNat)
section Rr19
variable {b L : Nat} {xs : Nat → Int32} {m0 : Nat} {h : AH} {ρ : RS}
variable {σ : RS}
set_option maxRecDepth 50000 in
theorem r_rest_1 (hb : b < m0) (hg : Rg ρ) (d : Nat) (hd : 4 ≤ d) {k : Int} (k1 : -2147483648 ≤ k) (k2 : k ≤ 2147483647) {E : Nat} (hE : ρ.1 16 = (E : Int)) (hE2 : E ≤ 100) (hc : k < 0 ∨ (E : Int) ≤ k) : Wp b L xs d mi_137 0 (ent (mL mi_137) [.ref m0, vI k]) [] (RH m0 h ρ) (Rt (RH m0 h (upF ρ 0 1)) (vI 0)) := by
  by_cases q : k < 0
  · refine w_aload_n rfl rfl ?_
    refine w_iload_n rfl rfl ?_
    refine w_iflt_t rfl (by first | omega | exact (hg.2 _ _ _).1 | exact (hg.1 _).1 | (simp only [Int.toNat_natCast, upF_2] at *; omega)) (by first | omega | exact (hg.2 _ _ _).2 | exact (hg.1 _).2 | (simp only [Int.toNat_natCast, upF_2] at *; omega)) (by first | omega | (simp only [Int.toNat_natCast, upF_2] at *; omega)) ?_
    refine w_iconst rfl ?_
    refine w_goto rfl ?_
    refine w_iconst rfl ?_
    refine w_cvV rfl (by decide) (by first | omega | (simp only [Int.toNat_natCast, upF_2] at *; omega)) rfl RH_obj mt_112 (Nat.le_of_ble_eq_true rfl) (Nat.le_of_ble_eq_true rfl) (r_fails1 hb (by assumption) _) ?_
    refine w_ifeq_f rfl (by first | omega | exact (hg.2 _ _ _).1 | exact (hg.1 _).1 | (simp only [Int.toNat_natCast, upF_2] at *; omega)) (by first | omega | exact (hg.2 _ _ _).2 | exact (hg.1 _).2 | (simp only [Int.toNat_natCast, upF_2] at *; omega)) (by first | omega | (simp only [Int.toNat_natCast, upF_2] at *; omega)) ?_
    refine w_iconst rfl ?_
    refine w_ireturn rfl rfl ?_
    exact ⟨rfl, rfl⟩
  refine w_aload_n rfl rfl ?_
  refine w_iload_n rfl rfl ?_
  refine w_iflt_f rfl (by first | omega | exact (hg.2 _ _ _).1 | exact (hg.1 _).1 | (simp only [Int.toNat_natCast, upF_2] at *; omega)) (by first | omega | exact (hg.2 _ _ _).2 | exact (hg.1 _).2 | (simp only [Int.toNat_natCast, upF_2] at *; omega)) (by first | omega | (simp only [Int.toNat_natCast, upF_2] at *; omega)) ?_
  refine w_iload_n rfl rfl ?_
  refine w_aload_n rfl rfl ?_
  refine m_get rfl rfl ?_
  rw [hE]
  refine w_iclt_f rfl (by first | omega | exact (hg.2 _ _ _).1 | exact (hg.1 _).1 | (simp only [Int.toNat_natCast, upF_2] at *; omega)) (by first | omega | exact (hg.2 _ _ _).2 | exact (hg.1 _).2 | (simp only [Int.toNat_natCast, upF_2] at *; omega)) (by first | omega | exact (hg.2 _ _ _).1 | exact (hg.1 _).1 | (simp only [Int.toNat_natCast, upF_2] at *; omega)) (by first | omega | exact (hg.2 _ _ _).2 | exact (hg.1 _).2 | (simp only [Int.toNat_natCast, upF_2] at *; omega)) (by first | omega | (simp only [Int.toNat_natCast, upF_2] at *; omega)) ?_
  refine w_iconst rfl ?_
  refine w_goto rfl ?_
  refine w_iconst rfl ?_
  refine w_cvV rfl (by decide) (by first | omega | (simp only [Int.toNat_natCast, upF_2] at *; omega)) rfl RH_obj mt_112 (Nat.le_of_ble_eq_true rfl) (Nat.le_of_ble_eq_true rfl) (r_fails1 hb (by assumption) _) ?_
  refine w_ifeq_f rfl (by first | omega | exact (hg.2 _ _ _).1 | exact (hg.1 _).1 | (simp only [Int.toNat_natCast, upF_2] at *; omega)) (by first | omega | exact (hg.2 _ _ _).2 | exact (hg.1 _).2 | (simp only [Int.toNat_natCast, upF_2] at *; omega)) (by first | omega | (simp only [Int.toNat_natCast, upF_2] at *; omega)) ?_
  refine w_iconst rfl ?_
  refine w_ireturn rfl rfl ?_
  exact ⟨rfl, rfl⟩
set_option maxRecDepth 50000 in
theorem r_rs_in (hb : b < m0) (hg : Rg σ) {Q : AH → RO → Prop} (d : Nat) (hd : 3 ≤ d) {k0 : Int} {k hh : Nat} {u : Option Value} {fin : Int} (hk : k < 100) (hD : DumpOk σ k) (hb2 : σ.2 13 0 k + (2 + nix σ k) ≤ 4000) (hh1 : 2 + nix σ k = (hh : Int)) (hs : ∀ i, σ.2 30 0 i = 0 ∨ σ.2 30 0 i = 1) (kk : Wp b L xs d mi_137 103 [some (.ref m0), some (vI k0), some (vI fin), some (vI k), some (vI hh), u] [] (RH m0 h σ) Q) : ∀ (m j : Nat) (cur : Int), j + m = hh → (if 0 < cnt (fun j => σ.2 30 0 ((σ.2 13 0 k).toNat + j) ≠ 0) j m then 0 else cur) = fin → Wp b L xs d mi_137 68 [some (.ref m0), some (vI k0), some (vI cur), some (vI k), some (vI j), u] [] (RH m0 h σ) Q := by
  obtain ⟨d1, d2, d3, d4, d5, d6, d7, d8, d9, d10, d11, d12⟩ := hD
  have e1 : ((k : Int) + 1).toNat = k + 1 := by omega
  have hnx : 0 ≤ nix σ k ∧ nix σ k ≤ 9 := by
    unfold nix pts
    omega
  have ehd : (2 + pts (σ.2 14 0 ((k : Int) + 1).toNat - σ.2 14 0 (k : Int).toNat) 31) = (hh : Int) := by
    rw [e1]
    exact hh1
  intro m
  induction m with
  | zero =>
    intro j cur hj hf
    obtain rfl : j = hh := hj
    obtain rfl : cur = fin := hf
    refine w_iload rfl rfl ?_
    refine w_aload_n rfl rfl ?_
    refine w_iload_n rfl rfl ?_
    refine w_cvV rfl (by decide) (by first | omega | (simp only [Int.toNat_natCast, upF_2] at *; omega)) rfl RH_obj mt_138 (Nat.le_of_ble_eq_true rfl) (Nat.le_of_ble_eq_true rfl) (r_head hb hg _ (by omega) (n := (k : Int)) (by omega) (by omega) (by rw [e1, Int.toNat_natCast]; omega) (by rw [e1, Int.toNat_natCast]; omega)) ?_
    rw [ehd]
    refine w_icge_t rfl (by first | omega | exact (hg.2 _ _ _).1 | exact (hg.1 _).1 | (simp only [Int.toNat_natCast, upF_2] at *; omega)) (by first | omega | exact (hg.2 _ _ _).2 | exact (hg.1 _).2 | (simp only [Int.toNat_natCast, upF_2] at *; omega)) (by first | omega | exact (hg.2 _ _ _).1 | exact (hg.1 _).1 | (simp only [Int.toNat_natCast, upF_2] at *; omega)) (by first | omega | exact (hg.2 _ _ _).2 | exact (hg.1 _).2 | (simp only [Int.toNat_natCast, upF_2] at *; omega)) (by first | omega | (simp only [Int.toNat_natCast, upF_2] at *; omega)) ?_
    exact kk
  | succ m ih =>
    intro j cur hj hf
    have hf : (if 0 < (if σ.2 30 0 ((σ.2 13 0 k).toNat + j) ≠ 0 then 1 else 0) + cnt (fun j => σ.2 30 0 ((σ.2 13 0 k).toNat + j) ≠ 0) (j + 1) m then 0 else cur) = fin := hf
    have e2 : (σ.2 13 0 k + (j : Int)).toNat = (σ.2 13 0 k).toNat + j := by omega
    have h30 := hs ((σ.2 13 0 k).toNat + j)
    refine w_iload rfl rfl ?_
    refine w_aload_n rfl rfl ?_
    refine w_iload_n rfl rfl ?_
    refine w_cvV rfl (by decide) (by first | omega | (simp only [Int.toNat_natCast, upF_2] at *; omega)) rfl RH_obj mt_138 (Nat.le_of_ble_eq_true rfl) (Nat.le_of_ble_eq_true rfl) (r_head hb hg _ (by omega) (n := (k : Int)) (by omega) (by omega) (by rw [e1, Int.toNat_natCast]; omega) (by rw [e1, Int.toNat_natCast]; omega)) ?_
    rw [ehd]
    refine w_icge_f rfl (by first | omega | exact (hg.2 _ _ _).1 | exact (hg.1 _).1 | (simp only [Int.toNat_natCast, upF_2] at *; omega)) (by first | omega | exact (hg.2 _ _ _).2 | exact (hg.1 _).2 | (simp only [Int.toNat_natCast, upF_2] at *; omega)) (by first | omega | exact (hg.2 _ _ _).1 | exact (hg.1 _).1 | (simp only [Int.toNat_natCast, upF_2] at *; omega)) (by first | omega | exact (hg.2 _ _ _).2 | exact (hg.1 _).2 | (simp only [Int.toNat_natCast, upF_2] at *; omega)) (by first | omega | (simp only [Int.toNat_natCast, upF_2] at *; omega)) ?_
    refine w_aload_n rfl rfl ?_
    refine m_get rfl rfl ?_
    refine w_aload_n rfl rfl ?_
    refine m_get rfl rfl ?_
    refine w_iload_n rfl rfl ?_
    refine m_iaload rfl hb rl_13 (by first | omega | (simp only [Int.toNat_natCast, upF_2] at *; omega)) (by first | omega | (simp only [Int.toNat_natCast, upF_2] at *; omega)) ?_
    rw [Int.toNat_natCast]
    refine w_iload rfl rfl ?_
    refine w_iadd rfl ?_
    refine m_zaload rfl rl_30 (by first | omega | (simp only [Int.toNat_natCast, upF_2] at *; omega)) (by first | omega | (simp only [Int.toNat_natCast, upF_2] at *; omega)) ?_
    rw [e2]
    refine w_ifeq rfl (by first | omega | exact (hg.2 _ _ _).1 | exact (hg.1 _).1 | (simp only [Int.toNat_natCast, upF_2] at *; omega)) (by first | omega | exact (hg.2 _ _ _).2 | exact (hg.1 _).2 | (simp only [Int.toNat_natCast, upF_2] at *; omega)) (fun c1 => ?_) (fun c1 => ?_)
    · refine w_iinc rfl rfl (by decide) ?_
      refine w_goto rfl ?_
      rw [if_neg (c := σ.2 30 0 ((σ.2 13 0 k).toNat + j) ≠ 0) (fun z => z c1), Nat.zero_add] at hf
      exact ih (j + 1) cur (by omega) hf
    · refine w_iconst rfl ?_
      refine w_istore_n rfl (by decide) ?_
      refine w_iinc rfl rfl (by decide) ?_
      refine w_goto rfl ?_
      rw [if_pos (c := σ.2 30 0 ((σ.2 13 0 k).toNat + j) ≠ 0) c1, if_pos (by omega)] at hf
      refine ih (j + 1) 0 (by omega) ?_
      rw [← hf]
      split <;> rfl
set_option maxRecDepth 50000 in
theorem r_rs_a (hb : b < m0) (hg : Rg σ) {Q : AH → RO → Prop} (d : Nat) (hd : 4 ≤ d) {k0 : Int} {E c : Nat} (hE2 : E ≤ 100) (hD : DumpsOk σ E) (hs : ∀ i, σ.2 30 0 i = 0 ∨ σ.2 30 0 i = 1) (hc : c ≤ 100) {fin : Int} (kk : ∀ k u4, k < 0 → -1 ≤ k → Wp b L xs d mi_137 113 [some (.ref m0), some (vI k0), some (vI fin), some (vI k), u4, none] [] (RH m0 h (upF σ 43 c)) Q) : ∀ (m i : Nat) (k cur : Int) (u4 : Option Value), i + m = c → k < E → -1 ≤ k → (∀ s, s < m → 0 ≤ bsN σ s k) → bsN σ m k < 0 → ((whl σ m k ∧ fin = cur) ∨ (¬ whl σ m k ∧ fin = 0)) → Wp b L xs d mi_137 51 [some (.ref m0), some (vI k0), some (vI cur), some (vI k), u4, none] [] (RH m0 h (upF σ 43 i)) Q := by
  intro m
  induction m with
  | zero =>
    intro i k cur u4 hi k1 k2 hs1 hs2 hf
    obtain rfl : i = c := hi
    obtain rfl : fin = cur := by
      rcases hf with hf | hf
      · exact hf.2
      · exact absurd trivial hf.1
    have hs2 : k < 0 := hs2
    refine w_iload_n rfl rfl ?_
    refine w_iflt_t rfl (by first | omega | exact (hg.2 _ _ _).1 | exact (hg.1 _).1 | (simp only [Int.toNat_natCast, upF_2] at *; omega)) (by first | omega | exact (hg.2 _ _ _).2 | exact (hg.1 _).2 | (simp only [Int.toNat_natCast, upF_2] at *; omega)) (by first | omega | (simp only [Int.toNat_natCast, upF_2] at *; omega)) ?_
    exact kk k u4 hs2 k2
  | succ m ih =>
    intro i k cur u4 hi k1 k2 hs1 hs2 hf
    have hk0 : 0 ≤ k := hs1 0 (by omega)
    obtain ⟨kn, hkn⟩ := Int.eq_ofNat_of_zero_le hk0
    subst hkn
    have hg2 : Rg (upF σ 43 (i + 1)) := hg.upF 43 (by omega) (by omega)
    have hDk := hD kn (by omega)
    have hDk2 := hDk.1
    obtain ⟨d1, d2, d3, d4, d5, d6, d7, d8, d9, d10, d11, d12⟩ := hDk2
    have hsp := sumC_pos (ρ := σ) (σ.2 14 0 (kn + 1) - σ.2 14 0 kn).toNat (σ.2 14 0 kn).toNat (fun j a b => d12 j (by omega) (by omega))
    have hnx : 0 ≤ nix σ kn ∧ nix σ kn ≤ 9 := by
      unfold nix pts
      omega
    obtain ⟨hh, hhh⟩ := Int.eq_ofNat_of_zero_le (show 0 ≤ 2 + nix σ kn by omega)
    have hb9 := hDk.2.2
    have nxt : ∀ (cur2 : Int) (u : Option Value), ((¬ hdBad σ kn ∧ cur2 = cur) ∨ (hdBad σ kn ∧ cur2 = 0)) → Wp b L xs d mi_137 103 [some (.ref m0), some (vI k0), some (vI cur2), some (vI kn), u, none] [] (RH m0 h (upF σ 43 (i + 1))) Q := by
      intro cur2 u h2
      refine w_aload_n rfl rfl ?_
      refine m_get rfl rfl ?_
      refine w_iload_n rfl rfl ?_
      refine m_iaload rfl hb rl_12 (by first | omega | (simp only [Int.toNat_natCast, upF_2] at *; omega)) (by first | omega | (simp only [Int.toNat_natCast, upF_2] at *; omega)) ?_
      refine w_istore_n rfl (by decide) ?_
      refine w_goto rfl ?_
      rw [show (upF σ 43 (i + 1)).2 12 0 (kn : Int).toNat = σ.2 12 0 kn from rfl]
      refine ih (i + 1) (σ.2 12 0 kn) cur2 u (by omega) (by omega) d5 (fun s h1 => hs1 (s + 1) (by omega)) hs2 ?_
      have hwl : whl σ (m + 1) kn ↔ ¬ hdBad σ kn ∧ whl σ m (σ.2 12 0 kn) := Iff.rfl
      rw [hwl] at hf
      by_cases q1 : hdBad σ kn
      · have hf0 : fin = 0 := by
          rcases hf with hf | hf
          · exact absurd q1 hf.1.1
          · exact hf.2
        have h20 : cur2 = 0 := by
          rcases h2 with h2 | h2
          · exact absurd q1 h2.1
          · exact h2.2
        by_cases q2 : whl σ m (σ.2 12 0 kn)
        · exact Or.inl ⟨q2, by omega⟩
        · exact Or.inr ⟨q2, hf0⟩
      · have h20 : cur2 = cur := by
          rcases h2 with h2 | h2
          · exact h2.2
          · exact absurd h2.1 q1
        rcases hf with hf | hf
        · exact Or.inl ⟨hf.1.2, by omega⟩
        · exact Or.inr ⟨fun z => hf.1 ⟨q1, z⟩, hf.2⟩
    refine w_iload_n rfl rfl ?_
    refine w_iflt_f rfl (by first | omega | exact (hg.2 _ _ _).1 | exact (hg.1 _).1 | (simp only [Int.toNat_natCast, upF_2] at *; omega)) (by first | omega | exact (hg.2 _ _ _).2 | exact (hg.1 _).2 | (simp only [Int.toNat_natCast, upF_2] at *; omega)) (by first | omega | (simp only [Int.toNat_natCast, upF_2] at *; omega)) ?_
    refine w_aload_n rfl rfl ?_
    refine w_dupR rfl ?_
    refine m_get rfl rfl ?_
    refine w_iconst rfl ?_
    refine w_iadd rfl ?_
    refine m_put rfl rfl rfl rfl ?_
    refine w_iconst rfl ?_
    refine w_istore rfl (by decide) ?_
    rw [show (upF σ 43 (i : Int)).1 43 = (i : Int) from rfl, upF_upF]
    refine r_rs_in (σ := upF σ 43 (i + 1)) hb hg2 d (by omega) (fin := if hdBad σ kn then 0 else cur) (by omega) hDk.1 (by show σ.2 13 0 kn + (2 + nix σ kn) ≤ 4000; omega) hhh hs ?_ hh 0 cur (Nat.zero_add _) ?_
    · refine nxt _ _ ?_
      by_cases q : hdBad σ kn
      · rw [if_pos q]; exact Or.inr ⟨q, rfl⟩
      · rw [if_neg q]; exact Or.inl ⟨q, rfl⟩
    · have e9 : hh = (2 + nix σ kn).toNat := by omega
      rw [e9]
      rfl
end Rr19
