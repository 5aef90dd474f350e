/-! the reference's dump -/
theorem upA_1 (ρ : RS) (j r i : Nat) (x : Int) : (upA ρ j r i x).1 = ρ.1 := rfl
def dS (ρ : RS) (l c : Int) (e : Nat) : RS := upA (upA (upA (upA (upA (upF ρ 0 0) 10 0 e l) 11 0 e (ρ.1 7)) 12 0 e c) 13 0 e (ρ.1 9)) 14 0 e (ρ.1 27)
def dE (τ : RS) (w bl : Int) (e : Nat) : RS := upA (upA (upF (upF τ 9 (w + bl)) 16 ((e : Int) + 1)) 13 0 (e + 1) (w + bl)) 14 0 (e + 1) (τ.1 27)
theorem dS_lo (ρ : RS) (l c : Int) (e : Nat) {j r i : Nat} (h : ¬ (10 ≤ j ∧ j ≤ 14 ∧ r = 0 ∧ i = e)) : (dS ρ l c e).2 j r i = ρ.2 j r i := by
  unfold dS upA upF
  dsimp only
  rw [if_neg (by omega), if_neg (by omega), if_neg (by omega), if_neg (by omega), if_neg (by omega)]
theorem dS_T (ρ : RS) (l c : Int) (e : Nat) : SameT ρ (dS ρ l c e) := fun j i hj => dS_lo ρ l c e (by omega)
theorem dS_chg {ρ : RS} {l c : Int} {e : Nat} (hc : c < e) (n : Nat) : chg (dS ρ l c e) c n ↔ chg ρ c n := by
  unfold chg
  by_cases q : c < 0
  · rw [dS_lo ρ l c e (by omega)]
    simp [q]
  · rw [dS_lo ρ l c e (by omega), dS_lo ρ l c e (by omega), dS_lo ρ l c e (by omega)]
theorem dS_nb {ρ : RS} {l c : Int} {e : Nat} (n : Nat) : nb (dS ρ l c e) n = nb ρ n := by
  unfold nb
  rw [rEnt_congr (dS_T ρ l c e), dS_T ρ l c e 1 n (by decide), dS_T ρ l c e 4 n (by decide)]
section Rr15
variable {b L : Nat} {xs : Nat → Int32} {m0 : Nat} {h : AH} {ρ : RS}
set_option maxRecDepth 50000 in
theorem r_dump (hb : b < m0) (hg : Rg ρ) (hE : EntOk ρ) (hT : TreeOk ρ) (d : Nat) (hd : 3 ≤ d) {l c : Int} (l1 : 0 ≤ l) (l2 : l ≤ 9) {e : Nat} {cs : Nat → Nat → Nat} {qs : Nat → Nat} (he : ρ.1 16 = (e : Int)) (he2 : e < 100) (hc : lsB ρ l 0 e (-1) = c) (k1 : 4 ≤ ρ.1 8) (k2 : ρ.1 8 ≤ 1000) (w1 : 0 ≤ ρ.1 9) (hx : ρ.1 9 + dBlocks ρ c + pts (ρ.1 9 + dBlocks ρ c) (ρ.1 8 - 1) ≤ 4000) (r0 : 0 ≤ ρ.1 27) (r1 : ρ.1 27 ≤ ρ.1 9) (o0 : 0 ≤ ρ.1 28) (o1 : ρ.1 28 ≤ 64 * ρ.1 9) (n0 : 0 ≤ ρ.1 29) (n1 : ρ.1 29 ≤ 21 * ρ.1 9) (t0 : 0 ≤ ρ.1 7) (t1 : ρ.1 7 ≤ 100000) (hq : ∀ n, n < 256 → ρ.2 1 0 n = 2 → Kids ρ n (cs n) (qs n) ∧ rEnt ρ n = qs n) (hq1 : ∀ n, n < 256 → ρ.2 1 0 n = 1 → rEnt ρ n = qs n) : Wp b L xs d mi_122 0 (ent (mL mi_122) [.ref m0, vI l]) [] (RH m0 h ρ) (fun h' o => o = .inl (some (vI e)) ∧ ∃ τ, DInv (dS ρ l c e) c e cs qs 256 τ ∧ h' = RH m0 h (dE τ (ρ.1 9) (dBlocks ρ c) e)) := by
  refine r_dump_pre hb hg hT d hd l1 l2 he (by omega) hc ?_
  have hB := dB_ok hT c
  have hP : 0 ≤ pts (ρ.1 9 + dBlocks ρ c) (ρ.1 8 - 1) := Int.ediv_nonneg (by omega) (by omega)
  have c12 := lsB_ok (ρ := ρ) (l := l) e 0 (-1) (by omega) (by omega)
  rw [hc] at c12
  have hg0 : Rg (upF ρ 0 0) := hg.upF 0 (by decide) (by decide)
  have e16 : (upF ρ 0 0).1 16 = (e : Int) := he
  have e8 : (upF ρ 0 0).1 8 = ρ.1 8 := rfl
  have e9 : (upF ρ 0 0).1 9 = ρ.1 9 := rfl
  have e7 : (upF ρ 0 0).1 7 = ρ.1 7 := rfl
  have e27 : (upF ρ 0 0).1 27 = ρ.1 27 := rfl
  refine w_aload_n rfl rfl ?_
  refine w_aload_n rfl rfl ?_
  refine m_get rfl rfl ?_
  simp only [upA_1, e16]
  refine w_bipush rfl rfl ?_
  refine w_iceq_f rfl (by first | omega | exact (hg.2 _ _ _).1 | exact (hg.1 _).1 | (simp only [Int.toNat_natCast, upF_2] at *; omega)) (by first | omega | exact (hg.2 _ _ _).2 | exact (hg.1 _).2 | (simp only [Int.toNat_natCast, upF_2] at *; omega)) (by first | omega | exact (hg.2 _ _ _).1 | exact (hg.1 _).1 | (simp only [Int.toNat_natCast, upF_2] at *; omega)) (by first | omega | exact (hg.2 _ _ _).2 | exact (hg.1 _).2 | (simp only [Int.toNat_natCast, upF_2] at *; omega)) (by first | omega | (simp only [Int.toNat_natCast, upF_2] at *; omega)) ?_
  refine w_aload_n rfl rfl ?_
  refine m_get rfl rfl ?_
  simp only [upA_1, e9]
  refine w_iload rfl rfl ?_
  refine w_iadd rfl ?_
  refine w_aload_n rfl rfl ?_
  refine m_get rfl rfl ?_
  simp only [upA_1, e8]
  refine w_csV rfl (by decide) (by first | omega | (simp only [Int.toNat_natCast, upF_2] at *; omega)) rfl mt_125 (Nat.le_of_ble_eq_true rfl) (Nat.le_of_ble_eq_true rfl) (r_all _ (by omega) (by omega) (by omega) (by omega) (by omega)) ?_
  refine w_sipush rfl rfl ?_
  refine w_icle_t rfl (by first | omega | exact (hg.2 _ _ _).1 | exact (hg.1 _).1 | (simp only [Int.toNat_natCast, upF_2] at *; omega)) (by first | omega | exact (hg.2 _ _ _).2 | exact (hg.1 _).2 | (simp only [Int.toNat_natCast, upF_2] at *; omega)) (by first | omega | exact (hg.2 _ _ _).1 | exact (hg.1 _).1 | (simp only [Int.toNat_natCast, upF_2] at *; omega)) (by first | omega | exact (hg.2 _ _ _).2 | exact (hg.1 _).2 | (simp only [Int.toNat_natCast, upF_2] at *; omega)) (by first | omega | (simp only [Int.toNat_natCast, upF_2] at *; omega)) ?_
  refine w_iconst rfl ?_
  refine w_iconst rfl ?_
  refine w_cvV rfl (by decide) (by first | omega | (simp only [Int.toNat_natCast, upF_2] at *; omega)) rfl RH_obj mt_112 (Nat.le_of_ble_eq_true rfl) (Nat.le_of_ble_eq_true rfl) (r_fails0 hb (by assumption) _) ?_
  rw [upF_upF]
  refine w_ifeq_t rfl (by first | omega | exact (hg.2 _ _ _).1 | exact (hg.1 _).1 | (simp only [Int.toNat_natCast, upF_2] at *; omega)) (by first | omega | exact (hg.2 _ _ _).2 | exact (hg.1 _).2 | (simp only [Int.toNat_natCast, upF_2] at *; omega)) (by first | omega | (simp only [Int.toNat_natCast, upF_2] at *; omega)) ?_
  refine w_aload_n rfl rfl ?_
  refine m_get rfl rfl ?_
  refine w_aload_n rfl rfl ?_
  refine m_get rfl rfl ?_
  simp only [upA_1, e16]
  refine w_iload_n rfl rfl ?_
  refine m_iastore rfl rl_10 (by first | omega | (simp only [Int.toNat_natCast, upF_2] at *; omega)) (by first | omega | (simp only [Int.toNat_natCast, upF_2] at *; omega)) ?_
  refine w_aload_n rfl rfl ?_
  refine m_get rfl rfl ?_
  refine w_aload_n rfl rfl ?_
  refine m_get rfl rfl ?_
  simp only [upA_1, e16]
  refine w_aload_n rfl rfl ?_
  refine m_get rfl rfl ?_
  simp only [upA_1, e7]
  refine m_iastore rfl rl_11 (by first | omega | (simp only [Int.toNat_natCast, upF_2] at *; omega)) (by first | omega | (simp only [Int.toNat_natCast, upF_2] at *; omega)) ?_
  refine w_aload_n rfl rfl ?_
  refine m_get rfl rfl ?_
  refine w_aload_n rfl rfl ?_
  refine m_get rfl rfl ?_
  simp only [upA_1, e16]
  refine w_iload_n rfl rfl ?_
  refine m_iastore rfl rl_12 (by first | omega | (simp only [Int.toNat_natCast, upF_2] at *; omega)) (by first | omega | (simp only [Int.toNat_natCast, upF_2] at *; omega)) ?_
  refine w_aload_n rfl rfl ?_
  refine m_get rfl rfl ?_
  refine w_aload_n rfl rfl ?_
  refine m_get rfl rfl ?_
  simp only [upA_1, e16]
  refine w_aload_n rfl rfl ?_
  refine m_get rfl rfl ?_
  simp only [upA_1, e9]
  refine m_iastore rfl rl_13 (by first | omega | (simp only [Int.toNat_natCast, upF_2] at *; omega)) (by first | omega | (simp only [Int.toNat_natCast, upF_2] at *; omega)) ?_
  refine w_aload_n rfl rfl ?_
  refine m_get rfl rfl ?_
  refine w_aload_n rfl rfl ?_
  refine m_get rfl rfl ?_
  simp only [upA_1, e16]
  refine w_aload_n rfl rfl ?_
  refine m_get rfl rfl ?_
  simp only [upA_1, e27]
  refine m_iastore rfl rl_14 (by first | omega | (simp only [Int.toNat_natCast, upF_2] at *; omega)) (by first | omega | (simp only [Int.toNat_natCast, upF_2] at *; omega)) ?_
  refine w_iconst rfl ?_
  refine w_istore rfl (by decide) ?_
  have hS := dS_T ρ l c e
  have gS : Rg (dS ρ l c e) := ((((hg0.upA 10 0 e (by omega) (by omega)).upA 11 0 e (by omega) (by omega)).upA 12 0 e (by omega) (by omega)).upA 13 0 e (by omega) (by omega)).upA 14 0 e (by omega) (by omega)
  have hTS : TreeOk (dS ρ l c e) := fun n hn => by
    rw [hS 1 n (by decide), hS 2 n (by decide), hS 3 n (by decide), hS 4 n (by decide), hS 5 n (by decide)]
    exact hT n hn
  have hsm : sm (chg (dS ρ l c e) c) (nb (dS ρ l c e)) 0 256 = sm (chg ρ c) (nb ρ) 0 256 := sm_congr 256 0 (fun n _ _ => ⟨dS_chg (by omega) n, dS_nb n⟩)
  have hdb : dBlocks ρ c = 2 + sm (chg ρ c) (nb ρ) 0 256 + pts (dMany ρ c) 31 := rfl
  have hpm : 0 ≤ pts (dMany ρ c) 31 := Int.ediv_nonneg (by omega) (by omega)
  have hDI : DInv (dS ρ l c e) c e cs qs 0 (dS ρ l c e) := by
    refine ⟨gS, fun i => ?_, fun _ _ _ _ => rfl, fun _ _ _ _ _ => rfl, fun i hi => absurd hi (by omega), fun _ _ => rfl, ?_, ⟨Int.le_refl _, ?_⟩, ⟨Int.le_refl _, ?_⟩, fun _ _ _ _ _ => rfl, fun _ _ => rfl, fun _ _ => ⟨rfl, rfl⟩, fun n hn => absurd hn (by omega)⟩
    · rw [dS_lo ρ l c e (by omega), dS_lo ρ l c e (by omega)]; exact hE i
    · show ρ.1 27 = ρ.1 27 + ((0 : Nat) : Int)
      omega
    · show ρ.1 28 ≤ 64 * (ρ.1 9 + 0)
      omega
    · show ρ.1 29 ≤ 21 * (ρ.1 9 + 0)
      omega
  refine r_dump_l3 (ρ := dS ρ l c e) hb hTS d hd (cs := cs) (qs := qs) he he2 (by omega) (by omega) r0 r1 o0 n0 (by rw [hsm]; show ρ.1 9 + _ ≤ _; omega) (fun n hn hk => ?_) (fun n hn hk => ?_) ?_ 256 0 (dS ρ l c e) rfl hDI
  · rw [hS 1 n (by decide)] at hk
    obtain ⟨z1, z2⟩ := hq n hn hk
    exact ⟨z1.congr hS, by rw [rEnt_congr hS]; exact z2⟩
  · rw [hS 1 n (by decide)] at hk
    rw [rEnt_congr hS]
    exact hq1 n hn hk
  intro τ hI
  have f9 : τ.1 9 = ρ.1 9 := hI.2.2.1 9 (by decide) (by decide) (by decide)
  have f16 : τ.1 16 = (e : Int) := (hI.2.2.1 16 (by decide) (by decide) (by decide)).trans he
  refine w_aload_n rfl rfl ?_
  refine w_dupR rfl ?_
  refine m_get rfl rfl ?_
  first | rw [f9] | rw [show (upF (upF τ 9 (ρ.1 9 + dBlocks ρ c)) 16 ((e : Int) + 1)).1 9 = ρ.1 9 + dBlocks ρ c from rfl]
  refine w_iload rfl rfl ?_
  refine w_iadd rfl ?_
  refine m_put rfl rfl rfl rfl ?_
  refine w_aload_n rfl rfl ?_
  refine w_dupR rfl ?_
  refine m_get rfl rfl ?_
  first | rw [f16] | rw [show (upF τ 9 (ρ.1 9 + dBlocks ρ c)).1 16 = (e : Int) from f16] | (try simp only [upA_1])
  try rw [show (upF (upF τ 9 (ρ.1 9 + dBlocks ρ c)) 16 ((e : Int) + 1)).1 16 = (e : Int) + 1 from rfl]
  refine w_iconst rfl ?_
  refine w_iadd rfl ?_
  refine m_put rfl rfl rfl rfl ?_
  refine w_aload_n rfl rfl ?_
  refine m_get rfl rfl ?_
  refine w_aload_n rfl rfl ?_
  refine m_get rfl rfl ?_
  first | rw [f16] | rw [show (upF τ 9 (ρ.1 9 + dBlocks ρ c)).1 16 = (e : Int) from f16] | (try simp only [upA_1])
  try rw [show (upF (upF τ 9 (ρ.1 9 + dBlocks ρ c)) 16 ((e : Int) + 1)).1 16 = (e : Int) + 1 from rfl]
  refine w_aload_n rfl rfl ?_
  refine m_get rfl rfl ?_
  first | rw [f9] | rw [show (upF (upF τ 9 (ρ.1 9 + dBlocks ρ c)) 16 ((e : Int) + 1)).1 9 = ρ.1 9 + dBlocks ρ c from rfl]
  refine m_iastore rfl rl_13 (by first | omega | (simp only [Int.toNat_natCast, upF_2] at *; omega)) (by first | omega | (simp only [Int.toNat_natCast, upF_2] at *; omega)) ?_
  refine w_aload_n rfl rfl ?_
  refine m_get rfl rfl ?_
  refine w_aload_n rfl rfl ?_
  refine m_get rfl rfl ?_
  first | rw [f16] | rw [show (upF τ 9 (ρ.1 9 + dBlocks ρ c)).1 16 = (e : Int) from f16] | (try simp only [upA_1])
  try rw [show (upF (upF τ 9 (ρ.1 9 + dBlocks ρ c)) 16 ((e : Int) + 1)).1 16 = (e : Int) + 1 from rfl]
  refine w_aload_n rfl rfl ?_
  refine m_get rfl rfl ?_
  simp only [upA_1]
  rw [show (upF (upF τ 9 (ρ.1 9 + dBlocks ρ c)) 16 ((e : Int) + 1)).1 27 = τ.1 27 from rfl]
  refine m_iastore rfl rl_14 (by first | omega | (simp only [Int.toNat_natCast, upF_2] at *; omega)) (by first | omega | (simp only [Int.toNat_natCast, upF_2] at *; omega)) ?_
  refine w_aload_n rfl rfl ?_
  refine m_get rfl rfl ?_
  first | rw [f16] | rw [show (upF τ 9 (ρ.1 9 + dBlocks ρ c)).1 16 = (e : Int) from f16] | (try simp only [upA_1])
  try rw [show (upF (upF τ 9 (ρ.1 9 + dBlocks ρ c)) 16 ((e : Int) + 1)).1 16 = (e : Int) + 1 from rfl]
  refine w_iconst rfl ?_
  refine w_isub rfl ?_
  refine w_ireturn rfl rfl ?_
  refine ⟨by rw [show (e : Int) + 1 - 1 = e by omega], τ, hI, ?_⟩
  unfold dE
  rw [show ((e : Int) + 1).toNat = e + 1 by omega]
end Rr15
