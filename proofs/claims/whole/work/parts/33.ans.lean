/-! the reference's answers: count, node, octet, find -/
/-- f at the first of m places from k on where p holds, or -1 -/
def fnd2 (p : Nat → Prop) [DecidablePred p] (f : Nat → Int) : Nat → Nat → Int
  | _, 0 => -1
  | k, m + 1 => if p k then f k else fnd2 p f (k + 1) m
section Rr5
variable {b L : Nat} {xs : Nat → Int32} {m0 : Nat} {h : AH} {ρ : RS}
theorem r_count_l (hb : b < m0) (hg : Rg ρ) {Q : AH → RO → Prop} (d : Nat) {w : Int} {e : Nat} : ∀ m k a : Nat, k + m = 256 → a + cnt (fun n => ρ.2 1 0 n ≠ 0) k m = e → Wp b L xs d mi_144 54 [some (.ref m0), some (vI w), some (vI e), some (vI 256)] [] (RH m0 h ρ) Q → Wp b L xs d mi_144 29 [some (.ref m0), some (vI w), some (vI a), some (vI k)] [] (RH m0 h ρ) Q := by
  intro m
  induction m with
  | zero =>
    intro k a hk ha kk
    obtain rfl : k = 256 := hk
    obtain rfl : a = e := ha
    refine w_iload_n rfl rfl ?_
    refine w_sipush rfl rfl ?_
    refine w_icge_t rfl (by first | omega | exact (hg.2 _ _ _).1 | exact (hg.1 _).1 | (simp only [Int.toNat_natCast, upF_2] at *; omega)) (by first | omega | exact (hg.2 _ _ _).2 | exact (hg.1 _).2 | (simp only [Int.toNat_natCast, upF_2] at *; omega)) (by first | omega | exact (hg.2 _ _ _).1 | exact (hg.1 _).1 | (simp only [Int.toNat_natCast, upF_2] at *; omega)) (by first | omega | exact (hg.2 _ _ _).2 | exact (hg.1 _).2 | (simp only [Int.toNat_natCast, upF_2] at *; omega)) (by first | omega | (simp only [Int.toNat_natCast, upF_2] at *; omega)) ?_
    exact kk
  | succ m ih =>
    intro k a hk ha kk
    unfold cnt at ha
    refine w_iload_n rfl rfl ?_
    refine w_sipush rfl rfl ?_
    refine w_icge_f rfl (by first | omega | exact (hg.2 _ _ _).1 | exact (hg.1 _).1 | (simp only [Int.toNat_natCast, upF_2] at *; omega)) (by first | omega | exact (hg.2 _ _ _).2 | exact (hg.1 _).2 | (simp only [Int.toNat_natCast, upF_2] at *; omega)) (by first | omega | exact (hg.2 _ _ _).1 | exact (hg.1 _).1 | (simp only [Int.toNat_natCast, upF_2] at *; omega)) (by first | omega | exact (hg.2 _ _ _).2 | exact (hg.1 _).2 | (simp only [Int.toNat_natCast, upF_2] at *; omega)) (by first | omega | (simp only [Int.toNat_natCast, upF_2] at *; omega)) ?_
    refine w_aload_n rfl rfl ?_
    refine m_get rfl rfl ?_
    refine w_iload_n rfl rfl ?_
    refine m_iaload rfl hb rl_1 (by first | omega | (simp only [Int.toNat_natCast, upF_2] at *; omega)) (by first | omega | (simp only [Int.toNat_natCast, upF_2] at *; omega)) ?_
    refine w_ifeq rfl (by first | omega | exact (hg.2 _ _ _).1 | exact (hg.1 _).1 | (simp only [Int.toNat_natCast, upF_2] at *; omega)) (by first | omega | exact (hg.2 _ _ _).2 | exact (hg.1 _).2 | (simp only [Int.toNat_natCast, upF_2] at *; omega)) (fun c1 => ?_) (fun c1 => ?_)
    · refine w_iinc rfl rfl (by decide) ?_
      refine w_goto rfl ?_
      refine ih (k + 1) a (by omega) ?_ kk
      rw [if_neg (by (try simp only [Int.toNat_natCast, upF_2] at *); omega)] at ha
      omega
    · refine w_iinc rfl rfl (by decide) ?_
      refine w_iinc rfl rfl (by decide) ?_
      refine w_goto rfl ?_
      refine ih (k + 1) (a + 1) (by omega) ?_ kk
      rw [if_pos (by (try simp only [Int.toNat_natCast, upF_2] at *); omega)] at ha
      omega
theorem r_count_1 (hb : b < m0) (hg : Rg ρ) (d : Nat) (hd : 1 ≤ d) {w : Int} (w1 : -2147483648 ≤ w) (w2 : w ≤ 2147483647) (hc : w < 0 ∨ 7 < w) : Wp b L xs d mi_144 0 (ent (mL mi_144) [.ref m0, vI w]) [] (RH m0 h ρ) (Rt (RH m0 h (upF ρ 0 1)) (vI 0)) := by
  by_cases q : w < 0
  · refine w_aload_n rfl rfl ?_
    refine w_iload_n rfl rfl ?_
    refine w_iflt_t rfl (by first | omega | exact (hg.2 _ _ _).1 | exact (hg.1 _).1 | (simp only [Int.toNat_natCast, upF_2] at *; omega)) (by first | omega | exact (hg.2 _ _ _).2 | exact (hg.1 _).2 | (simp only [Int.toNat_natCast, upF_2] at *; omega)) (by first | omega | (simp only [Int.toNat_natCast, upF_2] at *; omega)) ?_
    refine w_iconst rfl ?_
    refine w_goto rfl ?_
    refine w_iconst rfl ?_
    refine w_cvV rfl (by decide) (by first | omega | (simp only [Int.toNat_natCast, upF_2] at *; omega)) rfl RH_obj mt_112 (Nat.le_of_ble_eq_true rfl) (Nat.le_of_ble_eq_true rfl) (r_fails1 hb (by assumption) _) ?_
    refine w_ifeq_f rfl (by first | omega | exact (hg.2 _ _ _).1 | exact (hg.1 _).1 | (simp only [Int.toNat_natCast, upF_2] at *; omega)) (by first | omega | exact (hg.2 _ _ _).2 | exact (hg.1 _).2 | (simp only [Int.toNat_natCast, upF_2] at *; omega)) (by first | omega | (simp only [Int.toNat_natCast, upF_2] at *; omega)) ?_
    refine w_iconst rfl ?_
    refine w_ireturn rfl rfl ?_
    exact ⟨rfl, rfl⟩
  refine w_aload_n rfl rfl ?_
  refine w_iload_n rfl rfl ?_
  refine w_iflt_f rfl (by first | omega | exact (hg.2 _ _ _).1 | exact (hg.1 _).1 | (simp only [Int.toNat_natCast, upF_2] at *; omega)) (by first | omega | exact (hg.2 _ _ _).2 | exact (hg.1 _).2 | (simp only [Int.toNat_natCast, upF_2] at *; omega)) (by first | omega | (simp only [Int.toNat_natCast, upF_2] at *; omega)) ?_
  refine w_iload_n rfl rfl ?_
  refine w_bipush rfl rfl ?_
  refine w_icle_f rfl (by first | omega | exact (hg.2 _ _ _).1 | exact (hg.1 _).1 | (simp only [Int.toNat_natCast, upF_2] at *; omega)) (by first | omega | exact (hg.2 _ _ _).2 | exact (hg.1 _).2 | (simp only [Int.toNat_natCast, upF_2] at *; omega)) (by first | omega | exact (hg.2 _ _ _).1 | exact (hg.1 _).1 | (simp only [Int.toNat_natCast, upF_2] at *; omega)) (by first | omega | exact (hg.2 _ _ _).2 | exact (hg.1 _).2 | (simp only [Int.toNat_natCast, upF_2] at *; omega)) (by first | omega | (simp only [Int.toNat_natCast, upF_2] at *; omega)) ?_
  refine w_iconst rfl ?_
  refine w_goto rfl ?_
  refine w_iconst rfl ?_
  refine w_cvV rfl (by decide) (by first | omega | (simp only [Int.toNat_natCast, upF_2] at *; omega)) rfl RH_obj mt_112 (Nat.le_of_ble_eq_true rfl) (Nat.le_of_ble_eq_true rfl) (r_fails1 hb (by assumption) _) ?_
  refine w_ifeq_f rfl (by first | omega | exact (hg.2 _ _ _).1 | exact (hg.1 _).1 | (simp only [Int.toNat_natCast, upF_2] at *; omega)) (by first | omega | exact (hg.2 _ _ _).2 | exact (hg.1 _).2 | (simp only [Int.toNat_natCast, upF_2] at *; omega)) (by first | omega | (simp only [Int.toNat_natCast, upF_2] at *; omega)) ?_
  refine w_iconst rfl ?_
  refine w_ireturn rfl rfl ?_
  exact ⟨rfl, rfl⟩
def rCount (ρ : RS) (w : Int) : Int := if w = 0 then ρ.1 7 else if w = 1 then cnt (fun n => ρ.2 1 0 n ≠ 0) 0 256 else if w = 2 then ρ.1 16 else if w = 3 then pts (ρ.1 9) (ρ.1 8 - 1) else if w = 4 then ρ.1 9 + pts (ρ.1 9) (ρ.1 8 - 1) else if w = 5 then ρ.1 43 else if w = 6 then ρ.1 44 else ρ.1 45
theorem r_count (hb : b < m0) (hg : Rg ρ) (d : Nat) (hd : 2 ≤ d) {w : Int} (k1 : 4 ≤ ρ.1 8) (k2 : ρ.1 8 ≤ 1000) (w1 : 0 ≤ ρ.1 9) (w2 : ρ.1 9 ≤ 4000) (q1 : 0 ≤ w) (q2 : w ≤ 7) : Wp b L xs d mi_144 0 (ent (mL mi_144) [.ref m0, vI w]) [] (RH m0 h ρ) (Rt (RH m0 h (upF ρ 0 0)) (vI (rCount ρ w))) := by
  have hg0 : Rg (upF ρ 0 0) := hg.upF 0 (by decide) (by decide)
  have e8 : (upF ρ 0 0).1 8 = ρ.1 8 := rfl
  have e9 : (upF ρ 0 0).1 9 = ρ.1 9 := rfl
  refine w_aload_n rfl rfl ?_
  refine w_iload_n rfl rfl ?_
  refine w_iflt_f rfl (by first | omega | exact (hg.2 _ _ _).1 | exact (hg.1 _).1 | (simp only [Int.toNat_natCast, upF_2] at *; omega)) (by first | omega | exact (hg.2 _ _ _).2 | exact (hg.1 _).2 | (simp only [Int.toNat_natCast, upF_2] at *; omega)) (by first | omega | (simp only [Int.toNat_natCast, upF_2] at *; omega)) ?_
  refine w_iload_n rfl rfl ?_
  refine w_bipush rfl rfl ?_
  refine w_icle_t rfl (by first | omega | exact (hg.2 _ _ _).1 | exact (hg.1 _).1 | (simp only [Int.toNat_natCast, upF_2] at *; omega)) (by first | omega | exact (hg.2 _ _ _).2 | exact (hg.1 _).2 | (simp only [Int.toNat_natCast, upF_2] at *; omega)) (by first | omega | exact (hg.2 _ _ _).1 | exact (hg.1 _).1 | (simp only [Int.toNat_natCast, upF_2] at *; omega)) (by first | omega | exact (hg.2 _ _ _).2 | exact (hg.1 _).2 | (simp only [Int.toNat_natCast, upF_2] at *; omega)) (by first | omega | (simp only [Int.toNat_natCast, upF_2] at *; omega)) ?_
  refine w_iconst rfl ?_
  refine w_iconst rfl ?_
  refine w_cvV rfl (by decide) (by first | omega | (simp only [Int.toNat_natCast, upF_2] at *; omega)) rfl RH_obj mt_112 (Nat.le_of_ble_eq_true rfl) (Nat.le_of_ble_eq_true rfl) (r_fails0 hb (by assumption) _) ?_
  refine w_ifeq_t rfl (by first | omega | exact (hg.2 _ _ _).1 | exact (hg.1 _).1 | (simp only [Int.toNat_natCast, upF_2] at *; omega)) (by first | omega | exact (hg.2 _ _ _).2 | exact (hg.1 _).2 | (simp only [Int.toNat_natCast, upF_2] at *; omega)) (by first | omega | (simp only [Int.toNat_natCast, upF_2] at *; omega)) ?_
  refine w_iconst rfl ?_
  refine w_istore_n rfl (by decide) ?_
  refine w_iconst rfl ?_
  refine w_istore_n rfl (by decide) ?_
  refine r_count_l (ρ := upF ρ 0 0) hb hg0 d 256 0 0 rfl (Nat.zero_add _) ?_
  obtain rfl | rfl | rfl | rfl | rfl | rfl | rfl | rfl : w = 0 ∨ w = 1 ∨ w = 2 ∨ w = 3 ∨ w = 4 ∨ w = 5 ∨ w = 6 ∨ w = 7 := by omega
  · refine w_iload_n rfl rfl ?_
    refine w_tsw rfl (by first | omega | exact (hg.2 _ _ _).1 | exact (hg.1 _).1 | (simp only [Int.toNat_natCast, upF_2] at *; omega)) (by first | omega | exact (hg.2 _ _ _).2 | exact (hg.1 _).2 | (simp only [Int.toNat_natCast, upF_2] at *; omega)) (by first | omega | (simp only [Int.toNat_natCast, upF_2] at *; omega)) (by first | omega | (simp only [Int.toNat_natCast, upF_2] at *; omega)) rfl ?_
    refine w_aload_n rfl rfl ?_
    refine m_get rfl rfl ?_
    refine w_ireturn rfl rfl ?_
    exact ⟨rfl, rfl⟩
  · refine w_iload_n rfl rfl ?_
    refine w_tsw rfl (by first | omega | exact (hg.2 _ _ _).1 | exact (hg.1 _).1 | (simp only [Int.toNat_natCast, upF_2] at *; omega)) (by first | omega | exact (hg.2 _ _ _).2 | exact (hg.1 _).2 | (simp only [Int.toNat_natCast, upF_2] at *; omega)) (by first | omega | (simp only [Int.toNat_natCast, upF_2] at *; omega)) (by first | omega | (simp only [Int.toNat_natCast, upF_2] at *; omega)) rfl ?_
    refine w_iload_n rfl rfl ?_
    refine w_ireturn rfl rfl ?_
    exact ⟨rfl, rfl⟩
  · refine w_iload_n rfl rfl ?_
    refine w_tsw rfl (by first | omega | exact (hg.2 _ _ _).1 | exact (hg.1 _).1 | (simp only [Int.toNat_natCast, upF_2] at *; omega)) (by first | omega | exact (hg.2 _ _ _).2 | exact (hg.1 _).2 | (simp only [Int.toNat_natCast, upF_2] at *; omega)) (by first | omega | (simp only [Int.toNat_natCast, upF_2] at *; omega)) (by first | omega | (simp only [Int.toNat_natCast, upF_2] at *; omega)) rfl ?_
    refine w_aload_n rfl rfl ?_
    refine m_get rfl rfl ?_
    refine w_ireturn rfl rfl ?_
    exact ⟨rfl, rfl⟩
  · refine w_iload_n rfl rfl ?_
    refine w_tsw rfl (by first | omega | exact (hg.2 _ _ _).1 | exact (hg.1 _).1 | (simp only [Int.toNat_natCast, upF_2] at *; omega)) (by first | omega | exact (hg.2 _ _ _).2 | exact (hg.1 _).2 | (simp only [Int.toNat_natCast, upF_2] at *; omega)) (by first | omega | (simp only [Int.toNat_natCast, upF_2] at *; omega)) (by first | omega | (simp only [Int.toNat_natCast, upF_2] at *; omega)) rfl ?_
    refine w_aload_n rfl rfl ?_
    refine m_get rfl rfl ?_
    refine w_aload_n rfl rfl ?_
    refine m_get rfl rfl ?_
    refine w_iconst rfl ?_
    refine w_isub rfl ?_
    refine w_csV rfl (by decide) (by first | omega | (simp only [Int.toNat_natCast, upF_2] at *; omega)) rfl mt_124 (Nat.le_of_ble_eq_true rfl) (Nat.le_of_ble_eq_true rfl) (r_parts _ (by rw [e9]; omega) (by rw [e9]; omega) (by rw [e8]; omega) (by rw [e8]; omega)) ?_
    refine w_ireturn rfl rfl ?_
    exact ⟨rfl, rfl⟩
  · refine w_iload_n rfl rfl ?_
    refine w_tsw rfl (by first | omega | exact (hg.2 _ _ _).1 | exact (hg.1 _).1 | (simp only [Int.toNat_natCast, upF_2] at *; omega)) (by first | omega | exact (hg.2 _ _ _).2 | exact (hg.1 _).2 | (simp only [Int.toNat_natCast, upF_2] at *; omega)) (by first | omega | (simp only [Int.toNat_natCast, upF_2] at *; omega)) (by first | omega | (simp only [Int.toNat_natCast, upF_2] at *; omega)) rfl ?_
    refine w_aload_n rfl rfl ?_
    refine m_get rfl rfl ?_
    refine w_aload_n rfl rfl ?_
    refine m_get rfl rfl ?_
    refine w_csV rfl (by decide) (by first | omega | (simp only [Int.toNat_natCast, upF_2] at *; omega)) rfl mt_125 (Nat.le_of_ble_eq_true rfl) (Nat.le_of_ble_eq_true rfl) (r_all _ (by omega) (by rw [e9]; omega) (by rw [e9]; omega) (by rw [e8]; omega) (by rw [e8]; omega)) ?_
    refine w_ireturn rfl rfl ?_
    exact ⟨rfl, rfl⟩
  · refine w_iload_n rfl rfl ?_
    refine w_tsw rfl (by first | omega | exact (hg.2 _ _ _).1 | exact (hg.1 _).1 | (simp only [Int.toNat_natCast, upF_2] at *; omega)) (by first | omega | exact (hg.2 _ _ _).2 | exact (hg.1 _).2 | (simp only [Int.toNat_natCast, upF_2] at *; omega)) (by first | omega | (simp only [Int.toNat_natCast, upF_2] at *; omega)) (by first | omega | (simp only [Int.toNat_natCast, upF_2] at *; omega)) rfl ?_
    refine w_aload_n rfl rfl ?_
    refine m_get rfl rfl ?_
    refine w_ireturn rfl rfl ?_
    exact ⟨rfl, rfl⟩
  · refine w_iload_n rfl rfl ?_
    refine w_tsw rfl (by first | omega | exact (hg.2 _ _ _).1 | exact (hg.1 _).1 | (simp only [Int.toNat_natCast, upF_2] at *; omega)) (by first | omega | exact (hg.2 _ _ _).2 | exact (hg.1 _).2 | (simp only [Int.toNat_natCast, upF_2] at *; omega)) (by first | omega | (simp only [Int.toNat_natCast, upF_2] at *; omega)) (by first | omega | (simp only [Int.toNat_natCast, upF_2] at *; omega)) rfl ?_
    refine w_aload_n rfl rfl ?_
    refine m_get rfl rfl ?_
    refine w_ireturn rfl rfl ?_
    exact ⟨rfl, rfl⟩
  · refine w_iload_n rfl rfl ?_
    refine w_tswd rfl (by first | omega | exact (hg.2 _ _ _).1 | exact (hg.1 _).1 | (simp only [Int.toNat_natCast, upF_2] at *; omega)) (by first | omega | exact (hg.2 _ _ _).2 | exact (hg.1 _).2 | (simp only [Int.toNat_natCast, upF_2] at *; omega)) (by omega) ?_
    refine w_aload_n rfl rfl ?_
    refine m_get rfl rfl ?_
    refine w_ireturn rfl rfl ?_
    exact ⟨rfl, rfl⟩
theorem r_node_1 (hb : b < m0) (hg : Rg ρ) (d : Nat) (hd : 1 ≤ d) {r n w : Int} (r1 : r = 0 ∨ r = 1) (n1 : -2147483648 ≤ n) (n2 : n ≤ 2147483647) (w1 : -2147483648 ≤ w) (w2 : w ≤ 2147483647) (z1 : ρ.1 42 = 0 ∨ ρ.1 42 = 1) (hc : w < 0 ∨ 5 < w) : Wp b L xs d mi_141 0 (ent (mL mi_141) [.ref m0, vI r, vI n, vI w]) [] (RH m0 h ρ) (Rt (RH m0 h (upF ρ 0 1)) (vI 0)) := by
  by_cases q : w < 0
  · refine w_aload_n rfl rfl ?_
    refine w_iload_n rfl rfl ?_
    refine w_iflt_t rfl (by first | omega | exact (hg.2 _ _ _).1 | exact (hg.1 _).1 | (simp only [Int.toNat_natCast, upF_2] at *; omega)) (by first | omega | exact (hg.2 _ _ _).2 | exact (hg.1 _).2 | (simp only [Int.toNat_natCast, upF_2] at *; omega)) (by first | omega | (simp only [Int.toNat_natCast, upF_2] at *; omega)) ?_
    refine w_iconst rfl ?_
    refine w_goto rfl ?_
    refine w_iconst rfl ?_
    refine w_cvV rfl (by decide) (by first | omega | (simp only [Int.toNat_natCast, upF_2] at *; omega)) rfl RH_obj mt_112 (Nat.le_of_ble_eq_true rfl) (Nat.le_of_ble_eq_true rfl) (r_fails1 hb (by assumption) _) ?_
    refine w_ifeq_f rfl (by first | omega | exact (hg.2 _ _ _).1 | exact (hg.1 _).1 | (simp only [Int.toNat_natCast, upF_2] at *; omega)) (by first | omega | exact (hg.2 _ _ _).2 | exact (hg.1 _).2 | (simp only [Int.toNat_natCast, upF_2] at *; omega)) (by first | omega | (simp only [Int.toNat_natCast, upF_2] at *; omega)) ?_
    refine w_iconst rfl ?_
    refine w_ireturn rfl rfl ?_
    exact ⟨rfl, rfl⟩
  refine w_aload_n rfl rfl ?_
  refine w_iload_n rfl rfl ?_
  refine w_iflt_f rfl (by first | omega | exact (hg.2 _ _ _).1 | exact (hg.1 _).1 | (simp only [Int.toNat_natCast, upF_2] at *; omega)) (by first | omega | exact (hg.2 _ _ _).2 | exact (hg.1 _).2 | (simp only [Int.toNat_natCast, upF_2] at *; omega)) (by first | omega | (simp only [Int.toNat_natCast, upF_2] at *; omega)) ?_
  refine w_iload_n rfl rfl ?_
  refine w_iconst rfl ?_
  refine w_icle_f rfl (by first | omega | exact (hg.2 _ _ _).1 | exact (hg.1 _).1 | (simp only [Int.toNat_natCast, upF_2] at *; omega)) (by first | omega | exact (hg.2 _ _ _).2 | exact (hg.1 _).2 | (simp only [Int.toNat_natCast, upF_2] at *; omega)) (by first | omega | exact (hg.2 _ _ _).1 | exact (hg.1 _).1 | (simp only [Int.toNat_natCast, upF_2] at *; omega)) (by first | omega | exact (hg.2 _ _ _).2 | exact (hg.1 _).2 | (simp only [Int.toNat_natCast, upF_2] at *; omega)) (by first | omega | (simp only [Int.toNat_natCast, upF_2] at *; omega)) ?_
  refine w_iconst rfl ?_
  refine w_goto rfl ?_
  refine w_iconst rfl ?_
  refine w_cvV rfl (by decide) (by first | omega | (simp only [Int.toNat_natCast, upF_2] at *; omega)) rfl RH_obj mt_112 (Nat.le_of_ble_eq_true rfl) (Nat.le_of_ble_eq_true rfl) (r_fails1 hb (by assumption) _) ?_
  refine w_ifeq_f rfl (by first | omega | exact (hg.2 _ _ _).1 | exact (hg.1 _).1 | (simp only [Int.toNat_natCast, upF_2] at *; omega)) (by first | omega | exact (hg.2 _ _ _).2 | exact (hg.1 _).2 | (simp only [Int.toNat_natCast, upF_2] at *; omega)) (by first | omega | (simp only [Int.toNat_natCast, upF_2] at *; omega)) ?_
  refine w_iconst rfl ?_
  refine w_ireturn rfl rfl ?_
  exact ⟨rfl, rfl⟩
theorem r_node_2 (hb : b < m0) (hg : Rg ρ) (d : Nat) (hd : 1 ≤ d) {r n w : Int} (r1 : r = 0 ∨ r = 1) (n1 : -2147483648 ≤ n) (n2 : n ≤ 2147483647) (w1 : -2147483648 ≤ w) (w2 : w ≤ 2147483647) (z1 : ρ.1 42 = 0 ∨ ρ.1 42 = 1) (q1 : 0 ≤ w) (q2 : w ≤ 5) (q3 : r = 1) (q4 : ρ.1 42 = 0) : Wp b L xs d mi_141 0 (ent (mL mi_141) [.ref m0, vI r, vI n, vI w]) [] (RH m0 h ρ) (Rt (RH m0 h (upF ρ 0 2)) (vI 0)) := by
  have hg0 : Rg (upF ρ 0 0) := hg.upF 0 (by decide) (by decide)
  have e42 : (upF ρ 0 0).1 42 = ρ.1 42 := rfl
  refine w_aload_n rfl rfl ?_
  refine w_iload_n rfl rfl ?_
  refine w_iflt_f rfl (by first | omega | (rw [e42]; omega) | exact (hg.2 _ _ _).1 | exact (hg.1 _).1 | (simp only [Int.toNat_natCast, upF_2] at *; omega)) (by first | omega | (rw [e42]; omega) | exact (hg.2 _ _ _).2 | exact (hg.1 _).2 | (simp only [Int.toNat_natCast, upF_2] at *; omega)) (by first | omega | (rw [e42]; omega) | (simp only [Int.toNat_natCast, upF_2] at *; omega)) ?_
  refine w_iload_n rfl rfl ?_
  refine w_iconst rfl ?_
  refine w_icle_t rfl (by first | omega | (rw [e42]; omega) | exact (hg.2 _ _ _).1 | exact (hg.1 _).1 | (simp only [Int.toNat_natCast, upF_2] at *; omega)) (by first | omega | (rw [e42]; omega) | exact (hg.2 _ _ _).2 | exact (hg.1 _).2 | (simp only [Int.toNat_natCast, upF_2] at *; omega)) (by first | omega | (rw [e42]; omega) | exact (hg.2 _ _ _).1 | exact (hg.1 _).1 | (simp only [Int.toNat_natCast, upF_2] at *; omega)) (by first | omega | (rw [e42]; omega) | exact (hg.2 _ _ _).2 | exact (hg.1 _).2 | (simp only [Int.toNat_natCast, upF_2] at *; omega)) (by first | omega | (rw [e42]; omega) | (simp only [Int.toNat_natCast, upF_2] at *; omega)) ?_
  refine w_iconst rfl ?_
  refine w_iconst rfl ?_
  refine w_cvV rfl (by decide) (by first | omega | (rw [e42]; omega) | (simp only [Int.toNat_natCast, upF_2] at *; omega)) rfl RH_obj mt_112 (Nat.le_of_ble_eq_true rfl) (Nat.le_of_ble_eq_true rfl) (r_fails0 hb (by assumption) _) ?_
  refine w_ifeq_t rfl (by first | omega | (rw [e42]; omega) | exact (hg.2 _ _ _).1 | exact (hg.1 _).1 | (simp only [Int.toNat_natCast, upF_2] at *; omega)) (by first | omega | (rw [e42]; omega) | exact (hg.2 _ _ _).2 | exact (hg.1 _).2 | (simp only [Int.toNat_natCast, upF_2] at *; omega)) (by first | omega | (rw [e42]; omega) | (simp only [Int.toNat_natCast, upF_2] at *; omega)) ?_
  refine w_aload_n rfl rfl ?_
  refine w_iload_n rfl rfl ?_
  refine w_ifeq_f rfl (by first | omega | (rw [e42]; omega) | exact (hg.2 _ _ _).1 | exact (hg.1 _).1 | (simp only [Int.toNat_natCast, upF_2] at *; omega)) (by first | omega | (rw [e42]; omega) | exact (hg.2 _ _ _).2 | exact (hg.1 _).2 | (simp only [Int.toNat_natCast, upF_2] at *; omega)) (by first | omega | (rw [e42]; omega) | (simp only [Int.toNat_natCast, upF_2] at *; omega)) ?_
  refine w_aload_n rfl rfl ?_
  refine m_get rfl rfl ?_
  refine w_ifne_f rfl (by first | omega | (rw [e42]; omega) | exact (hg.2 _ _ _).1 | exact (hg.1 _).1 | (simp only [Int.toNat_natCast, upF_2] at *; omega)) (by first | omega | (rw [e42]; omega) | exact (hg.2 _ _ _).2 | exact (hg.1 _).2 | (simp only [Int.toNat_natCast, upF_2] at *; omega)) (by first | omega | (rw [e42]; omega) | (simp only [Int.toNat_natCast, upF_2] at *; omega)) ?_
  refine w_iconst rfl ?_
  refine w_goto rfl ?_
  refine w_iconst rfl ?_
  refine w_cvV rfl (by decide) (by first | omega | (rw [e42]; omega) | (simp only [Int.toNat_natCast, upF_2] at *; omega)) rfl RH_obj mt_112 (Nat.le_of_ble_eq_true rfl) (Nat.le_of_ble_eq_true rfl) (r_fails1 hb (by assumption) _) ?_
  rw [upF_upF]
  refine w_ifeq_f rfl (by first | omega | (rw [e42]; omega) | exact (hg.2 _ _ _).1 | exact (hg.1 _).1 | (simp only [Int.toNat_natCast, upF_2] at *; omega)) (by first | omega | (rw [e42]; omega) | exact (hg.2 _ _ _).2 | exact (hg.1 _).2 | (simp only [Int.toNat_natCast, upF_2] at *; omega)) (by first | omega | (rw [e42]; omega) | (simp only [Int.toNat_natCast, upF_2] at *; omega)) ?_
  refine w_iconst rfl ?_
  refine w_ireturn rfl rfl ?_
  exact ⟨rfl, rfl⟩
theorem r_node_3 (hb : b < m0) (hg : Rg ρ) (d : Nat) (hd : 1 ≤ d) {r n w : Int} (r1 : r = 0 ∨ r = 1) (n1 : -2147483648 ≤ n) (n2 : n ≤ 2147483647) (w1 : -2147483648 ≤ w) (w2 : w ≤ 2147483647) (z1 : ρ.1 42 = 0 ∨ ρ.1 42 = 1) (q1 : 0 ≤ w) (q2 : w ≤ 5) (q3 : r = 0 ∨ ρ.1 42 = 1) (q4 : n < 0 ∨ 256 ≤ n) : Wp b L xs d mi_141 0 (ent (mL mi_141) [.ref m0, vI r, vI n, vI w]) [] (RH m0 h ρ) (Rt (RH m0 h (upF ρ 0 3)) (vI 0)) := by
  have hg0 : Rg (upF ρ 0 0) := hg.upF 0 (by decide) (by decide)
  have e42 : (upF ρ 0 0).1 42 = ρ.1 42 := rfl
  by_cases q5 : r = 0
  · by_cases q6 : n < 0
    · refine w_aload_n rfl rfl ?_
      refine w_iload_n rfl rfl ?_
      refine w_iflt_f rfl (by first | omega | (rw [e42]; omega) | exact (hg.2 _ _ _).1 | exact (hg.1 _).1 | (simp only [Int.toNat_natCast, upF_2] at *; omega)) (by first | omega | (rw [e42]; omega) | exact (hg.2 _ _ _).2 | exact (hg.1 _).2 | (simp only [Int.toNat_natCast, upF_2] at *; omega)) (by first | omega | (rw [e42]; omega) | (simp only [Int.toNat_natCast, upF_2] at *; omega)) ?_
      refine w_iload_n rfl rfl ?_
      refine w_iconst rfl ?_
      refine w_icle_t rfl (by first | omega | (rw [e42]; omega) | exact (hg.2 _ _ _).1 | exact (hg.1 _).1 | (simp only [Int.toNat_natCast, upF_2] at *; omega)) (by first | omega | (rw [e42]; omega) | exact (hg.2 _ _ _).2 | exact (hg.1 _).2 | (simp only [Int.toNat_natCast, upF_2] at *; omega)) (by first | omega | (rw [e42]; omega) | exact (hg.2 _ _ _).1 | exact (hg.1 _).1 | (simp only [Int.toNat_natCast, upF_2] at *; omega)) (by first | omega | (rw [e42]; omega) | exact (hg.2 _ _ _).2 | exact (hg.1 _).2 | (simp only [Int.toNat_natCast, upF_2] at *; omega)) (by first | omega | (rw [e42]; omega) | (simp only [Int.toNat_natCast, upF_2] at *; omega)) ?_
      refine w_iconst rfl ?_
      refine w_iconst rfl ?_
      refine w_cvV rfl (by decide) (by first | omega | (rw [e42]; omega) | (simp only [Int.toNat_natCast, upF_2] at *; omega)) rfl RH_obj mt_112 (Nat.le_of_ble_eq_true rfl) (Nat.le_of_ble_eq_true rfl) (r_fails0 hb (by assumption) _) ?_
      refine w_ifeq_t rfl (by first | omega | (rw [e42]; omega) | exact (hg.2 _ _ _).1 | exact (hg.1 _).1 | (simp only [Int.toNat_natCast, upF_2] at *; omega)) (by first | omega | (rw [e42]; omega) | exact (hg.2 _ _ _).2 | exact (hg.1 _).2 | (simp only [Int.toNat_natCast, upF_2] at *; omega)) (by first | omega | (rw [e42]; omega) | (simp only [Int.toNat_natCast, upF_2] at *; omega)) ?_
      refine w_aload_n rfl rfl ?_
      refine w_iload_n rfl rfl ?_
      refine w_ifeq_t rfl (by first | omega | (rw [e42]; omega) | exact (hg.2 _ _ _).1 | exact (hg.1 _).1 | (simp only [Int.toNat_natCast, upF_2] at *; omega)) (by first | omega | (rw [e42]; omega) | exact (hg.2 _ _ _).2 | exact (hg.1 _).2 | (simp only [Int.toNat_natCast, upF_2] at *; omega)) (by first | omega | (rw [e42]; omega) | (simp only [Int.toNat_natCast, upF_2] at *; omega)) ?_
      refine w_iconst rfl ?_
      refine w_iconst rfl ?_
      refine w_cvV rfl (by decide) (by first | omega | (rw [e42]; omega) | (simp only [Int.toNat_natCast, upF_2] at *; omega)) rfl RH_obj mt_112 (Nat.le_of_ble_eq_true rfl) (Nat.le_of_ble_eq_true rfl) (r_fails0 hb (by assumption) _) ?_
      rw [upF_upF]
      refine w_ifeq_t rfl (by first | omega | (rw [e42]; omega) | exact (hg.2 _ _ _).1 | exact (hg.1 _).1 | (simp only [Int.toNat_natCast, upF_2] at *; omega)) (by first | omega | (rw [e42]; omega) | exact (hg.2 _ _ _).2 | exact (hg.1 _).2 | (simp only [Int.toNat_natCast, upF_2] at *; omega)) (by first | omega | (rw [e42]; omega) | (simp only [Int.toNat_natCast, upF_2] at *; omega)) ?_
      refine w_aload_n rfl rfl ?_
      refine w_iload_n rfl rfl ?_
      refine w_iflt_t rfl (by first | omega | (rw [e42]; omega) | exact (hg.2 _ _ _).1 | exact (hg.1 _).1 | (simp only [Int.toNat_natCast, upF_2] at *; omega)) (by first | omega | (rw [e42]; omega) | exact (hg.2 _ _ _).2 | exact (hg.1 _).2 | (simp only [Int.toNat_natCast, upF_2] at *; omega)) (by first | omega | (rw [e42]; omega) | (simp only [Int.toNat_natCast, upF_2] at *; omega)) ?_
      refine w_iconst rfl ?_
      refine w_goto rfl ?_
      refine w_iconst rfl ?_
      refine w_cvV rfl (by decide) (by first | omega | (rw [e42]; omega) | (simp only [Int.toNat_natCast, upF_2] at *; omega)) rfl RH_obj mt_112 (Nat.le_of_ble_eq_true rfl) (Nat.le_of_ble_eq_true rfl) (r_fails1 hb (by assumption) _) ?_
      rw [upF_upF]
      refine w_ifeq_f rfl (by first | omega | (rw [e42]; omega) | exact (hg.2 _ _ _).1 | exact (hg.1 _).1 | (simp only [Int.toNat_natCast, upF_2] at *; omega)) (by first | omega | (rw [e42]; omega) | exact (hg.2 _ _ _).2 | exact (hg.1 _).2 | (simp only [Int.toNat_natCast, upF_2] at *; omega)) (by first | omega | (rw [e42]; omega) | (simp only [Int.toNat_natCast, upF_2] at *; omega)) ?_
      refine w_iconst rfl ?_
      refine w_ireturn rfl rfl ?_
      exact ⟨rfl, rfl⟩
    · refine w_aload_n rfl rfl ?_
      refine w_iload_n rfl rfl ?_
      refine w_iflt_f rfl (by first | omega | (rw [e42]; omega) | exact (hg.2 _ _ _).1 | exact (hg.1 _).1 | (simp only [Int.toNat_natCast, upF_2] at *; omega)) (by first | omega | (rw [e42]; omega) | exact (hg.2 _ _ _).2 | exact (hg.1 _).2 | (simp only [Int.toNat_natCast, upF_2] at *; omega)) (by first | omega | (rw [e42]; omega) | (simp only [Int.toNat_natCast, upF_2] at *; omega)) ?_
      refine w_iload_n rfl rfl ?_
      refine w_iconst rfl ?_
      refine w_icle_t rfl (by first | omega | (rw [e42]; omega) | exact (hg.2 _ _ _).1 | exact (hg.1 _).1 | (simp only [Int.toNat_natCast, upF_2] at *; omega)) (by first | omega | (rw [e42]; omega) | exact (hg.2 _ _ _).2 | exact (hg.1 _).2 | (simp only [Int.toNat_natCast, upF_2] at *; omega)) (by first | omega | (rw [e42]; omega) | exact (hg.2 _ _ _).1 | exact (hg.1 _).1 | (simp only [Int.toNat_natCast, upF_2] at *; omega)) (by first | omega | (rw [e42]; omega) | exact (hg.2 _ _ _).2 | exact (hg.1 _).2 | (simp only [Int.toNat_natCast, upF_2] at *; omega)) (by first | omega | (rw [e42]; omega) | (simp only [Int.toNat_natCast, upF_2] at *; omega)) ?_
      refine w_iconst rfl ?_
      refine w_iconst rfl ?_
      refine w_cvV rfl (by decide) (by first | omega | (rw [e42]; omega) | (simp only [Int.toNat_natCast, upF_2] at *; omega)) rfl RH_obj mt_112 (Nat.le_of_ble_eq_true rfl) (Nat.le_of_ble_eq_true rfl) (r_fails0 hb (by assumption) _) ?_
      refine w_ifeq_t rfl (by first | omega | (rw [e42]; omega) | exact (hg.2 _ _ _).1 | exact (hg.1 _).1 | (simp only [Int.toNat_natCast, upF_2] at *; omega)) (by first | omega | (rw [e42]; omega) | exact (hg.2 _ _ _).2 | exact (hg.1 _).2 | (simp only [Int.toNat_natCast, upF_2] at *; omega)) (by first | omega | (rw [e42]; omega) | (simp only [Int.toNat_natCast, upF_2] at *; omega)) ?_
      refine w_aload_n rfl rfl ?_
      refine w_iload_n rfl rfl ?_
      refine w_ifeq_t rfl (by first | omega | (rw [e42]; omega) | exact (hg.2 _ _ _).1 | exact (hg.1 _).1 | (simp only [Int.toNat_natCast, upF_2] at *; omega)) (by first | omega | (rw [e42]; omega) | exact (hg.2 _ _ _).2 | exact (hg.1 _).2 | (simp only [Int.toNat_natCast, upF_2] at *; omega)) (by first | omega | (rw [e42]; omega) | (simp only [Int.toNat_natCast, upF_2] at *; omega)) ?_
      refine w_iconst rfl ?_
      refine w_iconst rfl ?_
      refine w_cvV rfl (by decide) (by first | omega | (rw [e42]; omega) | (simp only [Int.toNat_natCast, upF_2] at *; omega)) rfl RH_obj mt_112 (Nat.le_of_ble_eq_true rfl) (Nat.le_of_ble_eq_true rfl) (r_fails0 hb (by assumption) _) ?_
      rw [upF_upF]
      refine w_ifeq_t rfl (by first | omega | (rw [e42]; omega) | exact (hg.2 _ _ _).1 | exact (hg.1 _).1 | (simp only [Int.toNat_natCast, upF_2] at *; omega)) (by first | omega | (rw [e42]; omega) | exact (hg.2 _ _ _).2 | exact (hg.1 _).2 | (simp only [Int.toNat_natCast, upF_2] at *; omega)) (by first | omega | (rw [e42]; omega) | (simp only [Int.toNat_natCast, upF_2] at *; omega)) ?_
      refine w_aload_n rfl rfl ?_
      refine w_iload_n rfl rfl ?_
      refine w_iflt_f rfl (by first | omega | (rw [e42]; omega) | exact (hg.2 _ _ _).1 | exact (hg.1 _).1 | (simp only [Int.toNat_natCast, upF_2] at *; omega)) (by first | omega | (rw [e42]; omega) | exact (hg.2 _ _ _).2 | exact (hg.1 _).2 | (simp only [Int.toNat_natCast, upF_2] at *; omega)) (by first | omega | (rw [e42]; omega) | (simp only [Int.toNat_natCast, upF_2] at *; omega)) ?_
      refine w_iload_n rfl rfl ?_
      refine w_sipush rfl rfl ?_
      refine w_iclt_f rfl (by first | omega | (rw [e42]; omega) | exact (hg.2 _ _ _).1 | exact (hg.1 _).1 | (simp only [Int.toNat_natCast, upF_2] at *; omega)) (by first | omega | (rw [e42]; omega) | exact (hg.2 _ _ _).2 | exact (hg.1 _).2 | (simp only [Int.toNat_natCast, upF_2] at *; omega)) (by first | omega | (rw [e42]; omega) | exact (hg.2 _ _ _).1 | exact (hg.1 _).1 | (simp only [Int.toNat_natCast, upF_2] at *; omega)) (by first | omega | (rw [e42]; omega) | exact (hg.2 _ _ _).2 | exact (hg.1 _).2 | (simp only [Int.toNat_natCast, upF_2] at *; omega)) (by first | omega | (rw [e42]; omega) | (simp only [Int.toNat_natCast, upF_2] at *; omega)) ?_
      refine w_iconst rfl ?_
      refine w_goto rfl ?_
      refine w_iconst rfl ?_
      refine w_cvV rfl (by decide) (by first | omega | (rw [e42]; omega) | (simp only [Int.toNat_natCast, upF_2] at *; omega)) rfl RH_obj mt_112 (Nat.le_of_ble_eq_true rfl) (Nat.le_of_ble_eq_true rfl) (r_fails1 hb (by assumption) _) ?_
      rw [upF_upF]
      refine w_ifeq_f rfl (by first | omega | (rw [e42]; omega) | exact (hg.2 _ _ _).1 | exact (hg.1 _).1 | (simp only [Int.toNat_natCast, upF_2] at *; omega)) (by first | omega | (rw [e42]; omega) | exact (hg.2 _ _ _).2 | exact (hg.1 _).2 | (simp only [Int.toNat_natCast, upF_2] at *; omega)) (by first | omega | (rw [e42]; omega) | (simp only [Int.toNat_natCast, upF_2] at *; omega)) ?_
      refine w_iconst rfl ?_
      refine w_ireturn rfl rfl ?_
      exact ⟨rfl, rfl⟩
  · by_cases q6 : n < 0
    · refine w_aload_n rfl rfl ?_
      refine w_iload_n rfl rfl ?_
      refine w_iflt_f rfl (by first | omega | (rw [e42]; omega) | exact (hg.2 _ _ _).1 | exact (hg.1 _).1 | (simp only [Int.toNat_natCast, upF_2] at *; omega)) (by first | omega | (rw [e42]; omega) | exact (hg.2 _ _ _).2 | exact (hg.1 _).2 | (simp only [Int.toNat_natCast, upF_2] at *; omega)) (by first | omega | (rw [e42]; omega) | (simp only [Int.toNat_natCast, upF_2] at *; omega)) ?_
      refine w_iload_n rfl rfl ?_
      refine w_iconst rfl ?_
      refine w_icle_t rfl (by first | omega | (rw [e42]; omega) | exact (hg.2 _ _ _).1 | exact (hg.1 _).1 | (simp only [Int.toNat_natCast, upF_2] at *; omega)) (by first | omega | (rw [e42]; omega) | exact (hg.2 _ _ _).2 | exact (hg.1 _).2 | (simp only [Int.toNat_natCast, upF_2] at *; omega)) (by first | omega | (rw [e42]; omega) | exact (hg.2 _ _ _).1 | exact (hg.1 _).1 | (simp only [Int.toNat_natCast, upF_2] at *; omega)) (by first | omega | (rw [e42]; omega) | exact (hg.2 _ _ _).2 | exact (hg.1 _).2 | (simp only [Int.toNat_natCast, upF_2] at *; omega)) (by first | omega | (rw [e42]; omega) | (simp only [Int.toNat_natCast, upF_2] at *; omega)) ?_
      refine w_iconst rfl ?_
      refine w_iconst rfl ?_
      refine w_cvV rfl (by decide) (by first | omega | (rw [e42]; omega) | (simp only [Int.toNat_natCast, upF_2] at *; omega)) rfl RH_obj mt_112 (Nat.le_of_ble_eq_true rfl) (Nat.le_of_ble_eq_true rfl) (r_fails0 hb (by assumption) _) ?_
      refine w_ifeq_t rfl (by first | omega | (rw [e42]; omega) | exact (hg.2 _ _ _).1 | exact (hg.1 _).1 | (simp only [Int.toNat_natCast, upF_2] at *; omega)) (by first | omega | (rw [e42]; omega) | exact (hg.2 _ _ _).2 | exact (hg.1 _).2 | (simp only [Int.toNat_natCast, upF_2] at *; omega)) (by first | omega | (rw [e42]; omega) | (simp only [Int.toNat_natCast, upF_2] at *; omega)) ?_
      refine w_aload_n rfl rfl ?_
      refine w_iload_n rfl rfl ?_
      refine w_ifeq_f rfl (by first | omega | (rw [e42]; omega) | exact (hg.2 _ _ _).1 | exact (hg.1 _).1 | (simp only [Int.toNat_natCast, upF_2] at *; omega)) (by first | omega | (rw [e42]; omega) | exact (hg.2 _ _ _).2 | exact (hg.1 _).2 | (simp only [Int.toNat_natCast, upF_2] at *; omega)) (by first | omega | (rw [e42]; omega) | (simp only [Int.toNat_natCast, upF_2] at *; omega)) ?_
      refine w_aload_n rfl rfl ?_
      refine m_get rfl rfl ?_
      refine w_ifne_t rfl (by first | omega | (rw [e42]; omega) | exact (hg.2 _ _ _).1 | exact (hg.1 _).1 | (simp only [Int.toNat_natCast, upF_2] at *; omega)) (by first | omega | (rw [e42]; omega) | exact (hg.2 _ _ _).2 | exact (hg.1 _).2 | (simp only [Int.toNat_natCast, upF_2] at *; omega)) (by first | omega | (rw [e42]; omega) | (simp only [Int.toNat_natCast, upF_2] at *; omega)) ?_
      refine w_iconst rfl ?_
      refine w_iconst rfl ?_
      refine w_cvV rfl (by decide) (by first | omega | (rw [e42]; omega) | (simp only [Int.toNat_natCast, upF_2] at *; omega)) rfl RH_obj mt_112 (Nat.le_of_ble_eq_true rfl) (Nat.le_of_ble_eq_true rfl) (r_fails0 hb (by assumption) _) ?_
      rw [upF_upF]
      refine w_ifeq_t rfl (by first | omega | (rw [e42]; omega) | exact (hg.2 _ _ _).1 | exact (hg.1 _).1 | (simp only [Int.toNat_natCast, upF_2] at *; omega)) (by first | omega | (rw [e42]; omega) | exact (hg.2 _ _ _).2 | exact (hg.1 _).2 | (simp only [Int.toNat_natCast, upF_2] at *; omega)) (by first | omega | (rw [e42]; omega) | (simp only [Int.toNat_natCast, upF_2] at *; omega)) ?_
      refine w_aload_n rfl rfl ?_
      refine w_iload_n rfl rfl ?_
      refine w_iflt_t rfl (by first | omega | (rw [e42]; omega) | exact (hg.2 _ _ _).1 | exact (hg.1 _).1 | (simp only [Int.toNat_natCast, upF_2] at *; omega)) (by first | omega | (rw [e42]; omega) | exact (hg.2 _ _ _).2 | exact (hg.1 _).2 | (simp only [Int.toNat_natCast, upF_2] at *; omega)) (by first | omega | (rw [e42]; omega) | (simp only [Int.toNat_natCast, upF_2] at *; omega)) ?_
      refine w_iconst rfl ?_
      refine w_goto rfl ?_
      refine w_iconst rfl ?_
      refine w_cvV rfl (by decide) (by first | omega | (rw [e42]; omega) | (simp only [Int.toNat_natCast, upF_2] at *; omega)) rfl RH_obj mt_112 (Nat.le_of_ble_eq_true rfl) (Nat.le_of_ble_eq_true rfl) (r_fails1 hb (by assumption) _) ?_
      rw [upF_upF]
      refine w_ifeq_f rfl (by first | omega | (rw [e42]; omega) | exact (hg.2 _ _ _).1 | exact (hg.1 _).1 | (simp only [Int.toNat_natCast, upF_2] at *; omega)) (by first | omega | (rw [e42]; omega) | exact (hg.2 _ _ _).2 | exact (hg.1 _).2 | (simp only [Int.toNat_natCast, upF_2] at *; omega)) (by first | omega | (rw [e42]; omega) | (simp only [Int.toNat_natCast, upF_2] at *; omega)) ?_
      refine w_iconst rfl ?_
      refine w_ireturn rfl rfl ?_
      exact ⟨rfl, rfl⟩
    · refine w_aload_n rfl rfl ?_
      refine w_iload_n rfl rfl ?_
      refine w_iflt_f rfl (by first | omega | (rw [e42]; omega) | exact (hg.2 _ _ _).1 | exact (hg.1 _).1 | (simp only [Int.toNat_natCast, upF_2] at *; omega)) (by first | omega | (rw [e42]; omega) | exact (hg.2 _ _ _).2 | exact (hg.1 _).2 | (simp only [Int.toNat_natCast, upF_2] at *; omega)) (by first | omega | (rw [e42]; omega) | (simp only [Int.toNat_natCast, upF_2] at *; omega)) ?_
      refine w_iload_n rfl rfl ?_
      refine w_iconst rfl ?_
      refine w_icle_t rfl (by first | omega | (rw [e42]; omega) | exact (hg.2 _ _ _).1 | exact (hg.1 _).1 | (simp only [Int.toNat_natCast, upF_2] at *; omega)) (by first | omega | (rw [e42]; omega) | exact (hg.2 _ _ _).2 | exact (hg.1 _).2 | (simp only [Int.toNat_natCast, upF_2] at *; omega)) (by first | omega | (rw [e42]; omega) | exact (hg.2 _ _ _).1 | exact (hg.1 _).1 | (simp only [Int.toNat_natCast, upF_2] at *; omega)) (by first | omega | (rw [e42]; omega) | exact (hg.2 _ _ _).2 | exact (hg.1 _).2 | (simp only [Int.toNat_natCast, upF_2] at *; omega)) (by first | omega | (rw [e42]; omega) | (simp only [Int.toNat_natCast, upF_2] at *; omega)) ?_
      refine w_iconst rfl ?_
      refine w_iconst rfl ?_
      refine w_cvV rfl (by decide) (by first | omega | (rw [e42]; omega) | (simp only [Int.toNat_natCast, upF_2] at *; omega)) rfl RH_obj mt_112 (Nat.le_of_ble_eq_true rfl) (Nat.le_of_ble_eq_true rfl) (r_fails0 hb (by assumption) _) ?_
      refine w_ifeq_t rfl (by first | omega | (rw [e42]; omega) | exact (hg.2 _ _ _).1 | exact (hg.1 _).1 | (simp only [Int.toNat_natCast, upF_2] at *; omega)) (by first | omega | (rw [e42]; omega) | exact (hg.2 _ _ _).2 | exact (hg.1 _).2 | (simp only [Int.toNat_natCast, upF_2] at *; omega)) (by first | omega | (rw [e42]; omega) | (simp only [Int.toNat_natCast, upF_2] at *; omega)) ?_
      refine w_aload_n rfl rfl ?_
      refine w_iload_n rfl rfl ?_
      refine w_ifeq_f rfl (by first | omega | (rw [e42]; omega) | exact (hg.2 _ _ _).1 | exact (hg.1 _).1 | (simp only [Int.toNat_natCast, upF_2] at *; omega)) (by first | omega | (rw [e42]; omega) | exact (hg.2 _ _ _).2 | exact (hg.1 _).2 | (simp only [Int.toNat_natCast, upF_2] at *; omega)) (by first | omega | (rw [e42]; omega) | (simp only [Int.toNat_natCast, upF_2] at *; omega)) ?_
      refine w_aload_n rfl rfl ?_
      refine m_get rfl rfl ?_
      refine w_ifne_t rfl (by first | omega | (rw [e42]; omega) | exact (hg.2 _ _ _).1 | exact (hg.1 _).1 | (simp only [Int.toNat_natCast, upF_2] at *; omega)) (by first | omega | (rw [e42]; omega) | exact (hg.2 _ _ _).2 | exact (hg.1 _).2 | (simp only [Int.toNat_natCast, upF_2] at *; omega)) (by first | omega | (rw [e42]; omega) | (simp only [Int.toNat_natCast, upF_2] at *; omega)) ?_
      refine w_iconst rfl ?_
      refine w_iconst rfl ?_
      refine w_cvV rfl (by decide) (by first | omega | (rw [e42]; omega) | (simp only [Int.toNat_natCast, upF_2] at *; omega)) rfl RH_obj mt_112 (Nat.le_of_ble_eq_true rfl) (Nat.le_of_ble_eq_true rfl) (r_fails0 hb (by assumption) _) ?_
      rw [upF_upF]
      refine w_ifeq_t rfl (by first | omega | (rw [e42]; omega) | exact (hg.2 _ _ _).1 | exact (hg.1 _).1 | (simp only [Int.toNat_natCast, upF_2] at *; omega)) (by first | omega | (rw [e42]; omega) | exact (hg.2 _ _ _).2 | exact (hg.1 _).2 | (simp only [Int.toNat_natCast, upF_2] at *; omega)) (by first | omega | (rw [e42]; omega) | (simp only [Int.toNat_natCast, upF_2] at *; omega)) ?_
      refine w_aload_n rfl rfl ?_
      refine w_iload_n rfl rfl ?_
      refine w_iflt_f rfl (by first | omega | (rw [e42]; omega) | exact (hg.2 _ _ _).1 | exact (hg.1 _).1 | (simp only [Int.toNat_natCast, upF_2] at *; omega)) (by first | omega | (rw [e42]; omega) | exact (hg.2 _ _ _).2 | exact (hg.1 _).2 | (simp only [Int.toNat_natCast, upF_2] at *; omega)) (by first | omega | (rw [e42]; omega) | (simp only [Int.toNat_natCast, upF_2] at *; omega)) ?_
      refine w_iload_n rfl rfl ?_
      refine w_sipush rfl rfl ?_
      refine w_iclt_f rfl (by first | omega | (rw [e42]; omega) | exact (hg.2 _ _ _).1 | exact (hg.1 _).1 | (simp only [Int.toNat_natCast, upF_2] at *; omega)) (by first | omega | (rw [e42]; omega) | exact (hg.2 _ _ _).2 | exact (hg.1 _).2 | (simp only [Int.toNat_natCast, upF_2] at *; omega)) (by first | omega | (rw [e42]; omega) | exact (hg.2 _ _ _).1 | exact (hg.1 _).1 | (simp only [Int.toNat_natCast, upF_2] at *; omega)) (by first | omega | (rw [e42]; omega) | exact (hg.2 _ _ _).2 | exact (hg.1 _).2 | (simp only [Int.toNat_natCast, upF_2] at *; omega)) (by first | omega | (rw [e42]; omega) | (simp only [Int.toNat_natCast, upF_2] at *; omega)) ?_
      refine w_iconst rfl ?_
      refine w_goto rfl ?_
      refine w_iconst rfl ?_
      refine w_cvV rfl (by decide) (by first | omega | (rw [e42]; omega) | (simp only [Int.toNat_natCast, upF_2] at *; omega)) rfl RH_obj mt_112 (Nat.le_of_ble_eq_true rfl) (Nat.le_of_ble_eq_true rfl) (r_fails1 hb (by assumption) _) ?_
      rw [upF_upF]
      refine w_ifeq_f rfl (by first | omega | (rw [e42]; omega) | exact (hg.2 _ _ _).1 | exact (hg.1 _).1 | (simp only [Int.toNat_natCast, upF_2] at *; omega)) (by first | omega | (rw [e42]; omega) | exact (hg.2 _ _ _).2 | exact (hg.1 _).2 | (simp only [Int.toNat_natCast, upF_2] at *; omega)) (by first | omega | (rw [e42]; omega) | (simp only [Int.toNat_natCast, upF_2] at *; omega)) ?_
      refine w_iconst rfl ?_
      refine w_ireturn rfl rfl ?_
      exact ⟨rfl, rfl⟩
def rNode0 (ρ : RS) (n : Nat) (w : Int) : Int := if w = 0 then ρ.2 1 0 n else if w = 5 then 0 else if ρ.2 1 0 n = 0 then 0 else if w = 1 then ρ.2 2 0 n else if w = 2 then ρ.2 3 0 n else if w = 3 then (if ρ.2 1 0 n = 1 then ρ.2 4 0 n else rEnt ρ n) else ρ.2 5 0 n
def rNode1 (ρ : RS) (n : Nat) (w : Int) : Int := if w = 0 then ρ.2 32 0 n else if w = 5 then (if ρ.2 38 0 n = 0 then 0 else 1) else if ρ.2 32 0 n = 0 then 0 else if w = 1 then ρ.2 33 0 n else if w = 2 then ρ.2 34 0 n else if w = 3 then ρ.2 35 0 n else ρ.2 36 0 n
theorem r_node0 (hb : b < m0) (hg : Rg ρ) (d : Nat) (hd : 1 ≤ d) {n : Nat} {w : Int} (q1 : 0 ≤ w) (q2 : w ≤ 5) (hn : n < 256) : Wp b L xs d mi_141 0 (ent (mL mi_141) [.ref m0, vI 0, vI n, vI w]) [] (RH m0 h ρ) (Rt (RH m0 h (upF ρ 0 0)) (vI (rNode0 ρ n w))) := by
  have hg0 : Rg (upF ρ 0 0) := hg.upF 0 (by decide) (by decide)
  have e42 : (upF ρ 0 0).1 42 = ρ.1 42 := rfl
  have n1 : rEnt (upF ρ 0 0) n = rEnt ρ n := rfl
  have n2 : rEnt ρ n ≤ 255 := cnt_le _ _ _
  refine w_aload_n rfl rfl ?_
  refine w_iload_n rfl rfl ?_
  refine w_iflt_f rfl (by first | omega | (rw [e42]; omega) | exact (hg.2 _ _ _).1 | exact (hg.1 _).1 | (simp only [Int.toNat_natCast, upF_2] at *; omega)) (by first | omega | (rw [e42]; omega) | exact (hg.2 _ _ _).2 | exact (hg.1 _).2 | (simp only [Int.toNat_natCast, upF_2] at *; omega)) (by first | omega | (rw [e42]; omega) | (simp only [Int.toNat_natCast, upF_2] at *; omega)) ?_
  refine w_iload_n rfl rfl ?_
  refine w_iconst rfl ?_
  refine w_icle_t rfl (by first | omega | (rw [e42]; omega) | exact (hg.2 _ _ _).1 | exact (hg.1 _).1 | (simp only [Int.toNat_natCast, upF_2] at *; omega)) (by first | omega | (rw [e42]; omega) | exact (hg.2 _ _ _).2 | exact (hg.1 _).2 | (simp only [Int.toNat_natCast, upF_2] at *; omega)) (by first | omega | (rw [e42]; omega) | exact (hg.2 _ _ _).1 | exact (hg.1 _).1 | (simp only [Int.toNat_natCast, upF_2] at *; omega)) (by first | omega | (rw [e42]; omega) | exact (hg.2 _ _ _).2 | exact (hg.1 _).2 | (simp only [Int.toNat_natCast, upF_2] at *; omega)) (by first | omega | (rw [e42]; omega) | (simp only [Int.toNat_natCast, upF_2] at *; omega)) ?_
  refine w_iconst rfl ?_
  refine w_iconst rfl ?_
  refine w_cvV rfl (by decide) (by first | omega | (rw [e42]; omega) | (simp only [Int.toNat_natCast, upF_2] at *; omega)) rfl RH_obj mt_112 (Nat.le_of_ble_eq_true rfl) (Nat.le_of_ble_eq_true rfl) (r_fails0 hb (by assumption) _) ?_
  refine w_ifeq_t rfl (by first | omega | (rw [e42]; omega) | exact (hg.2 _ _ _).1 | exact (hg.1 _).1 | (simp only [Int.toNat_natCast, upF_2] at *; omega)) (by first | omega | (rw [e42]; omega) | exact (hg.2 _ _ _).2 | exact (hg.1 _).2 | (simp only [Int.toNat_natCast, upF_2] at *; omega)) (by first | omega | (rw [e42]; omega) | (simp only [Int.toNat_natCast, upF_2] at *; omega)) ?_
  refine w_aload_n rfl rfl ?_
  refine w_iload_n rfl rfl ?_
  refine w_ifeq_t rfl (by first | omega | (rw [e42]; omega) | exact (hg.2 _ _ _).1 | exact (hg.1 _).1 | (simp only [Int.toNat_natCast, upF_2] at *; omega)) (by first | omega | (rw [e42]; omega) | exact (hg.2 _ _ _).2 | exact (hg.1 _).2 | (simp only [Int.toNat_natCast, upF_2] at *; omega)) (by first | omega | (rw [e42]; omega) | (simp only [Int.toNat_natCast, upF_2] at *; omega)) ?_
  refine w_iconst rfl ?_
  refine w_iconst rfl ?_
  refine w_cvV rfl (by decide) (by first | omega | (rw [e42]; omega) | (simp only [Int.toNat_natCast, upF_2] at *; omega)) rfl RH_obj mt_112 (Nat.le_of_ble_eq_true rfl) (Nat.le_of_ble_eq_true rfl) (r_fails0 hb (by assumption) _) ?_
  rw [upF_upF]
  refine w_ifeq_t rfl (by first | omega | (rw [e42]; omega) | exact (hg.2 _ _ _).1 | exact (hg.1 _).1 | (simp only [Int.toNat_natCast, upF_2] at *; omega)) (by first | omega | (rw [e42]; omega) | exact (hg.2 _ _ _).2 | exact (hg.1 _).2 | (simp only [Int.toNat_natCast, upF_2] at *; omega)) (by first | omega | (rw [e42]; omega) | (simp only [Int.toNat_natCast, upF_2] at *; omega)) ?_
  refine w_aload_n rfl rfl ?_
  refine w_iload_n rfl rfl ?_
  refine w_iflt_f rfl (by first | omega | (rw [e42]; omega) | exact (hg.2 _ _ _).1 | exact (hg.1 _).1 | (simp only [Int.toNat_natCast, upF_2] at *; omega)) (by first | omega | (rw [e42]; omega) | exact (hg.2 _ _ _).2 | exact (hg.1 _).2 | (simp only [Int.toNat_natCast, upF_2] at *; omega)) (by first | omega | (rw [e42]; omega) | (simp only [Int.toNat_natCast, upF_2] at *; omega)) ?_
  refine w_iload_n rfl rfl ?_
  refine w_sipush rfl rfl ?_
  refine w_iclt_t rfl (by first | omega | (rw [e42]; omega) | exact (hg.2 _ _ _).1 | exact (hg.1 _).1 | (simp only [Int.toNat_natCast, upF_2] at *; omega)) (by first | omega | (rw [e42]; omega) | exact (hg.2 _ _ _).2 | exact (hg.1 _).2 | (simp only [Int.toNat_natCast, upF_2] at *; omega)) (by first | omega | (rw [e42]; omega) | exact (hg.2 _ _ _).1 | exact (hg.1 _).1 | (simp only [Int.toNat_natCast, upF_2] at *; omega)) (by first | omega | (rw [e42]; omega) | exact (hg.2 _ _ _).2 | exact (hg.1 _).2 | (simp only [Int.toNat_natCast, upF_2] at *; omega)) (by first | omega | (rw [e42]; omega) | (simp only [Int.toNat_natCast, upF_2] at *; omega)) ?_
  refine w_iconst rfl ?_
  refine w_iconst rfl ?_
  refine w_cvV rfl (by decide) (by first | omega | (rw [e42]; omega) | (simp only [Int.toNat_natCast, upF_2] at *; omega)) rfl RH_obj mt_112 (Nat.le_of_ble_eq_true rfl) (Nat.le_of_ble_eq_true rfl) (r_fails0 hb (by assumption) _) ?_
  rw [upF_upF]
  refine w_ifeq_t rfl (by first | omega | (rw [e42]; omega) | exact (hg.2 _ _ _).1 | exact (hg.1 _).1 | (simp only [Int.toNat_natCast, upF_2] at *; omega)) (by first | omega | (rw [e42]; omega) | exact (hg.2 _ _ _).2 | exact (hg.1 _).2 | (simp only [Int.toNat_natCast, upF_2] at *; omega)) (by first | omega | (rw [e42]; omega) | (simp only [Int.toNat_natCast, upF_2] at *; omega)) ?_
  refine w_iload_n rfl rfl ?_
  refine w_ifeq_t rfl (by first | omega | (rw [e42]; omega) | exact (hg.2 _ _ _).1 | exact (hg.1 _).1 | (simp only [Int.toNat_natCast, upF_2] at *; omega)) (by first | omega | (rw [e42]; omega) | exact (hg.2 _ _ _).2 | exact (hg.1 _).2 | (simp only [Int.toNat_natCast, upF_2] at *; omega)) (by first | omega | (rw [e42]; omega) | (simp only [Int.toNat_natCast, upF_2] at *; omega)) ?_
  refine w_aload_n rfl rfl ?_
  refine m_get rfl rfl ?_
  refine w_iload_n rfl rfl ?_
  refine m_iaload rfl hb rl_1 (by first | omega | (rw [e42]; omega) | (simp only [Int.toNat_natCast, upF_2] at *; omega)) (by first | omega | (rw [e42]; omega) | (simp only [Int.toNat_natCast, upF_2] at *; omega)) ?_
  refine w_istore rfl (by decide) ?_
  refine w_iload_n rfl rfl ?_
  refine w_ifne rfl (by first | omega | (rw [e42]; omega) | exact (hg.2 _ _ _).1 | exact (hg.1 _).1 | (simp only [Int.toNat_natCast, upF_2] at *; omega)) (by first | omega | (rw [e42]; omega) | exact (hg.2 _ _ _).2 | exact (hg.1 _).2 | (simp only [Int.toNat_natCast, upF_2] at *; omega)) (fun c2 => ?_) (fun c2 => ?_)
  · refine w_iload_n rfl rfl ?_
    refine w_iconst rfl ?_
    refine w_icne rfl (by first | omega | (rw [e42]; omega) | exact (hg.2 _ _ _).1 | exact (hg.1 _).1 | (simp only [Int.toNat_natCast, upF_2] at *; omega)) (by first | omega | (rw [e42]; omega) | exact (hg.2 _ _ _).2 | exact (hg.1 _).2 | (simp only [Int.toNat_natCast, upF_2] at *; omega)) (by first | omega | (rw [e42]; omega) | exact (hg.2 _ _ _).1 | exact (hg.1 _).1 | (simp only [Int.toNat_natCast, upF_2] at *; omega)) (by first | omega | (rw [e42]; omega) | exact (hg.2 _ _ _).2 | exact (hg.1 _).2 | (simp only [Int.toNat_natCast, upF_2] at *; omega)) (fun c3 => ?_) (fun c3 => ?_)
    · refine w_iload rfl rfl ?_
      refine w_ifne rfl (by first | omega | (rw [e42]; omega) | exact (hg.2 _ _ _).1 | exact (hg.1 _).1 | (simp only [Int.toNat_natCast, upF_2] at *; omega)) (by first | omega | (rw [e42]; omega) | exact (hg.2 _ _ _).2 | exact (hg.1 _).2 | (simp only [Int.toNat_natCast, upF_2] at *; omega)) (fun c4 => ?_) (fun c4 => ?_)
      · refine w_iload_n rfl rfl ?_
        refine w_ifeq_t rfl (by first | omega | (rw [e42]; omega) | exact (hg.2 _ _ _).1 | exact (hg.1 _).1 | (simp only [Int.toNat_natCast, upF_2] at *; omega)) (by first | omega | (rw [e42]; omega) | exact (hg.2 _ _ _).2 | exact (hg.1 _).2 | (simp only [Int.toNat_natCast, upF_2] at *; omega)) (by first | omega | (rw [e42]; omega) | (simp only [Int.toNat_natCast, upF_2] at *; omega)) ?_
        refine w_iload_n rfl rfl ?_
        refine w_iconst rfl ?_
        refine w_icne rfl (by first | omega | (rw [e42]; omega) | exact (hg.2 _ _ _).1 | exact (hg.1 _).1 | (simp only [Int.toNat_natCast, upF_2] at *; omega)) (by first | omega | (rw [e42]; omega) | exact (hg.2 _ _ _).2 | exact (hg.1 _).2 | (simp only [Int.toNat_natCast, upF_2] at *; omega)) (by first | omega | (rw [e42]; omega) | exact (hg.2 _ _ _).1 | exact (hg.1 _).1 | (simp only [Int.toNat_natCast, upF_2] at *; omega)) (by first | omega | (rw [e42]; omega) | exact (hg.2 _ _ _).2 | exact (hg.1 _).2 | (simp only [Int.toNat_natCast, upF_2] at *; omega)) (fun c5 => ?_) (fun c5 => ?_)
        · refine w_iload_n rfl rfl ?_
          refine w_iconst rfl ?_
          refine w_icne rfl (by first | omega | (rw [e42]; omega) | exact (hg.2 _ _ _).1 | exact (hg.1 _).1 | (simp only [Int.toNat_natCast, upF_2] at *; omega)) (by first | omega | (rw [e42]; omega) | exact (hg.2 _ _ _).2 | exact (hg.1 _).2 | (simp only [Int.toNat_natCast, upF_2] at *; omega)) (by first | omega | (rw [e42]; omega) | exact (hg.2 _ _ _).1 | exact (hg.1 _).1 | (simp only [Int.toNat_natCast, upF_2] at *; omega)) (by first | omega | (rw [e42]; omega) | exact (hg.2 _ _ _).2 | exact (hg.1 _).2 | (simp only [Int.toNat_natCast, upF_2] at *; omega)) (fun c6 => ?_) (fun c6 => ?_)
          · refine w_iload_n rfl rfl ?_
            refine w_iconst rfl ?_
            refine w_icne rfl (by first | omega | (rw [e42]; omega) | exact (hg.2 _ _ _).1 | exact (hg.1 _).1 | (simp only [Int.toNat_natCast, upF_2] at *; omega)) (by first | omega | (rw [e42]; omega) | exact (hg.2 _ _ _).2 | exact (hg.1 _).2 | (simp only [Int.toNat_natCast, upF_2] at *; omega)) (by first | omega | (rw [e42]; omega) | exact (hg.2 _ _ _).1 | exact (hg.1 _).1 | (simp only [Int.toNat_natCast, upF_2] at *; omega)) (by first | omega | (rw [e42]; omega) | exact (hg.2 _ _ _).2 | exact (hg.1 _).2 | (simp only [Int.toNat_natCast, upF_2] at *; omega)) (fun c7 => ?_) (fun c7 => ?_)
            · refine w_aload_n rfl rfl ?_
              refine m_get rfl rfl ?_
              refine w_iload_n rfl rfl ?_
              refine m_iaload rfl hb rl_5 (by first | omega | (rw [e42]; omega) | (simp only [Int.toNat_natCast, upF_2] at *; omega)) (by first | omega | (rw [e42]; omega) | (simp only [Int.toNat_natCast, upF_2] at *; omega)) ?_
              refine w_ireturn rfl rfl ?_
              exact ⟨rfl, by simp only [rNode0, rNode1, upF_2, Int.toNat_natCast, ne_eq, Decidable.not_not] at *; simp [*]⟩
            · refine w_iload rfl rfl ?_
              refine w_iconst rfl ?_
              refine w_icne rfl (by first | omega | (rw [e42]; omega) | exact (hg.2 _ _ _).1 | exact (hg.1 _).1 | (simp only [Int.toNat_natCast, upF_2] at *; omega)) (by first | omega | (rw [e42]; omega) | exact (hg.2 _ _ _).2 | exact (hg.1 _).2 | (simp only [Int.toNat_natCast, upF_2] at *; omega)) (by first | omega | (rw [e42]; omega) | exact (hg.2 _ _ _).1 | exact (hg.1 _).1 | (simp only [Int.toNat_natCast, upF_2] at *; omega)) (by first | omega | (rw [e42]; omega) | exact (hg.2 _ _ _).2 | exact (hg.1 _).2 | (simp only [Int.toNat_natCast, upF_2] at *; omega)) (fun c8 => ?_) (fun c8 => ?_)
              · refine w_aload_n rfl rfl ?_
                refine w_iload_n rfl rfl ?_
                refine w_cvV rfl (by decide) (by first | omega | (rw [e42]; omega) | (simp only [Int.toNat_natCast, upF_2] at *; omega)) rfl RH_obj mt_121 (Nat.le_of_ble_eq_true rfl) (Nat.le_of_ble_eq_true rfl) (r_ent hb (by assumption) _ (by first | omega | exact (hg.2 _ _ _).1 | exact (hg.1 _).1 | (simp only [Int.toNat_natCast, upF_2] at *; omega)) (by first | omega | exact (hg.2 _ _ _).2 | exact (hg.1 _).2 | (simp only [Int.toNat_natCast, upF_2] at *; omega))) ?_
                refine w_goto rfl ?_
                refine w_ireturn rfl rfl ?_
                exact ⟨rfl, by simp only [rNode0, rNode1, upF_2, Int.toNat_natCast, ne_eq, Decidable.not_not] at *; simp [*]⟩
              · refine w_aload_n rfl rfl ?_
                refine m_get rfl rfl ?_
                refine w_iload_n rfl rfl ?_
                refine m_iaload rfl hb rl_4 (by first | omega | (rw [e42]; omega) | (simp only [Int.toNat_natCast, upF_2] at *; omega)) (by first | omega | (rw [e42]; omega) | (simp only [Int.toNat_natCast, upF_2] at *; omega)) ?_
                refine w_goto rfl ?_
                refine w_ireturn rfl rfl ?_
                exact ⟨rfl, by simp only [rNode0, rNode1, upF_2, Int.toNat_natCast, ne_eq, Decidable.not_not] at *; simp [*]⟩
          · refine w_aload_n rfl rfl ?_
            refine m_get rfl rfl ?_
            refine w_iload_n rfl rfl ?_
            refine m_iaload rfl hb rl_3 (by first | omega | (rw [e42]; omega) | (simp only [Int.toNat_natCast, upF_2] at *; omega)) (by first | omega | (rw [e42]; omega) | (simp only [Int.toNat_natCast, upF_2] at *; omega)) ?_
            refine w_goto rfl ?_
            refine w_ireturn rfl rfl ?_
            exact ⟨rfl, by simp only [rNode0, rNode1, upF_2, Int.toNat_natCast, ne_eq, Decidable.not_not] at *; simp [*]⟩
        · refine w_aload_n rfl rfl ?_
          refine m_get rfl rfl ?_
          refine w_iload_n rfl rfl ?_
          refine m_iaload rfl hb rl_2 (by first | omega | (rw [e42]; omega) | (simp only [Int.toNat_natCast, upF_2] at *; omega)) (by first | omega | (rw [e42]; omega) | (simp only [Int.toNat_natCast, upF_2] at *; omega)) ?_
          refine w_goto rfl ?_
          refine w_ireturn rfl rfl ?_
          exact ⟨rfl, by simp only [rNode0, rNode1, upF_2, Int.toNat_natCast, ne_eq, Decidable.not_not] at *; simp [*]⟩
      · refine w_iconst rfl ?_
        refine w_ireturn rfl rfl ?_
        exact ⟨rfl, by simp only [rNode0, rNode1, upF_2, Int.toNat_natCast, ne_eq, Decidable.not_not] at *; simp [*]⟩
    · refine w_iload_n rfl rfl ?_
      refine w_ifeq_t rfl (by first | omega | (rw [e42]; omega) | exact (hg.2 _ _ _).1 | exact (hg.1 _).1 | (simp only [Int.toNat_natCast, upF_2] at *; omega)) (by first | omega | (rw [e42]; omega) | exact (hg.2 _ _ _).2 | exact (hg.1 _).2 | (simp only [Int.toNat_natCast, upF_2] at *; omega)) (by first | omega | (rw [e42]; omega) | (simp only [Int.toNat_natCast, upF_2] at *; omega)) ?_
      refine w_iconst rfl ?_
      refine w_ireturn rfl rfl ?_
      exact ⟨rfl, by simp only [rNode0, rNode1, upF_2, Int.toNat_natCast, ne_eq, Decidable.not_not] at *; simp [*]⟩
  · refine w_iload rfl rfl ?_
    refine w_ireturn rfl rfl ?_
    exact ⟨rfl, by simp only [rNode0, rNode1, upF_2, Int.toNat_natCast, ne_eq, Decidable.not_not] at *; simp [*]⟩
theorem r_node1 (hb : b < m0) (hg : Rg ρ) (d : Nat) (hd : 1 ≤ d) {n : Nat} {w : Int} (q1 : 0 ≤ w) (q2 : w ≤ 5) (hn : n < 256) (z1 : ρ.1 42 = 1) : Wp b L xs d mi_141 0 (ent (mL mi_141) [.ref m0, vI 1, vI n, vI w]) [] (RH m0 h ρ) (Rt (RH m0 h (upF ρ 0 0)) (vI (rNode1 ρ n w))) := by
  have hg0 : Rg (upF ρ 0 0) := hg.upF 0 (by decide) (by decide)
  have e42 : (upF ρ 0 0).1 42 = ρ.1 42 := rfl
  have n1 : rEnt (upF ρ 0 0) n = rEnt ρ n := rfl
  have n2 : rEnt ρ n ≤ 255 := cnt_le _ _ _
  refine w_aload_n rfl rfl ?_
  refine w_iload_n rfl rfl ?_
  refine w_iflt_f rfl (by first | omega | (rw [e42]; omega) | exact (hg.2 _ _ _).1 | exact (hg.1 _).1 | (simp only [Int.toNat_natCast, upF_2] at *; omega)) (by first | omega | (rw [e42]; omega) | exact (hg.2 _ _ _).2 | exact (hg.1 _).2 | (simp only [Int.toNat_natCast, upF_2] at *; omega)) (by first | omega | (rw [e42]; omega) | (simp only [Int.toNat_natCast, upF_2] at *; omega)) ?_
  refine w_iload_n rfl rfl ?_
  refine w_iconst rfl ?_
  refine w_icle_t rfl (by first | omega | (rw [e42]; omega) | exact (hg.2 _ _ _).1 | exact (hg.1 _).1 | (simp only [Int.toNat_natCast, upF_2] at *; omega)) (by first | omega | (rw [e42]; omega) | exact (hg.2 _ _ _).2 | exact (hg.1 _).2 | (simp only [Int.toNat_natCast, upF_2] at *; omega)) (by first | omega | (rw [e42]; omega) | exact (hg.2 _ _ _).1 | exact (hg.1 _).1 | (simp only [Int.toNat_natCast, upF_2] at *; omega)) (by first | omega | (rw [e42]; omega) | exact (hg.2 _ _ _).2 | exact (hg.1 _).2 | (simp only [Int.toNat_natCast, upF_2] at *; omega)) (by first | omega | (rw [e42]; omega) | (simp only [Int.toNat_natCast, upF_2] at *; omega)) ?_
  refine w_iconst rfl ?_
  refine w_iconst rfl ?_
  refine w_cvV rfl (by decide) (by first | omega | (rw [e42]; omega) | (simp only [Int.toNat_natCast, upF_2] at *; omega)) rfl RH_obj mt_112 (Nat.le_of_ble_eq_true rfl) (Nat.le_of_ble_eq_true rfl) (r_fails0 hb (by assumption) _) ?_
  refine w_ifeq_t rfl (by first | omega | (rw [e42]; omega) | exact (hg.2 _ _ _).1 | exact (hg.1 _).1 | (simp only [Int.toNat_natCast, upF_2] at *; omega)) (by first | omega | (rw [e42]; omega) | exact (hg.2 _ _ _).2 | exact (hg.1 _).2 | (simp only [Int.toNat_natCast, upF_2] at *; omega)) (by first | omega | (rw [e42]; omega) | (simp only [Int.toNat_natCast, upF_2] at *; omega)) ?_
  refine w_aload_n rfl rfl ?_
  refine w_iload_n rfl rfl ?_
  refine w_ifeq_f rfl (by first | omega | (rw [e42]; omega) | exact (hg.2 _ _ _).1 | exact (hg.1 _).1 | (simp only [Int.toNat_natCast, upF_2] at *; omega)) (by first | omega | (rw [e42]; omega) | exact (hg.2 _ _ _).2 | exact (hg.1 _).2 | (simp only [Int.toNat_natCast, upF_2] at *; omega)) (by first | omega | (rw [e42]; omega) | (simp only [Int.toNat_natCast, upF_2] at *; omega)) ?_
  refine w_aload_n rfl rfl ?_
  refine m_get rfl rfl ?_
  refine w_ifne_t rfl (by first | omega | (rw [e42]; omega) | exact (hg.2 _ _ _).1 | exact (hg.1 _).1 | (simp only [Int.toNat_natCast, upF_2] at *; omega)) (by first | omega | (rw [e42]; omega) | exact (hg.2 _ _ _).2 | exact (hg.1 _).2 | (simp only [Int.toNat_natCast, upF_2] at *; omega)) (by first | omega | (rw [e42]; omega) | (simp only [Int.toNat_natCast, upF_2] at *; omega)) ?_
  refine w_iconst rfl ?_
  refine w_iconst rfl ?_
  refine w_cvV rfl (by decide) (by first | omega | (rw [e42]; omega) | (simp only [Int.toNat_natCast, upF_2] at *; omega)) rfl RH_obj mt_112 (Nat.le_of_ble_eq_true rfl) (Nat.le_of_ble_eq_true rfl) (r_fails0 hb (by assumption) _) ?_
  rw [upF_upF]
  refine w_ifeq_t rfl (by first | omega | (rw [e42]; omega) | exact (hg.2 _ _ _).1 | exact (hg.1 _).1 | (simp only [Int.toNat_natCast, upF_2] at *; omega)) (by first | omega | (rw [e42]; omega) | exact (hg.2 _ _ _).2 | exact (hg.1 _).2 | (simp only [Int.toNat_natCast, upF_2] at *; omega)) (by first | omega | (rw [e42]; omega) | (simp only [Int.toNat_natCast, upF_2] at *; omega)) ?_
  refine w_aload_n rfl rfl ?_
  refine w_iload_n rfl rfl ?_
  refine w_iflt_f rfl (by first | omega | (rw [e42]; omega) | exact (hg.2 _ _ _).1 | exact (hg.1 _).1 | (simp only [Int.toNat_natCast, upF_2] at *; omega)) (by first | omega | (rw [e42]; omega) | exact (hg.2 _ _ _).2 | exact (hg.1 _).2 | (simp only [Int.toNat_natCast, upF_2] at *; omega)) (by first | omega | (rw [e42]; omega) | (simp only [Int.toNat_natCast, upF_2] at *; omega)) ?_
  refine w_iload_n rfl rfl ?_
  refine w_sipush rfl rfl ?_
  refine w_iclt_t rfl (by first | omega | (rw [e42]; omega) | exact (hg.2 _ _ _).1 | exact (hg.1 _).1 | (simp only [Int.toNat_natCast, upF_2] at *; omega)) (by first | omega | (rw [e42]; omega) | exact (hg.2 _ _ _).2 | exact (hg.1 _).2 | (simp only [Int.toNat_natCast, upF_2] at *; omega)) (by first | omega | (rw [e42]; omega) | exact (hg.2 _ _ _).1 | exact (hg.1 _).1 | (simp only [Int.toNat_natCast, upF_2] at *; omega)) (by first | omega | (rw [e42]; omega) | exact (hg.2 _ _ _).2 | exact (hg.1 _).2 | (simp only [Int.toNat_natCast, upF_2] at *; omega)) (by first | omega | (rw [e42]; omega) | (simp only [Int.toNat_natCast, upF_2] at *; omega)) ?_
  refine w_iconst rfl ?_
  refine w_iconst rfl ?_
  refine w_cvV rfl (by decide) (by first | omega | (rw [e42]; omega) | (simp only [Int.toNat_natCast, upF_2] at *; omega)) rfl RH_obj mt_112 (Nat.le_of_ble_eq_true rfl) (Nat.le_of_ble_eq_true rfl) (r_fails0 hb (by assumption) _) ?_
  rw [upF_upF]
  refine w_ifeq_t rfl (by first | omega | (rw [e42]; omega) | exact (hg.2 _ _ _).1 | exact (hg.1 _).1 | (simp only [Int.toNat_natCast, upF_2] at *; omega)) (by first | omega | (rw [e42]; omega) | exact (hg.2 _ _ _).2 | exact (hg.1 _).2 | (simp only [Int.toNat_natCast, upF_2] at *; omega)) (by first | omega | (rw [e42]; omega) | (simp only [Int.toNat_natCast, upF_2] at *; omega)) ?_
  refine w_iload_n rfl rfl ?_
  refine w_ifeq_f rfl (by first | omega | (rw [e42]; omega) | exact (hg.2 _ _ _).1 | exact (hg.1 _).1 | (simp only [Int.toNat_natCast, upF_2] at *; omega)) (by first | omega | (rw [e42]; omega) | exact (hg.2 _ _ _).2 | exact (hg.1 _).2 | (simp only [Int.toNat_natCast, upF_2] at *; omega)) (by first | omega | (rw [e42]; omega) | (simp only [Int.toNat_natCast, upF_2] at *; omega)) ?_
  refine w_aload_n rfl rfl ?_
  refine m_get rfl rfl ?_
  refine w_iload_n rfl rfl ?_
  refine m_iaload rfl hb rl_32 (by first | omega | (rw [e42]; omega) | (simp only [Int.toNat_natCast, upF_2] at *; omega)) (by first | omega | (rw [e42]; omega) | (simp only [Int.toNat_natCast, upF_2] at *; omega)) ?_
  refine w_goto rfl ?_
  refine w_istore rfl (by decide) ?_
  refine w_iload_n rfl rfl ?_
  refine w_ifne rfl (by first | omega | (rw [e42]; omega) | exact (hg.2 _ _ _).1 | exact (hg.1 _).1 | (simp only [Int.toNat_natCast, upF_2] at *; omega)) (by first | omega | (rw [e42]; omega) | exact (hg.2 _ _ _).2 | exact (hg.1 _).2 | (simp only [Int.toNat_natCast, upF_2] at *; omega)) (fun c2 => ?_) (fun c2 => ?_)
  · refine w_iload_n rfl rfl ?_
    refine w_iconst rfl ?_
    refine w_icne rfl (by first | omega | (rw [e42]; omega) | exact (hg.2 _ _ _).1 | exact (hg.1 _).1 | (simp only [Int.toNat_natCast, upF_2] at *; omega)) (by first | omega | (rw [e42]; omega) | exact (hg.2 _ _ _).2 | exact (hg.1 _).2 | (simp only [Int.toNat_natCast, upF_2] at *; omega)) (by first | omega | (rw [e42]; omega) | exact (hg.2 _ _ _).1 | exact (hg.1 _).1 | (simp only [Int.toNat_natCast, upF_2] at *; omega)) (by first | omega | (rw [e42]; omega) | exact (hg.2 _ _ _).2 | exact (hg.1 _).2 | (simp only [Int.toNat_natCast, upF_2] at *; omega)) (fun c3 => ?_) (fun c3 => ?_)
    · refine w_iload rfl rfl ?_
      refine w_ifne rfl (by first | omega | (rw [e42]; omega) | exact (hg.2 _ _ _).1 | exact (hg.1 _).1 | (simp only [Int.toNat_natCast, upF_2] at *; omega)) (by first | omega | (rw [e42]; omega) | exact (hg.2 _ _ _).2 | exact (hg.1 _).2 | (simp only [Int.toNat_natCast, upF_2] at *; omega)) (fun c4 => ?_) (fun c4 => ?_)
      · refine w_iload_n rfl rfl ?_
        refine w_ifeq_f rfl (by first | omega | (rw [e42]; omega) | exact (hg.2 _ _ _).1 | exact (hg.1 _).1 | (simp only [Int.toNat_natCast, upF_2] at *; omega)) (by first | omega | (rw [e42]; omega) | exact (hg.2 _ _ _).2 | exact (hg.1 _).2 | (simp only [Int.toNat_natCast, upF_2] at *; omega)) (by first | omega | (rw [e42]; omega) | (simp only [Int.toNat_natCast, upF_2] at *; omega)) ?_
        refine w_iload_n rfl rfl ?_
        refine w_iconst rfl ?_
        refine w_icne rfl (by first | omega | (rw [e42]; omega) | exact (hg.2 _ _ _).1 | exact (hg.1 _).1 | (simp only [Int.toNat_natCast, upF_2] at *; omega)) (by first | omega | (rw [e42]; omega) | exact (hg.2 _ _ _).2 | exact (hg.1 _).2 | (simp only [Int.toNat_natCast, upF_2] at *; omega)) (by first | omega | (rw [e42]; omega) | exact (hg.2 _ _ _).1 | exact (hg.1 _).1 | (simp only [Int.toNat_natCast, upF_2] at *; omega)) (by first | omega | (rw [e42]; omega) | exact (hg.2 _ _ _).2 | exact (hg.1 _).2 | (simp only [Int.toNat_natCast, upF_2] at *; omega)) (fun c5 => ?_) (fun c5 => ?_)
        · refine w_iload_n rfl rfl ?_
          refine w_iconst rfl ?_
          refine w_icne rfl (by first | omega | (rw [e42]; omega) | exact (hg.2 _ _ _).1 | exact (hg.1 _).1 | (simp only [Int.toNat_natCast, upF_2] at *; omega)) (by first | omega | (rw [e42]; omega) | exact (hg.2 _ _ _).2 | exact (hg.1 _).2 | (simp only [Int.toNat_natCast, upF_2] at *; omega)) (by first | omega | (rw [e42]; omega) | exact (hg.2 _ _ _).1 | exact (hg.1 _).1 | (simp only [Int.toNat_natCast, upF_2] at *; omega)) (by first | omega | (rw [e42]; omega) | exact (hg.2 _ _ _).2 | exact (hg.1 _).2 | (simp only [Int.toNat_natCast, upF_2] at *; omega)) (fun c6 => ?_) (fun c6 => ?_)
          · refine w_iload_n rfl rfl ?_
            refine w_iconst rfl ?_
            refine w_icne rfl (by first | omega | (rw [e42]; omega) | exact (hg.2 _ _ _).1 | exact (hg.1 _).1 | (simp only [Int.toNat_natCast, upF_2] at *; omega)) (by first | omega | (rw [e42]; omega) | exact (hg.2 _ _ _).2 | exact (hg.1 _).2 | (simp only [Int.toNat_natCast, upF_2] at *; omega)) (by first | omega | (rw [e42]; omega) | exact (hg.2 _ _ _).1 | exact (hg.1 _).1 | (simp only [Int.toNat_natCast, upF_2] at *; omega)) (by first | omega | (rw [e42]; omega) | exact (hg.2 _ _ _).2 | exact (hg.1 _).2 | (simp only [Int.toNat_natCast, upF_2] at *; omega)) (fun c7 => ?_) (fun c7 => ?_)
            · refine w_aload_n rfl rfl ?_
              refine m_get rfl rfl ?_
              refine w_iload_n rfl rfl ?_
              refine m_iaload rfl hb rl_36 (by first | omega | (rw [e42]; omega) | (simp only [Int.toNat_natCast, upF_2] at *; omega)) (by first | omega | (rw [e42]; omega) | (simp only [Int.toNat_natCast, upF_2] at *; omega)) ?_
              refine w_ireturn rfl rfl ?_
              exact ⟨rfl, by simp only [rNode0, rNode1, upF_2, Int.toNat_natCast, ne_eq, Decidable.not_not] at *; simp [*]⟩
            · refine w_aload_n rfl rfl ?_
              refine m_get rfl rfl ?_
              refine w_iload_n rfl rfl ?_
              refine m_iaload rfl hb rl_35 (by first | omega | (rw [e42]; omega) | (simp only [Int.toNat_natCast, upF_2] at *; omega)) (by first | omega | (rw [e42]; omega) | (simp only [Int.toNat_natCast, upF_2] at *; omega)) ?_
              refine w_goto rfl ?_
              refine w_ireturn rfl rfl ?_
              exact ⟨rfl, by simp only [rNode0, rNode1, upF_2, Int.toNat_natCast, ne_eq, Decidable.not_not] at *; simp [*]⟩
          · refine w_aload_n rfl rfl ?_
            refine m_get rfl rfl ?_
            refine w_iload_n rfl rfl ?_
            refine m_iaload rfl hb rl_34 (by first | omega | (rw [e42]; omega) | (simp only [Int.toNat_natCast, upF_2] at *; omega)) (by first | omega | (rw [e42]; omega) | (simp only [Int.toNat_natCast, upF_2] at *; omega)) ?_
            refine w_goto rfl ?_
            refine w_ireturn rfl rfl ?_
            exact ⟨rfl, by simp only [rNode0, rNode1, upF_2, Int.toNat_natCast, ne_eq, Decidable.not_not] at *; simp [*]⟩
        · refine w_aload_n rfl rfl ?_
          refine m_get rfl rfl ?_
          refine w_iload_n rfl rfl ?_
          refine m_iaload rfl hb rl_33 (by first | omega | (rw [e42]; omega) | (simp only [Int.toNat_natCast, upF_2] at *; omega)) (by first | omega | (rw [e42]; omega) | (simp only [Int.toNat_natCast, upF_2] at *; omega)) ?_
          refine w_goto rfl ?_
          refine w_ireturn rfl rfl ?_
          exact ⟨rfl, by simp only [rNode0, rNode1, upF_2, Int.toNat_natCast, ne_eq, Decidable.not_not] at *; simp [*]⟩
      · refine w_iconst rfl ?_
        refine w_ireturn rfl rfl ?_
        exact ⟨rfl, by simp only [rNode0, rNode1, upF_2, Int.toNat_natCast, ne_eq, Decidable.not_not] at *; simp [*]⟩
    · refine w_iload_n rfl rfl ?_
      refine w_ifeq_f rfl (by first | omega | (rw [e42]; omega) | exact (hg.2 _ _ _).1 | exact (hg.1 _).1 | (simp only [Int.toNat_natCast, upF_2] at *; omega)) (by first | omega | (rw [e42]; omega) | exact (hg.2 _ _ _).2 | exact (hg.1 _).2 | (simp only [Int.toNat_natCast, upF_2] at *; omega)) (by first | omega | (rw [e42]; omega) | (simp only [Int.toNat_natCast, upF_2] at *; omega)) ?_
      refine w_aload_n rfl rfl ?_
      refine m_get rfl rfl ?_
      refine w_iload_n rfl rfl ?_
      refine m_zaload rfl rl_38 (by first | omega | (rw [e42]; omega) | (simp only [Int.toNat_natCast, upF_2] at *; omega)) (by first | omega | (rw [e42]; omega) | (simp only [Int.toNat_natCast, upF_2] at *; omega)) ?_
      refine w_ifeq rfl (by first | omega | (rw [e42]; omega) | exact (hg.2 _ _ _).1 | exact (hg.1 _).1 | (simp only [Int.toNat_natCast, upF_2] at *; omega)) (by first | omega | (rw [e42]; omega) | exact (hg.2 _ _ _).2 | exact (hg.1 _).2 | (simp only [Int.toNat_natCast, upF_2] at *; omega)) (fun c9 => ?_) (fun c9 => ?_)
      · refine w_iconst rfl ?_
        refine w_ireturn rfl rfl ?_
        exact ⟨rfl, by simp only [rNode0, rNode1, upF_2, Int.toNat_natCast, ne_eq, Decidable.not_not] at *; simp [*]⟩
      · refine w_iconst rfl ?_
        refine w_goto rfl ?_
        refine w_ireturn rfl rfl ?_
        exact ⟨rfl, by simp only [rNode0, rNode1, upF_2, Int.toNat_natCast, ne_eq, Decidable.not_not] at *; simp [*]⟩
  · refine w_iload rfl rfl ?_
    refine w_ireturn rfl rfl ?_
    exact ⟨rfl, by simp only [rNode0, rNode1, upF_2, Int.toNat_natCast, ne_eq, Decidable.not_not] at *; simp [*]⟩
theorem r_oct_1 (hb : b < m0) (hg : Rg ρ) (d : Nat) (hd : 1 ≤ d) {r n c : Int} (r1 : r = 0 ∨ r = 1) (n1 : -2147483648 ≤ n) (n2 : n ≤ 2147483647) (c1 : -2147483648 ≤ c) (c2 : c ≤ 2147483647) (z1 : ρ.1 42 = 0 ∨ ρ.1 42 = 1) (q3 : r = 1) (q4 : ρ.1 42 = 0) : Wp b L xs d mi_142 0 (ent (mL mi_142) [.ref m0, vI r, vI n, vI c]) [] (RH m0 h ρ) (Rt (RH m0 h (upF ρ 0 1)) (vI 0)) := by
  have e42 : (upF ρ 0 0).1 42 = ρ.1 42 := rfl
  refine w_aload_n rfl rfl ?_
  refine w_iload_n rfl rfl ?_
  refine w_ifeq_f rfl (by first | omega | (rw [e42]; omega) | exact (hg.2 _ _ _).1 | exact (hg.1 _).1 | (simp only [Int.toNat_natCast, upF_2] at *; omega)) (by first | omega | (rw [e42]; omega) | exact (hg.2 _ _ _).2 | exact (hg.1 _).2 | (simp only [Int.toNat_natCast, upF_2] at *; omega)) (by first | omega | (rw [e42]; omega) | (simp only [Int.toNat_natCast, upF_2] at *; omega)) ?_
  refine w_aload_n rfl rfl ?_
  refine m_get rfl rfl ?_
  refine w_ifne_f rfl (by first | omega | (rw [e42]; omega) | exact (hg.2 _ _ _).1 | exact (hg.1 _).1 | (simp only [Int.toNat_natCast, upF_2] at *; omega)) (by first | omega | (rw [e42]; omega) | exact (hg.2 _ _ _).2 | exact (hg.1 _).2 | (simp only [Int.toNat_natCast, upF_2] at *; omega)) (by first | omega | (rw [e42]; omega) | (simp only [Int.toNat_natCast, upF_2] at *; omega)) ?_
  refine w_iconst rfl ?_
  refine w_goto rfl ?_
  refine w_iconst rfl ?_
  refine w_cvV rfl (by decide) (by first | omega | (rw [e42]; omega) | (simp only [Int.toNat_natCast, upF_2] at *; omega)) rfl RH_obj mt_112 (Nat.le_of_ble_eq_true rfl) (Nat.le_of_ble_eq_true rfl) (r_fails1 hb (by assumption) _) ?_
  refine w_ifeq_f rfl (by first | omega | (rw [e42]; omega) | exact (hg.2 _ _ _).1 | exact (hg.1 _).1 | (simp only [Int.toNat_natCast, upF_2] at *; omega)) (by first | omega | (rw [e42]; omega) | exact (hg.2 _ _ _).2 | exact (hg.1 _).2 | (simp only [Int.toNat_natCast, upF_2] at *; omega)) (by first | omega | (rw [e42]; omega) | (simp only [Int.toNat_natCast, upF_2] at *; omega)) ?_
  refine w_iconst rfl ?_
  refine w_ireturn rfl rfl ?_
  exact ⟨rfl, rfl⟩
theorem r_oct0_2 (hb : b < m0) (hg : Rg ρ) (d : Nat) (hd : 1 ≤ d) {n c : Int} (n1 : -2147483648 ≤ n) (n2 : n ≤ 2147483647) (c1 : -2147483648 ≤ c) (c2 : c ≤ 2147483647) (hc : ¬ (0 ≤ n ∧ n < 256 ∧ ρ.2 1 0 n.toNat = 1)) : Wp b L xs d mi_142 0 (ent (mL mi_142) [.ref m0, vI 0, vI n, vI c]) [] (RH m0 h ρ) (Rt (RH m0 h (upF ρ 0 2)) (vI 0)) := by
  have hg0 : Rg (upF ρ 0 0) := hg.upF 0 (by decide) (by decide)
  have e42 : (upF ρ 0 0).1 42 = ρ.1 42 := rfl
  by_cases q1 : n < 0
  · refine w_aload_n rfl rfl ?_
    refine w_iload_n rfl rfl ?_
    refine w_ifeq_t rfl (by first | omega | (rw [e42]; omega) | exact (hg.2 _ _ _).1 | exact (hg.1 _).1 | (simp only [Int.toNat_natCast, upF_2] at *; omega)) (by first | omega | (rw [e42]; omega) | exact (hg.2 _ _ _).2 | exact (hg.1 _).2 | (simp only [Int.toNat_natCast, upF_2] at *; omega)) (by first | omega | (rw [e42]; omega) | (simp only [Int.toNat_natCast, upF_2] at *; omega)) ?_
    refine w_iconst rfl ?_
    refine w_iconst rfl ?_
    refine w_cvV rfl (by decide) (by first | omega | (rw [e42]; omega) | (simp only [Int.toNat_natCast, upF_2] at *; omega)) rfl RH_obj mt_112 (Nat.le_of_ble_eq_true rfl) (Nat.le_of_ble_eq_true rfl) (r_fails0 hb (by assumption) _) ?_
    refine w_ifeq_t rfl (by first | omega | (rw [e42]; omega) | exact (hg.2 _ _ _).1 | exact (hg.1 _).1 | (simp only [Int.toNat_natCast, upF_2] at *; omega)) (by first | omega | (rw [e42]; omega) | exact (hg.2 _ _ _).2 | exact (hg.1 _).2 | (simp only [Int.toNat_natCast, upF_2] at *; omega)) (by first | omega | (rw [e42]; omega) | (simp only [Int.toNat_natCast, upF_2] at *; omega)) ?_
    refine w_aload_n rfl rfl ?_
    refine w_iload_n rfl rfl ?_
    refine w_iflt_t rfl (by first | omega | (rw [e42]; omega) | exact (hg.2 _ _ _).1 | exact (hg.1 _).1 | (simp only [Int.toNat_natCast, upF_2] at *; omega)) (by first | omega | (rw [e42]; omega) | exact (hg.2 _ _ _).2 | exact (hg.1 _).2 | (simp only [Int.toNat_natCast, upF_2] at *; omega)) (by first | omega | (rw [e42]; omega) | (simp only [Int.toNat_natCast, upF_2] at *; omega)) ?_
    refine w_iconst rfl ?_
    refine w_goto rfl ?_
    refine w_iconst rfl ?_
    refine w_cvV rfl (by decide) (by first | omega | (rw [e42]; omega) | (simp only [Int.toNat_natCast, upF_2] at *; omega)) rfl RH_obj mt_112 (Nat.le_of_ble_eq_true rfl) (Nat.le_of_ble_eq_true rfl) (r_fails1 hb (by assumption) _) ?_
    rw [upF_upF]
    refine w_ifeq_f rfl (by first | omega | (rw [e42]; omega) | exact (hg.2 _ _ _).1 | exact (hg.1 _).1 | (simp only [Int.toNat_natCast, upF_2] at *; omega)) (by first | omega | (rw [e42]; omega) | exact (hg.2 _ _ _).2 | exact (hg.1 _).2 | (simp only [Int.toNat_natCast, upF_2] at *; omega)) (by first | omega | (rw [e42]; omega) | (simp only [Int.toNat_natCast, upF_2] at *; omega)) ?_
    refine w_iconst rfl ?_
    refine w_ireturn rfl rfl ?_
    exact ⟨rfl, rfl⟩
  by_cases q2 : 256 ≤ n
  · refine w_aload_n rfl rfl ?_
    refine w_iload_n rfl rfl ?_
    refine w_ifeq_t rfl (by first | omega | (rw [e42]; omega) | exact (hg.2 _ _ _).1 | exact (hg.1 _).1 | (simp only [Int.toNat_natCast, upF_2] at *; omega)) (by first | omega | (rw [e42]; omega) | exact (hg.2 _ _ _).2 | exact (hg.1 _).2 | (simp only [Int.toNat_natCast, upF_2] at *; omega)) (by first | omega | (rw [e42]; omega) | (simp only [Int.toNat_natCast, upF_2] at *; omega)) ?_
    refine w_iconst rfl ?_
    refine w_iconst rfl ?_
    refine w_cvV rfl (by decide) (by first | omega | (rw [e42]; omega) | (simp only [Int.toNat_natCast, upF_2] at *; omega)) rfl RH_obj mt_112 (Nat.le_of_ble_eq_true rfl) (Nat.le_of_ble_eq_true rfl) (r_fails0 hb (by assumption) _) ?_
    refine w_ifeq_t rfl (by first | omega | (rw [e42]; omega) | exact (hg.2 _ _ _).1 | exact (hg.1 _).1 | (simp only [Int.toNat_natCast, upF_2] at *; omega)) (by first | omega | (rw [e42]; omega) | exact (hg.2 _ _ _).2 | exact (hg.1 _).2 | (simp only [Int.toNat_natCast, upF_2] at *; omega)) (by first | omega | (rw [e42]; omega) | (simp only [Int.toNat_natCast, upF_2] at *; omega)) ?_
    refine w_aload_n rfl rfl ?_
    refine w_iload_n rfl rfl ?_
    refine w_iflt_f rfl (by first | omega | (rw [e42]; omega) | exact (hg.2 _ _ _).1 | exact (hg.1 _).1 | (simp only [Int.toNat_natCast, upF_2] at *; omega)) (by first | omega | (rw [e42]; omega) | exact (hg.2 _ _ _).2 | exact (hg.1 _).2 | (simp only [Int.toNat_natCast, upF_2] at *; omega)) (by first | omega | (rw [e42]; omega) | (simp only [Int.toNat_natCast, upF_2] at *; omega)) ?_
    refine w_iload_n rfl rfl ?_
    refine w_sipush rfl rfl ?_
    refine w_icge_t rfl (by first | omega | (rw [e42]; omega) | exact (hg.2 _ _ _).1 | exact (hg.1 _).1 | (simp only [Int.toNat_natCast, upF_2] at *; omega)) (by first | omega | (rw [e42]; omega) | exact (hg.2 _ _ _).2 | exact (hg.1 _).2 | (simp only [Int.toNat_natCast, upF_2] at *; omega)) (by first | omega | (rw [e42]; omega) | exact (hg.2 _ _ _).1 | exact (hg.1 _).1 | (simp only [Int.toNat_natCast, upF_2] at *; omega)) (by first | omega | (rw [e42]; omega) | exact (hg.2 _ _ _).2 | exact (hg.1 _).2 | (simp only [Int.toNat_natCast, upF_2] at *; omega)) (by first | omega | (rw [e42]; omega) | (simp only [Int.toNat_natCast, upF_2] at *; omega)) ?_
    refine w_iconst rfl ?_
    refine w_goto rfl ?_
    refine w_iconst rfl ?_
    refine w_cvV rfl (by decide) (by first | omega | (rw [e42]; omega) | (simp only [Int.toNat_natCast, upF_2] at *; omega)) rfl RH_obj mt_112 (Nat.le_of_ble_eq_true rfl) (Nat.le_of_ble_eq_true rfl) (r_fails1 hb (by assumption) _) ?_
    rw [upF_upF]
    refine w_ifeq_f rfl (by first | omega | (rw [e42]; omega) | exact (hg.2 _ _ _).1 | exact (hg.1 _).1 | (simp only [Int.toNat_natCast, upF_2] at *; omega)) (by first | omega | (rw [e42]; omega) | exact (hg.2 _ _ _).2 | exact (hg.1 _).2 | (simp only [Int.toNat_natCast, upF_2] at *; omega)) (by first | omega | (rw [e42]; omega) | (simp only [Int.toNat_natCast, upF_2] at *; omega)) ?_
    refine w_iconst rfl ?_
    refine w_ireturn rfl rfl ?_
    exact ⟨rfl, rfl⟩
  have q3 : ρ.2 1 0 n.toNat ≠ 1 := by omega
  refine w_aload_n rfl rfl ?_
  refine w_iload_n rfl rfl ?_
  refine w_ifeq_t rfl (by first | omega | (rw [e42]; omega) | exact (hg.2 _ _ _).1 | exact (hg.1 _).1 | (simp only [Int.toNat_natCast, upF_2] at *; omega)) (by first | omega | (rw [e42]; omega) | exact (hg.2 _ _ _).2 | exact (hg.1 _).2 | (simp only [Int.toNat_natCast, upF_2] at *; omega)) (by first | omega | (rw [e42]; omega) | (simp only [Int.toNat_natCast, upF_2] at *; omega)) ?_
  refine w_iconst rfl ?_
  refine w_iconst rfl ?_
  refine w_cvV rfl (by decide) (by first | omega | (rw [e42]; omega) | (simp only [Int.toNat_natCast, upF_2] at *; omega)) rfl RH_obj mt_112 (Nat.le_of_ble_eq_true rfl) (Nat.le_of_ble_eq_true rfl) (r_fails0 hb (by assumption) _) ?_
  refine w_ifeq_t rfl (by first | omega | (rw [e42]; omega) | exact (hg.2 _ _ _).1 | exact (hg.1 _).1 | (simp only [Int.toNat_natCast, upF_2] at *; omega)) (by first | omega | (rw [e42]; omega) | exact (hg.2 _ _ _).2 | exact (hg.1 _).2 | (simp only [Int.toNat_natCast, upF_2] at *; omega)) (by first | omega | (rw [e42]; omega) | (simp only [Int.toNat_natCast, upF_2] at *; omega)) ?_
  refine w_aload_n rfl rfl ?_
  refine w_iload_n rfl rfl ?_
  refine w_iflt_f rfl (by first | omega | (rw [e42]; omega) | exact (hg.2 _ _ _).1 | exact (hg.1 _).1 | (simp only [Int.toNat_natCast, upF_2] at *; omega)) (by first | omega | (rw [e42]; omega) | exact (hg.2 _ _ _).2 | exact (hg.1 _).2 | (simp only [Int.toNat_natCast, upF_2] at *; omega)) (by first | omega | (rw [e42]; omega) | (simp only [Int.toNat_natCast, upF_2] at *; omega)) ?_
  refine w_iload_n rfl rfl ?_
  refine w_sipush rfl rfl ?_
  refine w_icge_f rfl (by first | omega | (rw [e42]; omega) | exact (hg.2 _ _ _).1 | exact (hg.1 _).1 | (simp only [Int.toNat_natCast, upF_2] at *; omega)) (by first | omega | (rw [e42]; omega) | exact (hg.2 _ _ _).2 | exact (hg.1 _).2 | (simp only [Int.toNat_natCast, upF_2] at *; omega)) (by first | omega | (rw [e42]; omega) | exact (hg.2 _ _ _).1 | exact (hg.1 _).1 | (simp only [Int.toNat_natCast, upF_2] at *; omega)) (by first | omega | (rw [e42]; omega) | exact (hg.2 _ _ _).2 | exact (hg.1 _).2 | (simp only [Int.toNat_natCast, upF_2] at *; omega)) (by first | omega | (rw [e42]; omega) | (simp only [Int.toNat_natCast, upF_2] at *; omega)) ?_
  refine w_iload_n rfl rfl ?_
  refine w_ifeq_t rfl (by first | omega | (rw [e42]; omega) | exact (hg.2 _ _ _).1 | exact (hg.1 _).1 | (simp only [Int.toNat_natCast, upF_2] at *; omega)) (by first | omega | (rw [e42]; omega) | exact (hg.2 _ _ _).2 | exact (hg.1 _).2 | (simp only [Int.toNat_natCast, upF_2] at *; omega)) (by first | omega | (rw [e42]; omega) | (simp only [Int.toNat_natCast, upF_2] at *; omega)) ?_
  refine w_aload_n rfl rfl ?_
  refine m_get rfl rfl ?_
  refine w_iload_n rfl rfl ?_
  refine m_iaload rfl hb rl_1 (by first | omega | (rw [e42]; omega) | (simp only [Int.toNat_natCast, upF_2] at *; omega)) (by first | omega | (rw [e42]; omega) | (simp only [Int.toNat_natCast, upF_2] at *; omega)) ?_
  refine w_iconst rfl ?_
  refine w_iceq_f rfl (by first | omega | (rw [e42]; omega) | exact (hg.2 _ _ _).1 | exact (hg.1 _).1 | (simp only [Int.toNat_natCast, upF_2] at *; omega)) (by first | omega | (rw [e42]; omega) | exact (hg.2 _ _ _).2 | exact (hg.1 _).2 | (simp only [Int.toNat_natCast, upF_2] at *; omega)) (by first | omega | (rw [e42]; omega) | exact (hg.2 _ _ _).1 | exact (hg.1 _).1 | (simp only [Int.toNat_natCast, upF_2] at *; omega)) (by first | omega | (rw [e42]; omega) | exact (hg.2 _ _ _).2 | exact (hg.1 _).2 | (simp only [Int.toNat_natCast, upF_2] at *; omega)) (by first | omega | (rw [e42]; omega) | (simp only [Int.toNat_natCast, upF_2] at *; omega)) ?_
  refine w_iconst rfl ?_
  refine w_goto rfl ?_
  refine w_iconst rfl ?_
  refine w_cvV rfl (by decide) (by first | omega | (rw [e42]; omega) | (simp only [Int.toNat_natCast, upF_2] at *; omega)) rfl RH_obj mt_112 (Nat.le_of_ble_eq_true rfl) (Nat.le_of_ble_eq_true rfl) (r_fails1 hb (by assumption) _) ?_
  rw [upF_upF]
  refine w_ifeq_f rfl (by first | omega | (rw [e42]; omega) | exact (hg.2 _ _ _).1 | exact (hg.1 _).1 | (simp only [Int.toNat_natCast, upF_2] at *; omega)) (by first | omega | (rw [e42]; omega) | exact (hg.2 _ _ _).2 | exact (hg.1 _).2 | (simp only [Int.toNat_natCast, upF_2] at *; omega)) (by first | omega | (rw [e42]; omega) | (simp only [Int.toNat_natCast, upF_2] at *; omega)) ?_
  refine w_iconst rfl ?_
  refine w_ireturn rfl rfl ?_
  exact ⟨rfl, rfl⟩
theorem r_oct1_2 (hb : b < m0) (hg : Rg ρ) (d : Nat) (hd : 1 ≤ d) {n c : Int} (n1 : -2147483648 ≤ n) (n2 : n ≤ 2147483647) (c1 : -2147483648 ≤ c) (c2 : c ≤ 2147483647) (z1 : ρ.1 42 = 1) (hc : ¬ (0 ≤ n ∧ n < 256 ∧ ρ.2 32 0 n.toNat = 1)) : Wp b L xs d mi_142 0 (ent (mL mi_142) [.ref m0, vI 1, vI n, vI c]) [] (RH m0 h ρ) (Rt (RH m0 h (upF ρ 0 2)) (vI 0)) := by
  have hg0 : Rg (upF ρ 0 0) := hg.upF 0 (by decide) (by decide)
  have e42 : (upF ρ 0 0).1 42 = ρ.1 42 := rfl
  by_cases q1 : n < 0
  · refine w_aload_n rfl rfl ?_
    refine w_iload_n rfl rfl ?_
    refine w_ifeq_f rfl (by first | omega | (rw [e42]; omega) | exact (hg.2 _ _ _).1 | exact (hg.1 _).1 | (simp only [Int.toNat_natCast, upF_2] at *; omega)) (by first | omega | (rw [e42]; omega) | exact (hg.2 _ _ _).2 | exact (hg.1 _).2 | (simp only [Int.toNat_natCast, upF_2] at *; omega)) (by first | omega | (rw [e42]; omega) | (simp only [Int.toNat_natCast, upF_2] at *; omega)) ?_
    refine w_aload_n rfl rfl ?_
    refine m_get rfl rfl ?_
    refine w_ifne_t rfl (by first | omega | (rw [e42]; omega) | exact (hg.2 _ _ _).1 | exact (hg.1 _).1 | (simp only [Int.toNat_natCast, upF_2] at *; omega)) (by first | omega | (rw [e42]; omega) | exact (hg.2 _ _ _).2 | exact (hg.1 _).2 | (simp only [Int.toNat_natCast, upF_2] at *; omega)) (by first | omega | (rw [e42]; omega) | (simp only [Int.toNat_natCast, upF_2] at *; omega)) ?_
    refine w_iconst rfl ?_
    refine w_iconst rfl ?_
    refine w_cvV rfl (by decide) (by first | omega | (rw [e42]; omega) | (simp only [Int.toNat_natCast, upF_2] at *; omega)) rfl RH_obj mt_112 (Nat.le_of_ble_eq_true rfl) (Nat.le_of_ble_eq_true rfl) (r_fails0 hb (by assumption) _) ?_
    refine w_ifeq_t rfl (by first | omega | (rw [e42]; omega) | exact (hg.2 _ _ _).1 | exact (hg.1 _).1 | (simp only [Int.toNat_natCast, upF_2] at *; omega)) (by first | omega | (rw [e42]; omega) | exact (hg.2 _ _ _).2 | exact (hg.1 _).2 | (simp only [Int.toNat_natCast, upF_2] at *; omega)) (by first | omega | (rw [e42]; omega) | (simp only [Int.toNat_natCast, upF_2] at *; omega)) ?_
    refine w_aload_n rfl rfl ?_
    refine w_iload_n rfl rfl ?_
    refine w_iflt_t rfl (by first | omega | (rw [e42]; omega) | exact (hg.2 _ _ _).1 | exact (hg.1 _).1 | (simp only [Int.toNat_natCast, upF_2] at *; omega)) (by first | omega | (rw [e42]; omega) | exact (hg.2 _ _ _).2 | exact (hg.1 _).2 | (simp only [Int.toNat_natCast, upF_2] at *; omega)) (by first | omega | (rw [e42]; omega) | (simp only [Int.toNat_natCast, upF_2] at *; omega)) ?_
    refine w_iconst rfl ?_
    refine w_goto rfl ?_
    refine w_iconst rfl ?_
    refine w_cvV rfl (by decide) (by first | omega | (rw [e42]; omega) | (simp only [Int.toNat_natCast, upF_2] at *; omega)) rfl RH_obj mt_112 (Nat.le_of_ble_eq_true rfl) (Nat.le_of_ble_eq_true rfl) (r_fails1 hb (by assumption) _) ?_
    rw [upF_upF]
    refine w_ifeq_f rfl (by first | omega | (rw [e42]; omega) | exact (hg.2 _ _ _).1 | exact (hg.1 _).1 | (simp only [Int.toNat_natCast, upF_2] at *; omega)) (by first | omega | (rw [e42]; omega) | exact (hg.2 _ _ _).2 | exact (hg.1 _).2 | (simp only [Int.toNat_natCast, upF_2] at *; omega)) (by first | omega | (rw [e42]; omega) | (simp only [Int.toNat_natCast, upF_2] at *; omega)) ?_
    refine w_iconst rfl ?_
    refine w_ireturn rfl rfl ?_
    exact ⟨rfl, rfl⟩
  by_cases q2 : 256 ≤ n
  · refine w_aload_n rfl rfl ?_
    refine w_iload_n rfl rfl ?_
    refine w_ifeq_f rfl (by first | omega | (rw [e42]; omega) | exact (hg.2 _ _ _).1 | exact (hg.1 _).1 | (simp only [Int.toNat_natCast, upF_2] at *; omega)) (by first | omega | (rw [e42]; omega) | exact (hg.2 _ _ _).2 | exact (hg.1 _).2 | (simp only [Int.toNat_natCast, upF_2] at *; omega)) (by first | omega | (rw [e42]; omega) | (simp only [Int.toNat_natCast, upF_2] at *; omega)) ?_
    refine w_aload_n rfl rfl ?_
    refine m_get rfl rfl ?_
    refine w_ifne_t rfl (by first | omega | (rw [e42]; omega) | exact (hg.2 _ _ _).1 | exact (hg.1 _).1 | (simp only [Int.toNat_natCast, upF_2] at *; omega)) (by first | omega | (rw [e42]; omega) | exact (hg.2 _ _ _).2 | exact (hg.1 _).2 | (simp only [Int.toNat_natCast, upF_2] at *; omega)) (by first | omega | (rw [e42]; omega) | (simp only [Int.toNat_natCast, upF_2] at *; omega)) ?_
    refine w_iconst rfl ?_
    refine w_iconst rfl ?_
    refine w_cvV rfl (by decide) (by first | omega | (rw [e42]; omega) | (simp only [Int.toNat_natCast, upF_2] at *; omega)) rfl RH_obj mt_112 (Nat.le_of_ble_eq_true rfl) (Nat.le_of_ble_eq_true rfl) (r_fails0 hb (by assumption) _) ?_
    refine w_ifeq_t rfl (by first | omega | (rw [e42]; omega) | exact (hg.2 _ _ _).1 | exact (hg.1 _).1 | (simp only [Int.toNat_natCast, upF_2] at *; omega)) (by first | omega | (rw [e42]; omega) | exact (hg.2 _ _ _).2 | exact (hg.1 _).2 | (simp only [Int.toNat_natCast, upF_2] at *; omega)) (by first | omega | (rw [e42]; omega) | (simp only [Int.toNat_natCast, upF_2] at *; omega)) ?_
    refine w_aload_n rfl rfl ?_
    refine w_iload_n rfl rfl ?_
    refine w_iflt_f rfl (by first | omega | (rw [e42]; omega) | exact (hg.2 _ _ _).1 | exact (hg.1 _).1 | (simp only [Int.toNat_natCast, upF_2] at *; omega)) (by first | omega | (rw [e42]; omega) | exact (hg.2 _ _ _).2 | exact (hg.1 _).2 | (simp only [Int.toNat_natCast, upF_2] at *; omega)) (by first | omega | (rw [e42]; omega) | (simp only [Int.toNat_natCast, upF_2] at *; omega)) ?_
    refine w_iload_n rfl rfl ?_
    refine w_sipush rfl rfl ?_
    refine w_icge_t rfl (by first | omega | (rw [e42]; omega) | exact (hg.2 _ _ _).1 | exact (hg.1 _).1 | (simp only [Int.toNat_natCast, upF_2] at *; omega)) (by first | omega | (rw [e42]; omega) | exact (hg.2 _ _ _).2 | exact (hg.1 _).2 | (simp only [Int.toNat_natCast, upF_2] at *; omega)) (by first | omega | (rw [e42]; omega) | exact (hg.2 _ _ _).1 | exact (hg.1 _).1 | (simp only [Int.toNat_natCast, upF_2] at *; omega)) (by first | omega | (rw [e42]; omega) | exact (hg.2 _ _ _).2 | exact (hg.1 _).2 | (simp only [Int.toNat_natCast, upF_2] at *; omega)) (by first | omega | (rw [e42]; omega) | (simp only [Int.toNat_natCast, upF_2] at *; omega)) ?_
    refine w_iconst rfl ?_
    refine w_goto rfl ?_
    refine w_iconst rfl ?_
    refine w_cvV rfl (by decide) (by first | omega | (rw [e42]; omega) | (simp only [Int.toNat_natCast, upF_2] at *; omega)) rfl RH_obj mt_112 (Nat.le_of_ble_eq_true rfl) (Nat.le_of_ble_eq_true rfl) (r_fails1 hb (by assumption) _) ?_
    rw [upF_upF]
    refine w_ifeq_f rfl (by first | omega | (rw [e42]; omega) | exact (hg.2 _ _ _).1 | exact (hg.1 _).1 | (simp only [Int.toNat_natCast, upF_2] at *; omega)) (by first | omega | (rw [e42]; omega) | exact (hg.2 _ _ _).2 | exact (hg.1 _).2 | (simp only [Int.toNat_natCast, upF_2] at *; omega)) (by first | omega | (rw [e42]; omega) | (simp only [Int.toNat_natCast, upF_2] at *; omega)) ?_
    refine w_iconst rfl ?_
    refine w_ireturn rfl rfl ?_
    exact ⟨rfl, rfl⟩
  have q3 : ρ.2 32 0 n.toNat ≠ 1 := by omega
  refine w_aload_n rfl rfl ?_
  refine w_iload_n rfl rfl ?_
  refine w_ifeq_f rfl (by first | omega | (rw [e42]; omega) | exact (hg.2 _ _ _).1 | exact (hg.1 _).1 | (simp only [Int.toNat_natCast, upF_2] at *; omega)) (by first | omega | (rw [e42]; omega) | exact (hg.2 _ _ _).2 | exact (hg.1 _).2 | (simp only [Int.toNat_natCast, upF_2] at *; omega)) (by first | omega | (rw [e42]; omega) | (simp only [Int.toNat_natCast, upF_2] at *; omega)) ?_
  refine w_aload_n rfl rfl ?_
  refine m_get rfl rfl ?_
  refine w_ifne_t rfl (by first | omega | (rw [e42]; omega) | exact (hg.2 _ _ _).1 | exact (hg.1 _).1 | (simp only [Int.toNat_natCast, upF_2] at *; omega)) (by first | omega | (rw [e42]; omega) | exact (hg.2 _ _ _).2 | exact (hg.1 _).2 | (simp only [Int.toNat_natCast, upF_2] at *; omega)) (by first | omega | (rw [e42]; omega) | (simp only [Int.toNat_natCast, upF_2] at *; omega)) ?_
  refine w_iconst rfl ?_
  refine w_iconst rfl ?_
  refine w_cvV rfl (by decide) (by first | omega | (rw [e42]; omega) | (simp only [Int.toNat_natCast, upF_2] at *; omega)) rfl RH_obj mt_112 (Nat.le_of_ble_eq_true rfl) (Nat.le_of_ble_eq_true rfl) (r_fails0 hb (by assumption) _) ?_
  refine w_ifeq_t rfl (by first | omega | (rw [e42]; omega) | exact (hg.2 _ _ _).1 | exact (hg.1 _).1 | (simp only [Int.toNat_natCast, upF_2] at *; omega)) (by first | omega | (rw [e42]; omega) | exact (hg.2 _ _ _).2 | exact (hg.1 _).2 | (simp only [Int.toNat_natCast, upF_2] at *; omega)) (by first | omega | (rw [e42]; omega) | (simp only [Int.toNat_natCast, upF_2] at *; omega)) ?_
  refine w_aload_n rfl rfl ?_
  refine w_iload_n rfl rfl ?_
  refine w_iflt_f rfl (by first | omega | (rw [e42]; omega) | exact (hg.2 _ _ _).1 | exact (hg.1 _).1 | (simp only [Int.toNat_natCast, upF_2] at *; omega)) (by first | omega | (rw [e42]; omega) | exact (hg.2 _ _ _).2 | exact (hg.1 _).2 | (simp only [Int.toNat_natCast, upF_2] at *; omega)) (by first | omega | (rw [e42]; omega) | (simp only [Int.toNat_natCast, upF_2] at *; omega)) ?_
  refine w_iload_n rfl rfl ?_
  refine w_sipush rfl rfl ?_
  refine w_icge_f rfl (by first | omega | (rw [e42]; omega) | exact (hg.2 _ _ _).1 | exact (hg.1 _).1 | (simp only [Int.toNat_natCast, upF_2] at *; omega)) (by first | omega | (rw [e42]; omega) | exact (hg.2 _ _ _).2 | exact (hg.1 _).2 | (simp only [Int.toNat_natCast, upF_2] at *; omega)) (by first | omega | (rw [e42]; omega) | exact (hg.2 _ _ _).1 | exact (hg.1 _).1 | (simp only [Int.toNat_natCast, upF_2] at *; omega)) (by first | omega | (rw [e42]; omega) | exact (hg.2 _ _ _).2 | exact (hg.1 _).2 | (simp only [Int.toNat_natCast, upF_2] at *; omega)) (by first | omega | (rw [e42]; omega) | (simp only [Int.toNat_natCast, upF_2] at *; omega)) ?_
  refine w_iload_n rfl rfl ?_
  refine w_ifeq_f rfl (by first | omega | (rw [e42]; omega) | exact (hg.2 _ _ _).1 | exact (hg.1 _).1 | (simp only [Int.toNat_natCast, upF_2] at *; omega)) (by first | omega | (rw [e42]; omega) | exact (hg.2 _ _ _).2 | exact (hg.1 _).2 | (simp only [Int.toNat_natCast, upF_2] at *; omega)) (by first | omega | (rw [e42]; omega) | (simp only [Int.toNat_natCast, upF_2] at *; omega)) ?_
  refine w_aload_n rfl rfl ?_
  refine m_get rfl rfl ?_
  refine w_iload_n rfl rfl ?_
  refine m_iaload rfl hb rl_32 (by first | omega | (rw [e42]; omega) | (simp only [Int.toNat_natCast, upF_2] at *; omega)) (by first | omega | (rw [e42]; omega) | (simp only [Int.toNat_natCast, upF_2] at *; omega)) ?_
  refine w_goto rfl ?_
  refine w_iconst rfl ?_
  refine w_iceq_f rfl (by first | omega | (rw [e42]; omega) | exact (hg.2 _ _ _).1 | exact (hg.1 _).1 | (simp only [Int.toNat_natCast, upF_2] at *; omega)) (by first | omega | (rw [e42]; omega) | exact (hg.2 _ _ _).2 | exact (hg.1 _).2 | (simp only [Int.toNat_natCast, upF_2] at *; omega)) (by first | omega | (rw [e42]; omega) | exact (hg.2 _ _ _).1 | exact (hg.1 _).1 | (simp only [Int.toNat_natCast, upF_2] at *; omega)) (by first | omega | (rw [e42]; omega) | exact (hg.2 _ _ _).2 | exact (hg.1 _).2 | (simp only [Int.toNat_natCast, upF_2] at *; omega)) (by first | omega | (rw [e42]; omega) | (simp only [Int.toNat_natCast, upF_2] at *; omega)) ?_
  refine w_iconst rfl ?_
  refine w_goto rfl ?_
  refine w_iconst rfl ?_
  refine w_cvV rfl (by decide) (by first | omega | (rw [e42]; omega) | (simp only [Int.toNat_natCast, upF_2] at *; omega)) rfl RH_obj mt_112 (Nat.le_of_ble_eq_true rfl) (Nat.le_of_ble_eq_true rfl) (r_fails1 hb (by assumption) _) ?_
  rw [upF_upF]
  refine w_ifeq_f rfl (by first | omega | (rw [e42]; omega) | exact (hg.2 _ _ _).1 | exact (hg.1 _).1 | (simp only [Int.toNat_natCast, upF_2] at *; omega)) (by first | omega | (rw [e42]; omega) | exact (hg.2 _ _ _).2 | exact (hg.1 _).2 | (simp only [Int.toNat_natCast, upF_2] at *; omega)) (by first | omega | (rw [e42]; omega) | (simp only [Int.toNat_natCast, upF_2] at *; omega)) ?_
  refine w_iconst rfl ?_
  refine w_ireturn rfl rfl ?_
  exact ⟨rfl, rfl⟩
theorem r_find_1 (hb : b < m0) (hg : Rg ρ) (d : Nat) (hd : 1 ≤ d) {r n c : Int} (r1 : r = 0 ∨ r = 1) (n1 : -2147483648 ≤ n) (n2 : n ≤ 2147483647) (c1 : -2147483648 ≤ c) (c2 : c ≤ 2147483647) (z1 : ρ.1 42 = 0 ∨ ρ.1 42 = 1) (q3 : r = 1) (q4 : ρ.1 42 = 0) : Wp b L xs d mi_143 0 (ent (mL mi_143) [.ref m0, vI r, vI n, vI c]) [] (RH m0 h ρ) (Rt (RH m0 h (upF ρ 0 1)) (vI 0)) := by
  have e42 : (upF ρ 0 0).1 42 = ρ.1 42 := rfl
  refine w_aload_n rfl rfl ?_
  refine w_iload_n rfl rfl ?_
  refine w_ifeq_f rfl (by first | omega | (rw [e42]; omega) | exact (hg.2 _ _ _).1 | exact (hg.1 _).1 | (simp only [Int.toNat_natCast, upF_2] at *; omega)) (by first | omega | (rw [e42]; omega) | exact (hg.2 _ _ _).2 | exact (hg.1 _).2 | (simp only [Int.toNat_natCast, upF_2] at *; omega)) (by first | omega | (rw [e42]; omega) | (simp only [Int.toNat_natCast, upF_2] at *; omega)) ?_
  refine w_aload_n rfl rfl ?_
  refine m_get rfl rfl ?_
  refine w_ifne_f rfl (by first | omega | (rw [e42]; omega) | exact (hg.2 _ _ _).1 | exact (hg.1 _).1 | (simp only [Int.toNat_natCast, upF_2] at *; omega)) (by first | omega | (rw [e42]; omega) | exact (hg.2 _ _ _).2 | exact (hg.1 _).2 | (simp only [Int.toNat_natCast, upF_2] at *; omega)) (by first | omega | (rw [e42]; omega) | (simp only [Int.toNat_natCast, upF_2] at *; omega)) ?_
  refine w_iconst rfl ?_
  refine w_goto rfl ?_
  refine w_iconst rfl ?_
  refine w_cvV rfl (by decide) (by first | omega | (rw [e42]; omega) | (simp only [Int.toNat_natCast, upF_2] at *; omega)) rfl RH_obj mt_112 (Nat.le_of_ble_eq_true rfl) (Nat.le_of_ble_eq_true rfl) (r_fails1 hb (by assumption) _) ?_
  refine w_ifeq_f rfl (by first | omega | (rw [e42]; omega) | exact (hg.2 _ _ _).1 | exact (hg.1 _).1 | (simp only [Int.toNat_natCast, upF_2] at *; omega)) (by first | omega | (rw [e42]; omega) | exact (hg.2 _ _ _).2 | exact (hg.1 _).2 | (simp only [Int.toNat_natCast, upF_2] at *; omega)) (by first | omega | (rw [e42]; omega) | (simp only [Int.toNat_natCast, upF_2] at *; omega)) ?_
  refine w_iconst rfl ?_
  refine w_ireturn rfl rfl ?_
  exact ⟨rfl, rfl⟩
theorem r_find0_2 (hb : b < m0) (hg : Rg ρ) (d : Nat) (hd : 1 ≤ d) {n c : Int} (n1 : -2147483648 ≤ n) (n2 : n ≤ 2147483647) (c1 : -2147483648 ≤ c) (c2 : c ≤ 2147483647) (hc : ¬ (0 ≤ n ∧ n < 256 ∧ ρ.2 1 0 n.toNat = 2)) : Wp b L xs d mi_143 0 (ent (mL mi_143) [.ref m0, vI 0, vI n, vI c]) [] (RH m0 h ρ) (Rt (RH m0 h (upF ρ 0 2)) (vI 0)) := by
  have hg0 : Rg (upF ρ 0 0) := hg.upF 0 (by decide) (by decide)
  have e42 : (upF ρ 0 0).1 42 = ρ.1 42 := rfl
  by_cases q1 : n < 0
  · refine w_aload_n rfl rfl ?_
    refine w_iload_n rfl rfl ?_
    refine w_ifeq_t rfl (by first | omega | (rw [e42]; omega) | exact (hg.2 _ _ _).1 | exact (hg.1 _).1 | (simp only [Int.toNat_natCast, upF_2] at *; omega)) (by first | omega | (rw [e42]; omega) | exact (hg.2 _ _ _).2 | exact (hg.1 _).2 | (simp only [Int.toNat_natCast, upF_2] at *; omega)) (by first | omega | (rw [e42]; omega) | (simp only [Int.toNat_natCast, upF_2] at *; omega)) ?_
    refine w_iconst rfl ?_
    refine w_iconst rfl ?_
    refine w_cvV rfl (by decide) (by first | omega | (rw [e42]; omega) | (simp only [Int.toNat_natCast, upF_2] at *; omega)) rfl RH_obj mt_112 (Nat.le_of_ble_eq_true rfl) (Nat.le_of_ble_eq_true rfl) (r_fails0 hb (by assumption) _) ?_
    refine w_ifeq_t rfl (by first | omega | (rw [e42]; omega) | exact (hg.2 _ _ _).1 | exact (hg.1 _).1 | (simp only [Int.toNat_natCast, upF_2] at *; omega)) (by first | omega | (rw [e42]; omega) | exact (hg.2 _ _ _).2 | exact (hg.1 _).2 | (simp only [Int.toNat_natCast, upF_2] at *; omega)) (by first | omega | (rw [e42]; omega) | (simp only [Int.toNat_natCast, upF_2] at *; omega)) ?_
    refine w_aload_n rfl rfl ?_
    refine w_iload_n rfl rfl ?_
    refine w_iflt_t rfl (by first | omega | (rw [e42]; omega) | exact (hg.2 _ _ _).1 | exact (hg.1 _).1 | (simp only [Int.toNat_natCast, upF_2] at *; omega)) (by first | omega | (rw [e42]; omega) | exact (hg.2 _ _ _).2 | exact (hg.1 _).2 | (simp only [Int.toNat_natCast, upF_2] at *; omega)) (by first | omega | (rw [e42]; omega) | (simp only [Int.toNat_natCast, upF_2] at *; omega)) ?_
    refine w_iconst rfl ?_
    refine w_goto rfl ?_
    refine w_iconst rfl ?_
    refine w_cvV rfl (by decide) (by first | omega | (rw [e42]; omega) | (simp only [Int.toNat_natCast, upF_2] at *; omega)) rfl RH_obj mt_112 (Nat.le_of_ble_eq_true rfl) (Nat.le_of_ble_eq_true rfl) (r_fails1 hb (by assumption) _) ?_
    rw [upF_upF]
    refine w_ifeq_f rfl (by first | omega | (rw [e42]; omega) | exact (hg.2 _ _ _).1 | exact (hg.1 _).1 | (simp only [Int.toNat_natCast, upF_2] at *; omega)) (by first | omega | (rw [e42]; omega) | exact (hg.2 _ _ _).2 | exact (hg.1 _).2 | (simp only [Int.toNat_natCast, upF_2] at *; omega)) (by first | omega | (rw [e42]; omega) | (simp only [Int.toNat_natCast, upF_2] at *; omega)) ?_
    refine w_iconst rfl ?_
    refine w_ireturn rfl rfl ?_
    exact ⟨rfl, rfl⟩
  by_cases q2 : 256 ≤ n
  · refine w_aload_n rfl rfl ?_
    refine w_iload_n rfl rfl ?_
    refine w_ifeq_t rfl (by first | omega | (rw [e42]; omega) | exact (hg.2 _ _ _).1 | exact (hg.1 _).1 | (simp only [Int.toNat_natCast, upF_2] at *; omega)) (by first | omega | (rw [e42]; omega) | exact (hg.2 _ _ _).2 | exact (hg.1 _).2 | (simp only [Int.toNat_natCast, upF_2] at *; omega)) (by first | omega | (rw [e42]; omega) | (simp only [Int.toNat_natCast, upF_2] at *; omega)) ?_
    refine w_iconst rfl ?_
    refine w_iconst rfl ?_
    refine w_cvV rfl (by decide) (by first | omega | (rw [e42]; omega) | (simp only [Int.toNat_natCast, upF_2] at *; omega)) rfl RH_obj mt_112 (Nat.le_of_ble_eq_true rfl) (Nat.le_of_ble_eq_true rfl) (r_fails0 hb (by assumption) _) ?_
    refine w_ifeq_t rfl (by first | omega | (rw [e42]; omega) | exact (hg.2 _ _ _).1 | exact (hg.1 _).1 | (simp only [Int.toNat_natCast, upF_2] at *; omega)) (by first | omega | (rw [e42]; omega) | exact (hg.2 _ _ _).2 | exact (hg.1 _).2 | (simp only [Int.toNat_natCast, upF_2] at *; omega)) (by first | omega | (rw [e42]; omega) | (simp only [Int.toNat_natCast, upF_2] at *; omega)) ?_
    refine w_aload_n rfl rfl ?_
    refine w_iload_n rfl rfl ?_
    refine w_iflt_f rfl (by first | omega | (rw [e42]; omega) | exact (hg.2 _ _ _).1 | exact (hg.1 _).1 | (simp only [Int.toNat_natCast, upF_2] at *; omega)) (by first | omega | (rw [e42]; omega) | exact (hg.2 _ _ _).2 | exact (hg.1 _).2 | (simp only [Int.toNat_natCast, upF_2] at *; omega)) (by first | omega | (rw [e42]; omega) | (simp only [Int.toNat_natCast, upF_2] at *; omega)) ?_
    refine w_iload_n rfl rfl ?_
    refine w_sipush rfl rfl ?_
    refine w_icge_t rfl (by first | omega | (rw [e42]; omega) | exact (hg.2 _ _ _).1 | exact (hg.1 _).1 | (simp only [Int.toNat_natCast, upF_2] at *; omega)) (by first | omega | (rw [e42]; omega) | exact (hg.2 _ _ _).2 | exact (hg.1 _).2 | (simp only [Int.toNat_natCast, upF_2] at *; omega)) (by first | omega | (rw [e42]; omega) | exact (hg.2 _ _ _).1 | exact (hg.1 _).1 | (simp only [Int.toNat_natCast, upF_2] at *; omega)) (by first | omega | (rw [e42]; omega) | exact (hg.2 _ _ _).2 | exact (hg.1 _).2 | (simp only [Int.toNat_natCast, upF_2] at *; omega)) (by first | omega | (rw [e42]; omega) | (simp only [Int.toNat_natCast, upF_2] at *; omega)) ?_
    refine w_iconst rfl ?_
    refine w_goto rfl ?_
    refine w_iconst rfl ?_
    refine w_cvV rfl (by decide) (by first | omega | (rw [e42]; omega) | (simp only [Int.toNat_natCast, upF_2] at *; omega)) rfl RH_obj mt_112 (Nat.le_of_ble_eq_true rfl) (Nat.le_of_ble_eq_true rfl) (r_fails1 hb (by assumption) _) ?_
    rw [upF_upF]
    refine w_ifeq_f rfl (by first | omega | (rw [e42]; omega) | exact (hg.2 _ _ _).1 | exact (hg.1 _).1 | (simp only [Int.toNat_natCast, upF_2] at *; omega)) (by first | omega | (rw [e42]; omega) | exact (hg.2 _ _ _).2 | exact (hg.1 _).2 | (simp only [Int.toNat_natCast, upF_2] at *; omega)) (by first | omega | (rw [e42]; omega) | (simp only [Int.toNat_natCast, upF_2] at *; omega)) ?_
    refine w_iconst rfl ?_
    refine w_ireturn rfl rfl ?_
    exact ⟨rfl, rfl⟩
  have q3 : ρ.2 1 0 n.toNat ≠ 2 := by omega
  refine w_aload_n rfl rfl ?_
  refine w_iload_n rfl rfl ?_
  refine w_ifeq_t rfl (by first | omega | (rw [e42]; omega) | exact (hg.2 _ _ _).1 | exact (hg.1 _).1 | (simp only [Int.toNat_natCast, upF_2] at *; omega)) (by first | omega | (rw [e42]; omega) | exact (hg.2 _ _ _).2 | exact (hg.1 _).2 | (simp only [Int.toNat_natCast, upF_2] at *; omega)) (by first | omega | (rw [e42]; omega) | (simp only [Int.toNat_natCast, upF_2] at *; omega)) ?_
  refine w_iconst rfl ?_
  refine w_iconst rfl ?_
  refine w_cvV rfl (by decide) (by first | omega | (rw [e42]; omega) | (simp only [Int.toNat_natCast, upF_2] at *; omega)) rfl RH_obj mt_112 (Nat.le_of_ble_eq_true rfl) (Nat.le_of_ble_eq_true rfl) (r_fails0 hb (by assumption) _) ?_
  refine w_ifeq_t rfl (by first | omega | (rw [e42]; omega) | exact (hg.2 _ _ _).1 | exact (hg.1 _).1 | (simp only [Int.toNat_natCast, upF_2] at *; omega)) (by first | omega | (rw [e42]; omega) | exact (hg.2 _ _ _).2 | exact (hg.1 _).2 | (simp only [Int.toNat_natCast, upF_2] at *; omega)) (by first | omega | (rw [e42]; omega) | (simp only [Int.toNat_natCast, upF_2] at *; omega)) ?_
  refine w_aload_n rfl rfl ?_
  refine w_iload_n rfl rfl ?_
  refine w_iflt_f rfl (by first | omega | (rw [e42]; omega) | exact (hg.2 _ _ _).1 | exact (hg.1 _).1 | (simp only [Int.toNat_natCast, upF_2] at *; omega)) (by first | omega | (rw [e42]; omega) | exact (hg.2 _ _ _).2 | exact (hg.1 _).2 | (simp only [Int.toNat_natCast, upF_2] at *; omega)) (by first | omega | (rw [e42]; omega) | (simp only [Int.toNat_natCast, upF_2] at *; omega)) ?_
  refine w_iload_n rfl rfl ?_
  refine w_sipush rfl rfl ?_
  refine w_icge_f rfl (by first | omega | (rw [e42]; omega) | exact (hg.2 _ _ _).1 | exact (hg.1 _).1 | (simp only [Int.toNat_natCast, upF_2] at *; omega)) (by first | omega | (rw [e42]; omega) | exact (hg.2 _ _ _).2 | exact (hg.1 _).2 | (simp only [Int.toNat_natCast, upF_2] at *; omega)) (by first | omega | (rw [e42]; omega) | exact (hg.2 _ _ _).1 | exact (hg.1 _).1 | (simp only [Int.toNat_natCast, upF_2] at *; omega)) (by first | omega | (rw [e42]; omega) | exact (hg.2 _ _ _).2 | exact (hg.1 _).2 | (simp only [Int.toNat_natCast, upF_2] at *; omega)) (by first | omega | (rw [e42]; omega) | (simp only [Int.toNat_natCast, upF_2] at *; omega)) ?_
  refine w_iload_n rfl rfl ?_
  refine w_ifeq_t rfl (by first | omega | (rw [e42]; omega) | exact (hg.2 _ _ _).1 | exact (hg.1 _).1 | (simp only [Int.toNat_natCast, upF_2] at *; omega)) (by first | omega | (rw [e42]; omega) | exact (hg.2 _ _ _).2 | exact (hg.1 _).2 | (simp only [Int.toNat_natCast, upF_2] at *; omega)) (by first | omega | (rw [e42]; omega) | (simp only [Int.toNat_natCast, upF_2] at *; omega)) ?_
  refine w_aload_n rfl rfl ?_
  refine m_get rfl rfl ?_
  refine w_iload_n rfl rfl ?_
  refine m_iaload rfl hb rl_1 (by first | omega | (rw [e42]; omega) | (simp only [Int.toNat_natCast, upF_2] at *; omega)) (by first | omega | (rw [e42]; omega) | (simp only [Int.toNat_natCast, upF_2] at *; omega)) ?_
  refine w_iconst rfl ?_
  refine w_iceq_f rfl (by first | omega | (rw [e42]; omega) | exact (hg.2 _ _ _).1 | exact (hg.1 _).1 | (simp only [Int.toNat_natCast, upF_2] at *; omega)) (by first | omega | (rw [e42]; omega) | exact (hg.2 _ _ _).2 | exact (hg.1 _).2 | (simp only [Int.toNat_natCast, upF_2] at *; omega)) (by first | omega | (rw [e42]; omega) | exact (hg.2 _ _ _).1 | exact (hg.1 _).1 | (simp only [Int.toNat_natCast, upF_2] at *; omega)) (by first | omega | (rw [e42]; omega) | exact (hg.2 _ _ _).2 | exact (hg.1 _).2 | (simp only [Int.toNat_natCast, upF_2] at *; omega)) (by first | omega | (rw [e42]; omega) | (simp only [Int.toNat_natCast, upF_2] at *; omega)) ?_
  refine w_iconst rfl ?_
  refine w_goto rfl ?_
  refine w_iconst rfl ?_
  refine w_cvV rfl (by decide) (by first | omega | (rw [e42]; omega) | (simp only [Int.toNat_natCast, upF_2] at *; omega)) rfl RH_obj mt_112 (Nat.le_of_ble_eq_true rfl) (Nat.le_of_ble_eq_true rfl) (r_fails1 hb (by assumption) _) ?_
  rw [upF_upF]
  refine w_ifeq_f rfl (by first | omega | (rw [e42]; omega) | exact (hg.2 _ _ _).1 | exact (hg.1 _).1 | (simp only [Int.toNat_natCast, upF_2] at *; omega)) (by first | omega | (rw [e42]; omega) | exact (hg.2 _ _ _).2 | exact (hg.1 _).2 | (simp only [Int.toNat_natCast, upF_2] at *; omega)) (by first | omega | (rw [e42]; omega) | (simp only [Int.toNat_natCast, upF_2] at *; omega)) ?_
  refine w_iconst rfl ?_
  refine w_ireturn rfl rfl ?_
  exact ⟨rfl, rfl⟩
theorem r_find1_2 (hb : b < m0) (hg : Rg ρ) (d : Nat) (hd : 1 ≤ d) {n c : Int} (n1 : -2147483648 ≤ n) (n2 : n ≤ 2147483647) (c1 : -2147483648 ≤ c) (c2 : c ≤ 2147483647) (z1 : ρ.1 42 = 1) (hc : ¬ (0 ≤ n ∧ n < 256 ∧ ρ.2 32 0 n.toNat = 2)) : Wp b L xs d mi_143 0 (ent (mL mi_143) [.ref m0, vI 1, vI n, vI c]) [] (RH m0 h ρ) (Rt (RH m0 h (upF ρ 0 2)) (vI 0)) := by
  have hg0 : Rg (upF ρ 0 0) := hg.upF 0 (by decide) (by decide)
  have e42 : (upF ρ 0 0).1 42 = ρ.1 42 := rfl
  by_cases q1 : n < 0
  · refine w_aload_n rfl rfl ?_
    refine w_iload_n rfl rfl ?_
    refine w_ifeq_f rfl (by first | omega | (rw [e42]; omega) | exact (hg.2 _ _ _).1 | exact (hg.1 _).1 | (simp only [Int.toNat_natCast, upF_2] at *; omega)) (by first | omega | (rw [e42]; omega) | exact (hg.2 _ _ _).2 | exact (hg.1 _).2 | (simp only [Int.toNat_natCast, upF_2] at *; omega)) (by first | omega | (rw [e42]; omega) | (simp only [Int.toNat_natCast, upF_2] at *; omega)) ?_
    refine w_aload_n rfl rfl ?_
    refine m_get rfl rfl ?_
    refine w_ifne_t rfl (by first | omega | (rw [e42]; omega) | exact (hg.2 _ _ _).1 | exact (hg.1 _).1 | (simp only [Int.toNat_natCast, upF_2] at *; omega)) (by first | omega | (rw [e42]; omega) | exact (hg.2 _ _ _).2 | exact (hg.1 _).2 | (simp only [Int.toNat_natCast, upF_2] at *; omega)) (by first | omega | (rw [e42]; omega) | (simp only [Int.toNat_natCast, upF_2] at *; omega)) ?_
    refine w_iconst rfl ?_
    refine w_iconst rfl ?_
    refine w_cvV rfl (by decide) (by first | omega | (rw [e42]; omega) | (simp only [Int.toNat_natCast, upF_2] at *; omega)) rfl RH_obj mt_112 (Nat.le_of_ble_eq_true rfl) (Nat.le_of_ble_eq_true rfl) (r_fails0 hb (by assumption) _) ?_
    refine w_ifeq_t rfl (by first | omega | (rw [e42]; omega) | exact (hg.2 _ _ _).1 | exact (hg.1 _).1 | (simp only [Int.toNat_natCast, upF_2] at *; omega)) (by first | omega | (rw [e42]; omega) | exact (hg.2 _ _ _).2 | exact (hg.1 _).2 | (simp only [Int.toNat_natCast, upF_2] at *; omega)) (by first | omega | (rw [e42]; omega) | (simp only [Int.toNat_natCast, upF_2] at *; omega)) ?_
    refine w_aload_n rfl rfl ?_
    refine w_iload_n rfl rfl ?_
    refine w_iflt_t rfl (by first | omega | (rw [e42]; omega) | exact (hg.2 _ _ _).1 | exact (hg.1 _).1 | (simp only [Int.toNat_natCast, upF_2] at *; omega)) (by first | omega | (rw [e42]; omega) | exact (hg.2 _ _ _).2 | exact (hg.1 _).2 | (simp only [Int.toNat_natCast, upF_2] at *; omega)) (by first | omega | (rw [e42]; omega) | (simp only [Int.toNat_natCast, upF_2] at *; omega)) ?_
    refine w_iconst rfl ?_
    refine w_goto rfl ?_
    refine w_iconst rfl ?_
    refine w_cvV rfl (by decide) (by first | omega | (rw [e42]; omega) | (simp only [Int.toNat_natCast, upF_2] at *; omega)) rfl RH_obj mt_112 (Nat.le_of_ble_eq_true rfl) (Nat.le_of_ble_eq_true rfl) (r_fails1 hb (by assumption) _) ?_
    rw [upF_upF]
    refine w_ifeq_f rfl (by first | omega | (rw [e42]; omega) | exact (hg.2 _ _ _).1 | exact (hg.1 _).1 | (simp only [Int.toNat_natCast, upF_2] at *; omega)) (by first | omega | (rw [e42]; omega) | exact (hg.2 _ _ _).2 | exact (hg.1 _).2 | (simp only [Int.toNat_natCast, upF_2] at *; omega)) (by first | omega | (rw [e42]; omega) | (simp only [Int.toNat_natCast, upF_2] at *; omega)) ?_
    refine w_iconst rfl ?_
    refine w_ireturn rfl rfl ?_
    exact ⟨rfl, rfl⟩
  by_cases q2 : 256 ≤ n
  · refine w_aload_n rfl rfl ?_
    refine w_iload_n rfl rfl ?_
    refine w_ifeq_f rfl (by first | omega | (rw [e42]; omega) | exact (hg.2 _ _ _).1 | exact (hg.1 _).1 | (simp only [Int.toNat_natCast, upF_2] at *; omega)) (by first | omega | (rw [e42]; omega) | exact (hg.2 _ _ _).2 | exact (hg.1 _).2 | (simp only [Int.toNat_natCast, upF_2] at *; omega)) (by first | omega | (rw [e42]; omega) | (simp only [Int.toNat_natCast, upF_2] at *; omega)) ?_
    refine w_aload_n rfl rfl ?_
    refine m_get rfl rfl ?_
    refine w_ifne_t rfl (by first | omega | (rw [e42]; omega) | exact (hg.2 _ _ _).1 | exact (hg.1 _).1 | (simp only [Int.toNat_natCast, upF_2] at *; omega)) (by first | omega | (rw [e42]; omega) | exact (hg.2 _ _ _).2 | exact (hg.1 _).2 | (simp only [Int.toNat_natCast, upF_2] at *; omega)) (by first | omega | (rw [e42]; omega) | (simp only [Int.toNat_natCast, upF_2] at *; omega)) ?_
    refine w_iconst rfl ?_
    refine w_iconst rfl ?_
    refine w_cvV rfl (by decide) (by first | omega | (rw [e42]; omega) | (simp only [Int.toNat_natCast, upF_2] at *; omega)) rfl RH_obj mt_112 (Nat.le_of_ble_eq_true rfl) (Nat.le_of_ble_eq_true rfl) (r_fails0 hb (by assumption) _) ?_
    refine w_ifeq_t rfl (by first | omega | (rw [e42]; omega) | exact (hg.2 _ _ _).1 | exact (hg.1 _).1 | (simp only [Int.toNat_natCast, upF_2] at *; omega)) (by first | omega | (rw [e42]; omega) | exact (hg.2 _ _ _).2 | exact (hg.1 _).2 | (simp only [Int.toNat_natCast, upF_2] at *; omega)) (by first | omega | (rw [e42]; omega) | (simp only [Int.toNat_natCast, upF_2] at *; omega)) ?_
    refine w_aload_n rfl rfl ?_
    refine w_iload_n rfl rfl ?_
    refine w_iflt_f rfl (by first | omega | (rw [e42]; omega) | exact (hg.2 _ _ _).1 | exact (hg.1 _).1 | (simp only [Int.toNat_natCast, upF_2] at *; omega)) (by first | omega | (rw [e42]; omega) | exact (hg.2 _ _ _).2 | exact (hg.1 _).2 | (simp only [Int.toNat_natCast, upF_2] at *; omega)) (by first | omega | (rw [e42]; omega) | (simp only [Int.toNat_natCast, upF_2] at *; omega)) ?_
    refine w_iload_n rfl rfl ?_
    refine w_sipush rfl rfl ?_
    refine w_icge_t rfl (by first | omega | (rw [e42]; omega) | exact (hg.2 _ _ _).1 | exact (hg.1 _).1 | (simp only [Int.toNat_natCast, upF_2] at *; omega)) (by first | omega | (rw [e42]; omega) | exact (hg.2 _ _ _).2 | exact (hg.1 _).2 | (simp only [Int.toNat_natCast, upF_2] at *; omega)) (by first | omega | (rw [e42]; omega) | exact (hg.2 _ _ _).1 | exact (hg.1 _).1 | (simp only [Int.toNat_natCast, upF_2] at *; omega)) (by first | omega | (rw [e42]; omega) | exact (hg.2 _ _ _).2 | exact (hg.1 _).2 | (simp only [Int.toNat_natCast, upF_2] at *; omega)) (by first | omega | (rw [e42]; omega) | (simp only [Int.toNat_natCast, upF_2] at *; omega)) ?_
    refine w_iconst rfl ?_
    refine w_goto rfl ?_
    refine w_iconst rfl ?_
    refine w_cvV rfl (by decide) (by first | omega | (rw [e42]; omega) | (simp only [Int.toNat_natCast, upF_2] at *; omega)) rfl RH_obj mt_112 (Nat.le_of_ble_eq_true rfl) (Nat.le_of_ble_eq_true rfl) (r_fails1 hb (by assumption) _) ?_
    rw [upF_upF]
    refine w_ifeq_f rfl (by first | omega | (rw [e42]; omega) | exact (hg.2 _ _ _).1 | exact (hg.1 _).1 | (simp only [Int.toNat_natCast, upF_2] at *; omega)) (by first | omega | (rw [e42]; omega) | exact (hg.2 _ _ _).2 | exact (hg.1 _).2 | (simp only [Int.toNat_natCast, upF_2] at *; omega)) (by first | omega | (rw [e42]; omega) | (simp only [Int.toNat_natCast, upF_2] at *; omega)) ?_
    refine w_iconst rfl ?_
    refine w_ireturn rfl rfl ?_
    exact ⟨rfl, rfl⟩
  have q3 : ρ.2 32 0 n.toNat ≠ 2 := by omega
  refine w_aload_n rfl rfl ?_
  refine w_iload_n rfl rfl ?_
  refine w_ifeq_f rfl (by first | omega | (rw [e42]; omega) | exact (hg.2 _ _ _).1 | exact (hg.1 _).1 | (simp only [Int.toNat_natCast, upF_2] at *; omega)) (by first | omega | (rw [e42]; omega) | exact (hg.2 _ _ _).2 | exact (hg.1 _).2 | (simp only [Int.toNat_natCast, upF_2] at *; omega)) (by first | omega | (rw [e42]; omega) | (simp only [Int.toNat_natCast, upF_2] at *; omega)) ?_
  refine w_aload_n rfl rfl ?_
  refine m_get rfl rfl ?_
  refine w_ifne_t rfl (by first | omega | (rw [e42]; omega) | exact (hg.2 _ _ _).1 | exact (hg.1 _).1 | (simp only [Int.toNat_natCast, upF_2] at *; omega)) (by first | omega | (rw [e42]; omega) | exact (hg.2 _ _ _).2 | exact (hg.1 _).2 | (simp only [Int.toNat_natCast, upF_2] at *; omega)) (by first | omega | (rw [e42]; omega) | (simp only [Int.toNat_natCast, upF_2] at *; omega)) ?_
  refine w_iconst rfl ?_
  refine w_iconst rfl ?_
  refine w_cvV rfl (by decide) (by first | omega | (rw [e42]; omega) | (simp only [Int.toNat_natCast, upF_2] at *; omega)) rfl RH_obj mt_112 (Nat.le_of_ble_eq_true rfl) (Nat.le_of_ble_eq_true rfl) (r_fails0 hb (by assumption) _) ?_
  refine w_ifeq_t rfl (by first | omega | (rw [e42]; omega) | exact (hg.2 _ _ _).1 | exact (hg.1 _).1 | (simp only [Int.toNat_natCast, upF_2] at *; omega)) (by first | omega | (rw [e42]; omega) | exact (hg.2 _ _ _).2 | exact (hg.1 _).2 | (simp only [Int.toNat_natCast, upF_2] at *; omega)) (by first | omega | (rw [e42]; omega) | (simp only [Int.toNat_natCast, upF_2] at *; omega)) ?_
  refine w_aload_n rfl rfl ?_
  refine w_iload_n rfl rfl ?_
  refine w_iflt_f rfl (by first | omega | (rw [e42]; omega) | exact (hg.2 _ _ _).1 | exact (hg.1 _).1 | (simp only [Int.toNat_natCast, upF_2] at *; omega)) (by first | omega | (rw [e42]; omega) | exact (hg.2 _ _ _).2 | exact (hg.1 _).2 | (simp only [Int.toNat_natCast, upF_2] at *; omega)) (by first | omega | (rw [e42]; omega) | (simp only [Int.toNat_natCast, upF_2] at *; omega)) ?_
  refine w_iload_n rfl rfl ?_
  refine w_sipush rfl rfl ?_
  refine w_icge_f rfl (by first | omega | (rw [e42]; omega) | exact (hg.2 _ _ _).1 | exact (hg.1 _).1 | (simp only [Int.toNat_natCast, upF_2] at *; omega)) (by first | omega | (rw [e42]; omega) | exact (hg.2 _ _ _).2 | exact (hg.1 _).2 | (simp only [Int.toNat_natCast, upF_2] at *; omega)) (by first | omega | (rw [e42]; omega) | exact (hg.2 _ _ _).1 | exact (hg.1 _).1 | (simp only [Int.toNat_natCast, upF_2] at *; omega)) (by first | omega | (rw [e42]; omega) | exact (hg.2 _ _ _).2 | exact (hg.1 _).2 | (simp only [Int.toNat_natCast, upF_2] at *; omega)) (by first | omega | (rw [e42]; omega) | (simp only [Int.toNat_natCast, upF_2] at *; omega)) ?_
  refine w_iload_n rfl rfl ?_
  refine w_ifeq_f rfl (by first | omega | (rw [e42]; omega) | exact (hg.2 _ _ _).1 | exact (hg.1 _).1 | (simp only [Int.toNat_natCast, upF_2] at *; omega)) (by first | omega | (rw [e42]; omega) | exact (hg.2 _ _ _).2 | exact (hg.1 _).2 | (simp only [Int.toNat_natCast, upF_2] at *; omega)) (by first | omega | (rw [e42]; omega) | (simp only [Int.toNat_natCast, upF_2] at *; omega)) ?_
  refine w_aload_n rfl rfl ?_
  refine m_get rfl rfl ?_
  refine w_iload_n rfl rfl ?_
  refine m_iaload rfl hb rl_32 (by first | omega | (rw [e42]; omega) | (simp only [Int.toNat_natCast, upF_2] at *; omega)) (by first | omega | (rw [e42]; omega) | (simp only [Int.toNat_natCast, upF_2] at *; omega)) ?_
  refine w_goto rfl ?_
  refine w_iconst rfl ?_
  refine w_iceq_f rfl (by first | omega | (rw [e42]; omega) | exact (hg.2 _ _ _).1 | exact (hg.1 _).1 | (simp only [Int.toNat_natCast, upF_2] at *; omega)) (by first | omega | (rw [e42]; omega) | exact (hg.2 _ _ _).2 | exact (hg.1 _).2 | (simp only [Int.toNat_natCast, upF_2] at *; omega)) (by first | omega | (rw [e42]; omega) | exact (hg.2 _ _ _).1 | exact (hg.1 _).1 | (simp only [Int.toNat_natCast, upF_2] at *; omega)) (by first | omega | (rw [e42]; omega) | exact (hg.2 _ _ _).2 | exact (hg.1 _).2 | (simp only [Int.toNat_natCast, upF_2] at *; omega)) (by first | omega | (rw [e42]; omega) | (simp only [Int.toNat_natCast, upF_2] at *; omega)) ?_
  refine w_iconst rfl ?_
  refine w_goto rfl ?_
  refine w_iconst rfl ?_
  refine w_cvV rfl (by decide) (by first | omega | (rw [e42]; omega) | (simp only [Int.toNat_natCast, upF_2] at *; omega)) rfl RH_obj mt_112 (Nat.le_of_ble_eq_true rfl) (Nat.le_of_ble_eq_true rfl) (r_fails1 hb (by assumption) _) ?_
  rw [upF_upF]
  refine w_ifeq_f rfl (by first | omega | (rw [e42]; omega) | exact (hg.2 _ _ _).1 | exact (hg.1 _).1 | (simp only [Int.toNat_natCast, upF_2] at *; omega)) (by first | omega | (rw [e42]; omega) | exact (hg.2 _ _ _).2 | exact (hg.1 _).2 | (simp only [Int.toNat_natCast, upF_2] at *; omega)) (by first | omega | (rw [e42]; omega) | (simp only [Int.toNat_natCast, upF_2] at *; omega)) ?_
  refine w_iconst rfl ?_
  refine w_ireturn rfl rfl ?_
  exact ⟨rfl, rfl⟩
theorem r_oct0_3 (hb : b < m0) (hg : Rg ρ) (d : Nat) (hd : 1 ≤ d) {n : Nat} {c : Int} (c1 : -2147483648 ≤ c) (c2 : c ≤ 2147483647) (hn : n < 256) (hk : ρ.2 1 0 n = 1) (hc : c < 0 ∨ ρ.2 4 0 n ≤ c) : Wp b L xs d mi_142 0 (ent (mL mi_142) [.ref m0, vI 0, vI n, vI c]) [] (RH m0 h ρ) (Rt (RH m0 h (upF ρ 0 3)) (vI 0)) := by
  have hg0 : Rg (upF ρ 0 0) := hg.upF 0 (by decide) (by decide)
  have e42 : (upF ρ 0 0).1 42 = ρ.1 42 := rfl
  by_cases q1 : c < 0
  · refine w_aload_n rfl rfl ?_
    refine w_iload_n rfl rfl ?_
    refine w_ifeq_t rfl (by first | omega | (rw [e42]; omega) | exact (hg.2 _ _ _).1 | exact (hg.1 _).1 | (simp only [Int.toNat_natCast, upF_2] at *; omega)) (by first | omega | (rw [e42]; omega) | exact (hg.2 _ _ _).2 | exact (hg.1 _).2 | (simp only [Int.toNat_natCast, upF_2] at *; omega)) (by first | omega | (rw [e42]; omega) | (simp only [Int.toNat_natCast, upF_2] at *; omega)) ?_
    refine w_iconst rfl ?_
    refine w_iconst rfl ?_
    refine w_cvV rfl (by decide) (by first | omega | (rw [e42]; omega) | (simp only [Int.toNat_natCast, upF_2] at *; omega)) rfl RH_obj mt_112 (Nat.le_of_ble_eq_true rfl) (Nat.le_of_ble_eq_true rfl) (r_fails0 hb (by assumption) _) ?_
    refine w_ifeq_t rfl (by first | omega | (rw [e42]; omega) | exact (hg.2 _ _ _).1 | exact (hg.1 _).1 | (simp only [Int.toNat_natCast, upF_2] at *; omega)) (by first | omega | (rw [e42]; omega) | exact (hg.2 _ _ _).2 | exact (hg.1 _).2 | (simp only [Int.toNat_natCast, upF_2] at *; omega)) (by first | omega | (rw [e42]; omega) | (simp only [Int.toNat_natCast, upF_2] at *; omega)) ?_
    refine w_aload_n rfl rfl ?_
    refine w_iload_n rfl rfl ?_
    refine w_iflt_f rfl (by first | omega | (rw [e42]; omega) | exact (hg.2 _ _ _).1 | exact (hg.1 _).1 | (simp only [Int.toNat_natCast, upF_2] at *; omega)) (by first | omega | (rw [e42]; omega) | exact (hg.2 _ _ _).2 | exact (hg.1 _).2 | (simp only [Int.toNat_natCast, upF_2] at *; omega)) (by first | omega | (rw [e42]; omega) | (simp only [Int.toNat_natCast, upF_2] at *; omega)) ?_
    refine w_iload_n rfl rfl ?_
    refine w_sipush rfl rfl ?_
    refine w_icge_f rfl (by first | omega | (rw [e42]; omega) | exact (hg.2 _ _ _).1 | exact (hg.1 _).1 | (simp only [Int.toNat_natCast, upF_2] at *; omega)) (by first | omega | (rw [e42]; omega) | exact (hg.2 _ _ _).2 | exact (hg.1 _).2 | (simp only [Int.toNat_natCast, upF_2] at *; omega)) (by first | omega | (rw [e42]; omega) | exact (hg.2 _ _ _).1 | exact (hg.1 _).1 | (simp only [Int.toNat_natCast, upF_2] at *; omega)) (by first | omega | (rw [e42]; omega) | exact (hg.2 _ _ _).2 | exact (hg.1 _).2 | (simp only [Int.toNat_natCast, upF_2] at *; omega)) (by first | omega | (rw [e42]; omega) | (simp only [Int.toNat_natCast, upF_2] at *; omega)) ?_
    refine w_iload_n rfl rfl ?_
    refine w_ifeq_t rfl (by first | omega | (rw [e42]; omega) | exact (hg.2 _ _ _).1 | exact (hg.1 _).1 | (simp only [Int.toNat_natCast, upF_2] at *; omega)) (by first | omega | (rw [e42]; omega) | exact (hg.2 _ _ _).2 | exact (hg.1 _).2 | (simp only [Int.toNat_natCast, upF_2] at *; omega)) (by first | omega | (rw [e42]; omega) | (simp only [Int.toNat_natCast, upF_2] at *; omega)) ?_
    refine w_aload_n rfl rfl ?_
    refine m_get rfl rfl ?_
    refine w_iload_n rfl rfl ?_
    refine m_iaload rfl hb rl_1 (by first | omega | (rw [e42]; omega) | (simp only [Int.toNat_natCast, upF_2] at *; omega)) (by first | omega | (rw [e42]; omega) | (simp only [Int.toNat_natCast, upF_2] at *; omega)) ?_
    refine w_iconst rfl ?_
    refine w_iceq_t rfl (by first | omega | (rw [e42]; omega) | exact (hg.2 _ _ _).1 | exact (hg.1 _).1 | (simp only [Int.toNat_natCast, upF_2] at *; omega)) (by first | omega | (rw [e42]; omega) | exact (hg.2 _ _ _).2 | exact (hg.1 _).2 | (simp only [Int.toNat_natCast, upF_2] at *; omega)) (by first | omega | (rw [e42]; omega) | exact (hg.2 _ _ _).1 | exact (hg.1 _).1 | (simp only [Int.toNat_natCast, upF_2] at *; omega)) (by first | omega | (rw [e42]; omega) | exact (hg.2 _ _ _).2 | exact (hg.1 _).2 | (simp only [Int.toNat_natCast, upF_2] at *; omega)) (by first | omega | (rw [e42]; omega) | (simp only [Int.toNat_natCast, upF_2] at *; omega)) ?_
    refine w_iconst rfl ?_
    refine w_iconst rfl ?_
    refine w_cvV rfl (by decide) (by first | omega | (rw [e42]; omega) | (simp only [Int.toNat_natCast, upF_2] at *; omega)) rfl RH_obj mt_112 (Nat.le_of_ble_eq_true rfl) (Nat.le_of_ble_eq_true rfl) (r_fails0 hb (by assumption) _) ?_
    rw [upF_upF]
    refine w_ifeq_t rfl (by first | omega | (rw [e42]; omega) | exact (hg.2 _ _ _).1 | exact (hg.1 _).1 | (simp only [Int.toNat_natCast, upF_2] at *; omega)) (by first | omega | (rw [e42]; omega) | exact (hg.2 _ _ _).2 | exact (hg.1 _).2 | (simp only [Int.toNat_natCast, upF_2] at *; omega)) (by first | omega | (rw [e42]; omega) | (simp only [Int.toNat_natCast, upF_2] at *; omega)) ?_
    refine w_aload_n rfl rfl ?_
    refine w_iload_n rfl rfl ?_
    refine w_iflt_t rfl (by first | omega | (rw [e42]; omega) | exact (hg.2 _ _ _).1 | exact (hg.1 _).1 | (simp only [Int.toNat_natCast, upF_2] at *; omega)) (by first | omega | (rw [e42]; omega) | exact (hg.2 _ _ _).2 | exact (hg.1 _).2 | (simp only [Int.toNat_natCast, upF_2] at *; omega)) (by first | omega | (rw [e42]; omega) | (simp only [Int.toNat_natCast, upF_2] at *; omega)) ?_
    refine w_iconst rfl ?_
    refine w_goto rfl ?_
    refine w_iconst rfl ?_
    refine w_cvV rfl (by decide) (by first | omega | (rw [e42]; omega) | (simp only [Int.toNat_natCast, upF_2] at *; omega)) rfl RH_obj mt_112 (Nat.le_of_ble_eq_true rfl) (Nat.le_of_ble_eq_true rfl) (r_fails1 hb (by assumption) _) ?_
    rw [upF_upF]
    refine w_ifeq_f rfl (by first | omega | (rw [e42]; omega) | exact (hg.2 _ _ _).1 | exact (hg.1 _).1 | (simp only [Int.toNat_natCast, upF_2] at *; omega)) (by first | omega | (rw [e42]; omega) | exact (hg.2 _ _ _).2 | exact (hg.1 _).2 | (simp only [Int.toNat_natCast, upF_2] at *; omega)) (by first | omega | (rw [e42]; omega) | (simp only [Int.toNat_natCast, upF_2] at *; omega)) ?_
    refine w_iconst rfl ?_
    refine w_ireturn rfl rfl ?_
    exact ⟨rfl, rfl⟩
  refine w_aload_n rfl rfl ?_
  refine w_iload_n rfl rfl ?_
  refine w_ifeq_t rfl (by first | omega | (rw [e42]; omega) | exact (hg.2 _ _ _).1 | exact (hg.1 _).1 | (simp only [Int.toNat_natCast, upF_2] at *; omega)) (by first | omega | (rw [e42]; omega) | exact (hg.2 _ _ _).2 | exact (hg.1 _).2 | (simp only [Int.toNat_natCast, upF_2] at *; omega)) (by first | omega | (rw [e42]; omega) | (simp only [Int.toNat_natCast, upF_2] at *; omega)) ?_
  refine w_iconst rfl ?_
  refine w_iconst rfl ?_
  refine w_cvV rfl (by decide) (by first | omega | (rw [e42]; omega) | (simp only [Int.toNat_natCast, upF_2] at *; omega)) rfl RH_obj mt_112 (Nat.le_of_ble_eq_true rfl) (Nat.le_of_ble_eq_true rfl) (r_fails0 hb (by assumption) _) ?_
  refine w_ifeq_t rfl (by first | omega | (rw [e42]; omega) | exact (hg.2 _ _ _).1 | exact (hg.1 _).1 | (simp only [Int.toNat_natCast, upF_2] at *; omega)) (by first | omega | (rw [e42]; omega) | exact (hg.2 _ _ _).2 | exact (hg.1 _).2 | (simp only [Int.toNat_natCast, upF_2] at *; omega)) (by first | omega | (rw [e42]; omega) | (simp only [Int.toNat_natCast, upF_2] at *; omega)) ?_
  refine w_aload_n rfl rfl ?_
  refine w_iload_n rfl rfl ?_
  refine w_iflt_f rfl (by first | omega | (rw [e42]; omega) | exact (hg.2 _ _ _).1 | exact (hg.1 _).1 | (simp only [Int.toNat_natCast, upF_2] at *; omega)) (by first | omega | (rw [e42]; omega) | exact (hg.2 _ _ _).2 | exact (hg.1 _).2 | (simp only [Int.toNat_natCast, upF_2] at *; omega)) (by first | omega | (rw [e42]; omega) | (simp only [Int.toNat_natCast, upF_2] at *; omega)) ?_
  refine w_iload_n rfl rfl ?_
  refine w_sipush rfl rfl ?_
  refine w_icge_f rfl (by first | omega | (rw [e42]; omega) | exact (hg.2 _ _ _).1 | exact (hg.1 _).1 | (simp only [Int.toNat_natCast, upF_2] at *; omega)) (by first | omega | (rw [e42]; omega) | exact (hg.2 _ _ _).2 | exact (hg.1 _).2 | (simp only [Int.toNat_natCast, upF_2] at *; omega)) (by first | omega | (rw [e42]; omega) | exact (hg.2 _ _ _).1 | exact (hg.1 _).1 | (simp only [Int.toNat_natCast, upF_2] at *; omega)) (by first | omega | (rw [e42]; omega) | exact (hg.2 _ _ _).2 | exact (hg.1 _).2 | (simp only [Int.toNat_natCast, upF_2] at *; omega)) (by first | omega | (rw [e42]; omega) | (simp only [Int.toNat_natCast, upF_2] at *; omega)) ?_
  refine w_iload_n rfl rfl ?_
  refine w_ifeq_t rfl (by first | omega | (rw [e42]; omega) | exact (hg.2 _ _ _).1 | exact (hg.1 _).1 | (simp only [Int.toNat_natCast, upF_2] at *; omega)) (by first | omega | (rw [e42]; omega) | exact (hg.2 _ _ _).2 | exact (hg.1 _).2 | (simp only [Int.toNat_natCast, upF_2] at *; omega)) (by first | omega | (rw [e42]; omega) | (simp only [Int.toNat_natCast, upF_2] at *; omega)) ?_
  refine w_aload_n rfl rfl ?_
  refine m_get rfl rfl ?_
  refine w_iload_n rfl rfl ?_
  refine m_iaload rfl hb rl_1 (by first | omega | (rw [e42]; omega) | (simp only [Int.toNat_natCast, upF_2] at *; omega)) (by first | omega | (rw [e42]; omega) | (simp only [Int.toNat_natCast, upF_2] at *; omega)) ?_
  refine w_iconst rfl ?_
  refine w_iceq_t rfl (by first | omega | (rw [e42]; omega) | exact (hg.2 _ _ _).1 | exact (hg.1 _).1 | (simp only [Int.toNat_natCast, upF_2] at *; omega)) (by first | omega | (rw [e42]; omega) | exact (hg.2 _ _ _).2 | exact (hg.1 _).2 | (simp only [Int.toNat_natCast, upF_2] at *; omega)) (by first | omega | (rw [e42]; omega) | exact (hg.2 _ _ _).1 | exact (hg.1 _).1 | (simp only [Int.toNat_natCast, upF_2] at *; omega)) (by first | omega | (rw [e42]; omega) | exact (hg.2 _ _ _).2 | exact (hg.1 _).2 | (simp only [Int.toNat_natCast, upF_2] at *; omega)) (by first | omega | (rw [e42]; omega) | (simp only [Int.toNat_natCast, upF_2] at *; omega)) ?_
  refine w_iconst rfl ?_
  refine w_iconst rfl ?_
  refine w_cvV rfl (by decide) (by first | omega | (rw [e42]; omega) | (simp only [Int.toNat_natCast, upF_2] at *; omega)) rfl RH_obj mt_112 (Nat.le_of_ble_eq_true rfl) (Nat.le_of_ble_eq_true rfl) (r_fails0 hb (by assumption) _) ?_
  rw [upF_upF]
  refine w_ifeq_t rfl (by first | omega | (rw [e42]; omega) | exact (hg.2 _ _ _).1 | exact (hg.1 _).1 | (simp only [Int.toNat_natCast, upF_2] at *; omega)) (by first | omega | (rw [e42]; omega) | exact (hg.2 _ _ _).2 | exact (hg.1 _).2 | (simp only [Int.toNat_natCast, upF_2] at *; omega)) (by first | omega | (rw [e42]; omega) | (simp only [Int.toNat_natCast, upF_2] at *; omega)) ?_
  refine w_aload_n rfl rfl ?_
  refine w_iload_n rfl rfl ?_
  refine w_iflt_f rfl (by first | omega | (rw [e42]; omega) | exact (hg.2 _ _ _).1 | exact (hg.1 _).1 | (simp only [Int.toNat_natCast, upF_2] at *; omega)) (by first | omega | (rw [e42]; omega) | exact (hg.2 _ _ _).2 | exact (hg.1 _).2 | (simp only [Int.toNat_natCast, upF_2] at *; omega)) (by first | omega | (rw [e42]; omega) | (simp only [Int.toNat_natCast, upF_2] at *; omega)) ?_
  refine w_iload_n rfl rfl ?_
  refine w_iload_n rfl rfl ?_
  refine w_ifeq_t rfl (by first | omega | (rw [e42]; omega) | exact (hg.2 _ _ _).1 | exact (hg.1 _).1 | (simp only [Int.toNat_natCast, upF_2] at *; omega)) (by first | omega | (rw [e42]; omega) | exact (hg.2 _ _ _).2 | exact (hg.1 _).2 | (simp only [Int.toNat_natCast, upF_2] at *; omega)) (by first | omega | (rw [e42]; omega) | (simp only [Int.toNat_natCast, upF_2] at *; omega)) ?_
  refine w_aload_n rfl rfl ?_
  refine m_get rfl rfl ?_
  refine w_iload_n rfl rfl ?_
  refine m_iaload rfl hb rl_4 (by first | omega | (rw [e42]; omega) | (simp only [Int.toNat_natCast, upF_2] at *; omega)) (by first | omega | (rw [e42]; omega) | (simp only [Int.toNat_natCast, upF_2] at *; omega)) ?_
  refine w_iclt_f rfl (by first | omega | (rw [e42]; omega) | exact (hg.2 _ _ _).1 | exact (hg.1 _).1 | (simp only [Int.toNat_natCast, upF_2] at *; omega)) (by first | omega | (rw [e42]; omega) | exact (hg.2 _ _ _).2 | exact (hg.1 _).2 | (simp only [Int.toNat_natCast, upF_2] at *; omega)) (by first | omega | (rw [e42]; omega) | exact (hg.2 _ _ _).1 | exact (hg.1 _).1 | (simp only [Int.toNat_natCast, upF_2] at *; omega)) (by first | omega | (rw [e42]; omega) | exact (hg.2 _ _ _).2 | exact (hg.1 _).2 | (simp only [Int.toNat_natCast, upF_2] at *; omega)) (by first | omega | (rw [e42]; omega) | (simp only [Int.toNat_natCast, upF_2] at *; omega)) ?_
  refine w_iconst rfl ?_
  refine w_goto rfl ?_
  refine w_iconst rfl ?_
  refine w_cvV rfl (by decide) (by first | omega | (rw [e42]; omega) | (simp only [Int.toNat_natCast, upF_2] at *; omega)) rfl RH_obj mt_112 (Nat.le_of_ble_eq_true rfl) (Nat.le_of_ble_eq_true rfl) (r_fails1 hb (by assumption) _) ?_
  rw [upF_upF]
  refine w_ifeq_f rfl (by first | omega | (rw [e42]; omega) | exact (hg.2 _ _ _).1 | exact (hg.1 _).1 | (simp only [Int.toNat_natCast, upF_2] at *; omega)) (by first | omega | (rw [e42]; omega) | exact (hg.2 _ _ _).2 | exact (hg.1 _).2 | (simp only [Int.toNat_natCast, upF_2] at *; omega)) (by first | omega | (rw [e42]; omega) | (simp only [Int.toNat_natCast, upF_2] at *; omega)) ?_
  refine w_iconst rfl ?_
  refine w_ireturn rfl rfl ?_
  exact ⟨rfl, rfl⟩
theorem r_oct0 (hb : b < m0) (hg : Rg ρ) (d : Nat) (hd : 1 ≤ d) {n c : Nat} (hn : n < 256) (hk : ρ.2 1 0 n = 1) (hc : c < ρ.2 4 0 n) (hc2 : c < 512) : Wp b L xs d mi_142 0 (ent (mL mi_142) [.ref m0, vI 0, vI n, vI c]) [] (RH m0 h ρ) (Rt (RH m0 h (upF ρ 0 0)) (vI (ρ.2 6 n c % 256))) := by
  have hg0 : Rg (upF ρ 0 0) := hg.upF 0 (by decide) (by decide)
  have e42 : (upF ρ 0 0).1 42 = ρ.1 42 := rfl
  refine w_aload_n rfl rfl ?_
  refine w_iload_n rfl rfl ?_
  refine w_ifeq_t rfl (by first | omega | (rw [e42]; omega) | exact (hg.2 _ _ _).1 | exact (hg.1 _).1 | (simp only [Int.toNat_natCast, upF_2] at *; omega)) (by first | omega | (rw [e42]; omega) | exact (hg.2 _ _ _).2 | exact (hg.1 _).2 | (simp only [Int.toNat_natCast, upF_2] at *; omega)) (by first | omega | (rw [e42]; omega) | (simp only [Int.toNat_natCast, upF_2] at *; omega)) ?_
  refine w_iconst rfl ?_
  refine w_iconst rfl ?_
  refine w_cvV rfl (by decide) (by first | omega | (rw [e42]; omega) | (simp only [Int.toNat_natCast, upF_2] at *; omega)) rfl RH_obj mt_112 (Nat.le_of_ble_eq_true rfl) (Nat.le_of_ble_eq_true rfl) (r_fails0 hb (by assumption) _) ?_
  refine w_ifeq_t rfl (by first | omega | (rw [e42]; omega) | exact (hg.2 _ _ _).1 | exact (hg.1 _).1 | (simp only [Int.toNat_natCast, upF_2] at *; omega)) (by first | omega | (rw [e42]; omega) | exact (hg.2 _ _ _).2 | exact (hg.1 _).2 | (simp only [Int.toNat_natCast, upF_2] at *; omega)) (by first | omega | (rw [e42]; omega) | (simp only [Int.toNat_natCast, upF_2] at *; omega)) ?_
  refine w_aload_n rfl rfl ?_
  refine w_iload_n rfl rfl ?_
  refine w_iflt_f rfl (by first | omega | (rw [e42]; omega) | exact (hg.2 _ _ _).1 | exact (hg.1 _).1 | (simp only [Int.toNat_natCast, upF_2] at *; omega)) (by first | omega | (rw [e42]; omega) | exact (hg.2 _ _ _).2 | exact (hg.1 _).2 | (simp only [Int.toNat_natCast, upF_2] at *; omega)) (by first | omega | (rw [e42]; omega) | (simp only [Int.toNat_natCast, upF_2] at *; omega)) ?_
  refine w_iload_n rfl rfl ?_
  refine w_sipush rfl rfl ?_
  refine w_icge_f rfl (by first | omega | (rw [e42]; omega) | exact (hg.2 _ _ _).1 | exact (hg.1 _).1 | (simp only [Int.toNat_natCast, upF_2] at *; omega)) (by first | omega | (rw [e42]; omega) | exact (hg.2 _ _ _).2 | exact (hg.1 _).2 | (simp only [Int.toNat_natCast, upF_2] at *; omega)) (by first | omega | (rw [e42]; omega) | exact (hg.2 _ _ _).1 | exact (hg.1 _).1 | (simp only [Int.toNat_natCast, upF_2] at *; omega)) (by first | omega | (rw [e42]; omega) | exact (hg.2 _ _ _).2 | exact (hg.1 _).2 | (simp only [Int.toNat_natCast, upF_2] at *; omega)) (by first | omega | (rw [e42]; omega) | (simp only [Int.toNat_natCast, upF_2] at *; omega)) ?_
  refine w_iload_n rfl rfl ?_
  refine w_ifeq_t rfl (by first | omega | (rw [e42]; omega) | exact (hg.2 _ _ _).1 | exact (hg.1 _).1 | (simp only [Int.toNat_natCast, upF_2] at *; omega)) (by first | omega | (rw [e42]; omega) | exact (hg.2 _ _ _).2 | exact (hg.1 _).2 | (simp only [Int.toNat_natCast, upF_2] at *; omega)) (by first | omega | (rw [e42]; omega) | (simp only [Int.toNat_natCast, upF_2] at *; omega)) ?_
  refine w_aload_n rfl rfl ?_
  refine m_get rfl rfl ?_
  refine w_iload_n rfl rfl ?_
  refine m_iaload rfl hb rl_1 (by first | omega | (rw [e42]; omega) | (simp only [Int.toNat_natCast, upF_2] at *; omega)) (by first | omega | (rw [e42]; omega) | (simp only [Int.toNat_natCast, upF_2] at *; omega)) ?_
  refine w_iconst rfl ?_
  refine w_iceq_t rfl (by first | omega | (rw [e42]; omega) | exact (hg.2 _ _ _).1 | exact (hg.1 _).1 | (simp only [Int.toNat_natCast, upF_2] at *; omega)) (by first | omega | (rw [e42]; omega) | exact (hg.2 _ _ _).2 | exact (hg.1 _).2 | (simp only [Int.toNat_natCast, upF_2] at *; omega)) (by first | omega | (rw [e42]; omega) | exact (hg.2 _ _ _).1 | exact (hg.1 _).1 | (simp only [Int.toNat_natCast, upF_2] at *; omega)) (by first | omega | (rw [e42]; omega) | exact (hg.2 _ _ _).2 | exact (hg.1 _).2 | (simp only [Int.toNat_natCast, upF_2] at *; omega)) (by first | omega | (rw [e42]; omega) | (simp only [Int.toNat_natCast, upF_2] at *; omega)) ?_
  refine w_iconst rfl ?_
  refine w_iconst rfl ?_
  refine w_cvV rfl (by decide) (by first | omega | (rw [e42]; omega) | (simp only [Int.toNat_natCast, upF_2] at *; omega)) rfl RH_obj mt_112 (Nat.le_of_ble_eq_true rfl) (Nat.le_of_ble_eq_true rfl) (r_fails0 hb (by assumption) _) ?_
  rw [upF_upF]
  refine w_ifeq_t rfl (by first | omega | (rw [e42]; omega) | exact (hg.2 _ _ _).1 | exact (hg.1 _).1 | (simp only [Int.toNat_natCast, upF_2] at *; omega)) (by first | omega | (rw [e42]; omega) | exact (hg.2 _ _ _).2 | exact (hg.1 _).2 | (simp only [Int.toNat_natCast, upF_2] at *; omega)) (by first | omega | (rw [e42]; omega) | (simp only [Int.toNat_natCast, upF_2] at *; omega)) ?_
  refine w_aload_n rfl rfl ?_
  refine w_iload_n rfl rfl ?_
  refine w_iflt_f rfl (by first | omega | (rw [e42]; omega) | exact (hg.2 _ _ _).1 | exact (hg.1 _).1 | (simp only [Int.toNat_natCast, upF_2] at *; omega)) (by first | omega | (rw [e42]; omega) | exact (hg.2 _ _ _).2 | exact (hg.1 _).2 | (simp only [Int.toNat_natCast, upF_2] at *; omega)) (by first | omega | (rw [e42]; omega) | (simp only [Int.toNat_natCast, upF_2] at *; omega)) ?_
  refine w_iload_n rfl rfl ?_
  refine w_iload_n rfl rfl ?_
  refine w_ifeq_t rfl (by first | omega | (rw [e42]; omega) | exact (hg.2 _ _ _).1 | exact (hg.1 _).1 | (simp only [Int.toNat_natCast, upF_2] at *; omega)) (by first | omega | (rw [e42]; omega) | exact (hg.2 _ _ _).2 | exact (hg.1 _).2 | (simp only [Int.toNat_natCast, upF_2] at *; omega)) (by first | omega | (rw [e42]; omega) | (simp only [Int.toNat_natCast, upF_2] at *; omega)) ?_
  refine w_aload_n rfl rfl ?_
  refine m_get rfl rfl ?_
  refine w_iload_n rfl rfl ?_
  refine m_iaload rfl hb rl_4 (by first | omega | (rw [e42]; omega) | (simp only [Int.toNat_natCast, upF_2] at *; omega)) (by first | omega | (rw [e42]; omega) | (simp only [Int.toNat_natCast, upF_2] at *; omega)) ?_
  refine w_iclt_t rfl (by first | omega | (rw [e42]; omega) | exact (hg.2 _ _ _).1 | exact (hg.1 _).1 | (simp only [Int.toNat_natCast, upF_2] at *; omega)) (by first | omega | (rw [e42]; omega) | exact (hg.2 _ _ _).2 | exact (hg.1 _).2 | (simp only [Int.toNat_natCast, upF_2] at *; omega)) (by first | omega | (rw [e42]; omega) | exact (hg.2 _ _ _).1 | exact (hg.1 _).1 | (simp only [Int.toNat_natCast, upF_2] at *; omega)) (by first | omega | (rw [e42]; omega) | exact (hg.2 _ _ _).2 | exact (hg.1 _).2 | (simp only [Int.toNat_natCast, upF_2] at *; omega)) (by first | omega | (rw [e42]; omega) | (simp only [Int.toNat_natCast, upF_2] at *; omega)) ?_
  refine w_iconst rfl ?_
  refine w_iconst rfl ?_
  refine w_cvV rfl (by decide) (by first | omega | (rw [e42]; omega) | (simp only [Int.toNat_natCast, upF_2] at *; omega)) rfl RH_obj mt_112 (Nat.le_of_ble_eq_true rfl) (Nat.le_of_ble_eq_true rfl) (r_fails0 hb (by assumption) _) ?_
  rw [upF_upF]
  refine w_ifeq_t rfl (by first | omega | (rw [e42]; omega) | exact (hg.2 _ _ _).1 | exact (hg.1 _).1 | (simp only [Int.toNat_natCast, upF_2] at *; omega)) (by first | omega | (rw [e42]; omega) | exact (hg.2 _ _ _).2 | exact (hg.1 _).2 | (simp only [Int.toNat_natCast, upF_2] at *; omega)) (by first | omega | (rw [e42]; omega) | (simp only [Int.toNat_natCast, upF_2] at *; omega)) ?_
  refine w_iload_n rfl rfl ?_
  refine w_ifeq_t rfl (by first | omega | (rw [e42]; omega) | exact (hg.2 _ _ _).1 | exact (hg.1 _).1 | (simp only [Int.toNat_natCast, upF_2] at *; omega)) (by first | omega | (rw [e42]; omega) | exact (hg.2 _ _ _).2 | exact (hg.1 _).2 | (simp only [Int.toNat_natCast, upF_2] at *; omega)) (by first | omega | (rw [e42]; omega) | (simp only [Int.toNat_natCast, upF_2] at *; omega)) ?_
  refine w_aload_n rfl rfl ?_
  refine m_get rfl rfl ?_
  refine w_iload_n rfl rfl ?_
  refine m_aaload rfl rfl (by first | omega | (rw [e42]; omega) | (simp only [Int.toNat_natCast, upF_2] at *; omega)) (by first | omega | (rw [e42]; omega) | (simp only [Int.toNat_natCast, upF_2] at *; omega)) ?_
  refine w_iload_n rfl rfl ?_
  refine m_baload rfl (rlay_r6 (by first | omega | (rw [e42]; omega) | (simp only [Int.toNat_natCast, upF_2] at *; omega))) (by first | omega | (rw [e42]; omega) | (simp only [Int.toNat_natCast, upF_2] at *; omega)) (by first | omega | (rw [e42]; omega) | (simp only [Int.toNat_natCast, upF_2] at *; omega)) ?_
  refine w_sipush rfl rfl ?_
  refine w_and255 rfl ?_
  refine w_ireturn rfl rfl ?_
  exact ⟨rfl, by rw [sb_mod]; rfl⟩
theorem r_oct1_3 (hb : b < m0) (hg : Rg ρ) (d : Nat) (hd : 1 ≤ d) {n : Nat} {c : Int} (c1 : -2147483648 ≤ c) (c2 : c ≤ 2147483647) (z1 : ρ.1 42 = 1) (hn : n < 256) (hk : ρ.2 32 0 n = 1) (hc : c < 0 ∨ ρ.2 35 0 n ≤ c) : Wp b L xs d mi_142 0 (ent (mL mi_142) [.ref m0, vI 1, vI n, vI c]) [] (RH m0 h ρ) (Rt (RH m0 h (upF ρ 0 3)) (vI 0)) := by
  have hg0 : Rg (upF ρ 0 0) := hg.upF 0 (by decide) (by decide)
  have e42 : (upF ρ 0 0).1 42 = ρ.1 42 := rfl
  by_cases q1 : c < 0
  · refine w_aload_n rfl rfl ?_
    refine w_iload_n rfl rfl ?_
    refine w_ifeq_f rfl (by first | omega | (rw [e42]; omega) | exact (hg.2 _ _ _).1 | exact (hg.1 _).1 | (simp only [Int.toNat_natCast, upF_2] at *; omega)) (by first | omega | (rw [e42]; omega) | exact (hg.2 _ _ _).2 | exact (hg.1 _).2 | (simp only [Int.toNat_natCast, upF_2] at *; omega)) (by first | omega | (rw [e42]; omega) | (simp only [Int.toNat_natCast, upF_2] at *; omega)) ?_
    refine w_aload_n rfl rfl ?_
    refine m_get rfl rfl ?_
    refine w_ifne_t rfl (by first | omega | (rw [e42]; omega) | exact (hg.2 _ _ _).1 | exact (hg.1 _).1 | (simp only [Int.toNat_natCast, upF_2] at *; omega)) (by first | omega | (rw [e42]; omega) | exact (hg.2 _ _ _).2 | exact (hg.1 _).2 | (simp only [Int.toNat_natCast, upF_2] at *; omega)) (by first | omega | (rw [e42]; omega) | (simp only [Int.toNat_natCast, upF_2] at *; omega)) ?_
    refine w_iconst rfl ?_
    refine w_iconst rfl ?_
    refine w_cvV rfl (by decide) (by first | omega | (rw [e42]; omega) | (simp only [Int.toNat_natCast, upF_2] at *; omega)) rfl RH_obj mt_112 (Nat.le_of_ble_eq_true rfl) (Nat.le_of_ble_eq_true rfl) (r_fails0 hb (by assumption) _) ?_
    refine w_ifeq_t rfl (by first | omega | (rw [e42]; omega) | exact (hg.2 _ _ _).1 | exact (hg.1 _).1 | (simp only [Int.toNat_natCast, upF_2] at *; omega)) (by first | omega | (rw [e42]; omega) | exact (hg.2 _ _ _).2 | exact (hg.1 _).2 | (simp only [Int.toNat_natCast, upF_2] at *; omega)) (by first | omega | (rw [e42]; omega) | (simp only [Int.toNat_natCast, upF_2] at *; omega)) ?_
    refine w_aload_n rfl rfl ?_
    refine w_iload_n rfl rfl ?_
    refine w_iflt_f rfl (by first | omega | (rw [e42]; omega) | exact (hg.2 _ _ _).1 | exact (hg.1 _).1 | (simp only [Int.toNat_natCast, upF_2] at *; omega)) (by first | omega | (rw [e42]; omega) | exact (hg.2 _ _ _).2 | exact (hg.1 _).2 | (simp only [Int.toNat_natCast, upF_2] at *; omega)) (by first | omega | (rw [e42]; omega) | (simp only [Int.toNat_natCast, upF_2] at *; omega)) ?_
    refine w_iload_n rfl rfl ?_
    refine w_sipush rfl rfl ?_
    refine w_icge_f rfl (by first | omega | (rw [e42]; omega) | exact (hg.2 _ _ _).1 | exact (hg.1 _).1 | (simp only [Int.toNat_natCast, upF_2] at *; omega)) (by first | omega | (rw [e42]; omega) | exact (hg.2 _ _ _).2 | exact (hg.1 _).2 | (simp only [Int.toNat_natCast, upF_2] at *; omega)) (by first | omega | (rw [e42]; omega) | exact (hg.2 _ _ _).1 | exact (hg.1 _).1 | (simp only [Int.toNat_natCast, upF_2] at *; omega)) (by first | omega | (rw [e42]; omega) | exact (hg.2 _ _ _).2 | exact (hg.1 _).2 | (simp only [Int.toNat_natCast, upF_2] at *; omega)) (by first | omega | (rw [e42]; omega) | (simp only [Int.toNat_natCast, upF_2] at *; omega)) ?_
    refine w_iload_n rfl rfl ?_
    refine w_ifeq_f rfl (by first | omega | (rw [e42]; omega) | exact (hg.2 _ _ _).1 | exact (hg.1 _).1 | (simp only [Int.toNat_natCast, upF_2] at *; omega)) (by first | omega | (rw [e42]; omega) | exact (hg.2 _ _ _).2 | exact (hg.1 _).2 | (simp only [Int.toNat_natCast, upF_2] at *; omega)) (by first | omega | (rw [e42]; omega) | (simp only [Int.toNat_natCast, upF_2] at *; omega)) ?_
    refine w_aload_n rfl rfl ?_
    refine m_get rfl rfl ?_
    refine w_iload_n rfl rfl ?_
    refine m_iaload rfl hb rl_32 (by first | omega | (rw [e42]; omega) | (simp only [Int.toNat_natCast, upF_2] at *; omega)) (by first | omega | (rw [e42]; omega) | (simp only [Int.toNat_natCast, upF_2] at *; omega)) ?_
    refine w_goto rfl ?_
    refine w_iconst rfl ?_
    refine w_iceq_t rfl (by first | omega | (rw [e42]; omega) | exact (hg.2 _ _ _).1 | exact (hg.1 _).1 | (simp only [Int.toNat_natCast, upF_2] at *; omega)) (by first | omega | (rw [e42]; omega) | exact (hg.2 _ _ _).2 | exact (hg.1 _).2 | (simp only [Int.toNat_natCast, upF_2] at *; omega)) (by first | omega | (rw [e42]; omega) | exact (hg.2 _ _ _).1 | exact (hg.1 _).1 | (simp only [Int.toNat_natCast, upF_2] at *; omega)) (by first | omega | (rw [e42]; omega) | exact (hg.2 _ _ _).2 | exact (hg.1 _).2 | (simp only [Int.toNat_natCast, upF_2] at *; omega)) (by first | omega | (rw [e42]; omega) | (simp only [Int.toNat_natCast, upF_2] at *; omega)) ?_
    refine w_iconst rfl ?_
    refine w_iconst rfl ?_
    refine w_cvV rfl (by decide) (by first | omega | (rw [e42]; omega) | (simp only [Int.toNat_natCast, upF_2] at *; omega)) rfl RH_obj mt_112 (Nat.le_of_ble_eq_true rfl) (Nat.le_of_ble_eq_true rfl) (r_fails0 hb (by assumption) _) ?_
    rw [upF_upF]
    refine w_ifeq_t rfl (by first | omega | (rw [e42]; omega) | exact (hg.2 _ _ _).1 | exact (hg.1 _).1 | (simp only [Int.toNat_natCast, upF_2] at *; omega)) (by first | omega | (rw [e42]; omega) | exact (hg.2 _ _ _).2 | exact (hg.1 _).2 | (simp only [Int.toNat_natCast, upF_2] at *; omega)) (by first | omega | (rw [e42]; omega) | (simp only [Int.toNat_natCast, upF_2] at *; omega)) ?_
    refine w_aload_n rfl rfl ?_
    refine w_iload_n rfl rfl ?_
    refine w_iflt_t rfl (by first | omega | (rw [e42]; omega) | exact (hg.2 _ _ _).1 | exact (hg.1 _).1 | (simp only [Int.toNat_natCast, upF_2] at *; omega)) (by first | omega | (rw [e42]; omega) | exact (hg.2 _ _ _).2 | exact (hg.1 _).2 | (simp only [Int.toNat_natCast, upF_2] at *; omega)) (by first | omega | (rw [e42]; omega) | (simp only [Int.toNat_natCast, upF_2] at *; omega)) ?_
    refine w_iconst rfl ?_
    refine w_goto rfl ?_
    refine w_iconst rfl ?_
    refine w_cvV rfl (by decide) (by first | omega | (rw [e42]; omega) | (simp only [Int.toNat_natCast, upF_2] at *; omega)) rfl RH_obj mt_112 (Nat.le_of_ble_eq_true rfl) (Nat.le_of_ble_eq_true rfl) (r_fails1 hb (by assumption) _) ?_
    rw [upF_upF]
    refine w_ifeq_f rfl (by first | omega | (rw [e42]; omega) | exact (hg.2 _ _ _).1 | exact (hg.1 _).1 | (simp only [Int.toNat_natCast, upF_2] at *; omega)) (by first | omega | (rw [e42]; omega) | exact (hg.2 _ _ _).2 | exact (hg.1 _).2 | (simp only [Int.toNat_natCast, upF_2] at *; omega)) (by first | omega | (rw [e42]; omega) | (simp only [Int.toNat_natCast, upF_2] at *; omega)) ?_
    refine w_iconst rfl ?_
    refine w_ireturn rfl rfl ?_
    exact ⟨rfl, rfl⟩
  refine w_aload_n rfl rfl ?_
  refine w_iload_n rfl rfl ?_
  refine w_ifeq_f rfl (by first | omega | (rw [e42]; omega) | exact (hg.2 _ _ _).1 | exact (hg.1 _).1 | (simp only [Int.toNat_natCast, upF_2] at *; omega)) (by first | omega | (rw [e42]; omega) | exact (hg.2 _ _ _).2 | exact (hg.1 _).2 | (simp only [Int.toNat_natCast, upF_2] at *; omega)) (by first | omega | (rw [e42]; omega) | (simp only [Int.toNat_natCast, upF_2] at *; omega)) ?_
  refine w_aload_n rfl rfl ?_
  refine m_get rfl rfl ?_
  refine w_ifne_t rfl (by first | omega | (rw [e42]; omega) | exact (hg.2 _ _ _).1 | exact (hg.1 _).1 | (simp only [Int.toNat_natCast, upF_2] at *; omega)) (by first | omega | (rw [e42]; omega) | exact (hg.2 _ _ _).2 | exact (hg.1 _).2 | (simp only [Int.toNat_natCast, upF_2] at *; omega)) (by first | omega | (rw [e42]; omega) | (simp only [Int.toNat_natCast, upF_2] at *; omega)) ?_
  refine w_iconst rfl ?_
  refine w_iconst rfl ?_
  refine w_cvV rfl (by decide) (by first | omega | (rw [e42]; omega) | (simp only [Int.toNat_natCast, upF_2] at *; omega)) rfl RH_obj mt_112 (Nat.le_of_ble_eq_true rfl) (Nat.le_of_ble_eq_true rfl) (r_fails0 hb (by assumption) _) ?_
  refine w_ifeq_t rfl (by first | omega | (rw [e42]; omega) | exact (hg.2 _ _ _).1 | exact (hg.1 _).1 | (simp only [Int.toNat_natCast, upF_2] at *; omega)) (by first | omega | (rw [e42]; omega) | exact (hg.2 _ _ _).2 | exact (hg.1 _).2 | (simp only [Int.toNat_natCast, upF_2] at *; omega)) (by first | omega | (rw [e42]; omega) | (simp only [Int.toNat_natCast, upF_2] at *; omega)) ?_
  refine w_aload_n rfl rfl ?_
  refine w_iload_n rfl rfl ?_
  refine w_iflt_f rfl (by first | omega | (rw [e42]; omega) | exact (hg.2 _ _ _).1 | exact (hg.1 _).1 | (simp only [Int.toNat_natCast, upF_2] at *; omega)) (by first | omega | (rw [e42]; omega) | exact (hg.2 _ _ _).2 | exact (hg.1 _).2 | (simp only [Int.toNat_natCast, upF_2] at *; omega)) (by first | omega | (rw [e42]; omega) | (simp only [Int.toNat_natCast, upF_2] at *; omega)) ?_
  refine w_iload_n rfl rfl ?_
  refine w_sipush rfl rfl ?_
  refine w_icge_f rfl (by first | omega | (rw [e42]; omega) | exact (hg.2 _ _ _).1 | exact (hg.1 _).1 | (simp only [Int.toNat_natCast, upF_2] at *; omega)) (by first | omega | (rw [e42]; omega) | exact (hg.2 _ _ _).2 | exact (hg.1 _).2 | (simp only [Int.toNat_natCast, upF_2] at *; omega)) (by first | omega | (rw [e42]; omega) | exact (hg.2 _ _ _).1 | exact (hg.1 _).1 | (simp only [Int.toNat_natCast, upF_2] at *; omega)) (by first | omega | (rw [e42]; omega) | exact (hg.2 _ _ _).2 | exact (hg.1 _).2 | (simp only [Int.toNat_natCast, upF_2] at *; omega)) (by first | omega | (rw [e42]; omega) | (simp only [Int.toNat_natCast, upF_2] at *; omega)) ?_
  refine w_iload_n rfl rfl ?_
  refine w_ifeq_f rfl (by first | omega | (rw [e42]; omega) | exact (hg.2 _ _ _).1 | exact (hg.1 _).1 | (simp only [Int.toNat_natCast, upF_2] at *; omega)) (by first | omega | (rw [e42]; omega) | exact (hg.2 _ _ _).2 | exact (hg.1 _).2 | (simp only [Int.toNat_natCast, upF_2] at *; omega)) (by first | omega | (rw [e42]; omega) | (simp only [Int.toNat_natCast, upF_2] at *; omega)) ?_
  refine w_aload_n rfl rfl ?_
  refine m_get rfl rfl ?_
  refine w_iload_n rfl rfl ?_
  refine m_iaload rfl hb rl_32 (by first | omega | (rw [e42]; omega) | (simp only [Int.toNat_natCast, upF_2] at *; omega)) (by first | omega | (rw [e42]; omega) | (simp only [Int.toNat_natCast, upF_2] at *; omega)) ?_
  refine w_goto rfl ?_
  refine w_iconst rfl ?_
  refine w_iceq_t rfl (by first | omega | (rw [e42]; omega) | exact (hg.2 _ _ _).1 | exact (hg.1 _).1 | (simp only [Int.toNat_natCast, upF_2] at *; omega)) (by first | omega | (rw [e42]; omega) | exact (hg.2 _ _ _).2 | exact (hg.1 _).2 | (simp only [Int.toNat_natCast, upF_2] at *; omega)) (by first | omega | (rw [e42]; omega) | exact (hg.2 _ _ _).1 | exact (hg.1 _).1 | (simp only [Int.toNat_natCast, upF_2] at *; omega)) (by first | omega | (rw [e42]; omega) | exact (hg.2 _ _ _).2 | exact (hg.1 _).2 | (simp only [Int.toNat_natCast, upF_2] at *; omega)) (by first | omega | (rw [e42]; omega) | (simp only [Int.toNat_natCast, upF_2] at *; omega)) ?_
  refine w_iconst rfl ?_
  refine w_iconst rfl ?_
  refine w_cvV rfl (by decide) (by first | omega | (rw [e42]; omega) | (simp only [Int.toNat_natCast, upF_2] at *; omega)) rfl RH_obj mt_112 (Nat.le_of_ble_eq_true rfl) (Nat.le_of_ble_eq_true rfl) (r_fails0 hb (by assumption) _) ?_
  rw [upF_upF]
  refine w_ifeq_t rfl (by first | omega | (rw [e42]; omega) | exact (hg.2 _ _ _).1 | exact (hg.1 _).1 | (simp only [Int.toNat_natCast, upF_2] at *; omega)) (by first | omega | (rw [e42]; omega) | exact (hg.2 _ _ _).2 | exact (hg.1 _).2 | (simp only [Int.toNat_natCast, upF_2] at *; omega)) (by first | omega | (rw [e42]; omega) | (simp only [Int.toNat_natCast, upF_2] at *; omega)) ?_
  refine w_aload_n rfl rfl ?_
  refine w_iload_n rfl rfl ?_
  refine w_iflt_f rfl (by first | omega | (rw [e42]; omega) | exact (hg.2 _ _ _).1 | exact (hg.1 _).1 | (simp only [Int.toNat_natCast, upF_2] at *; omega)) (by first | omega | (rw [e42]; omega) | exact (hg.2 _ _ _).2 | exact (hg.1 _).2 | (simp only [Int.toNat_natCast, upF_2] at *; omega)) (by first | omega | (rw [e42]; omega) | (simp only [Int.toNat_natCast, upF_2] at *; omega)) ?_
  refine w_iload_n rfl rfl ?_
  refine w_iload_n rfl rfl ?_
  refine w_ifeq_f rfl (by first | omega | (rw [e42]; omega) | exact (hg.2 _ _ _).1 | exact (hg.1 _).1 | (simp only [Int.toNat_natCast, upF_2] at *; omega)) (by first | omega | (rw [e42]; omega) | exact (hg.2 _ _ _).2 | exact (hg.1 _).2 | (simp only [Int.toNat_natCast, upF_2] at *; omega)) (by first | omega | (rw [e42]; omega) | (simp only [Int.toNat_natCast, upF_2] at *; omega)) ?_
  refine w_aload_n rfl rfl ?_
  refine m_get rfl rfl ?_
  refine w_iload_n rfl rfl ?_
  refine m_iaload rfl hb rl_35 (by first | omega | (rw [e42]; omega) | (simp only [Int.toNat_natCast, upF_2] at *; omega)) (by first | omega | (rw [e42]; omega) | (simp only [Int.toNat_natCast, upF_2] at *; omega)) ?_
  refine w_goto rfl ?_
  refine w_iclt_f rfl (by first | omega | (rw [e42]; omega) | exact (hg.2 _ _ _).1 | exact (hg.1 _).1 | (simp only [Int.toNat_natCast, upF_2] at *; omega)) (by first | omega | (rw [e42]; omega) | exact (hg.2 _ _ _).2 | exact (hg.1 _).2 | (simp only [Int.toNat_natCast, upF_2] at *; omega)) (by first | omega | (rw [e42]; omega) | exact (hg.2 _ _ _).1 | exact (hg.1 _).1 | (simp only [Int.toNat_natCast, upF_2] at *; omega)) (by first | omega | (rw [e42]; omega) | exact (hg.2 _ _ _).2 | exact (hg.1 _).2 | (simp only [Int.toNat_natCast, upF_2] at *; omega)) (by first | omega | (rw [e42]; omega) | (simp only [Int.toNat_natCast, upF_2] at *; omega)) ?_
  refine w_iconst rfl ?_
  refine w_goto rfl ?_
  refine w_iconst rfl ?_
  refine w_cvV rfl (by decide) (by first | omega | (rw [e42]; omega) | (simp only [Int.toNat_natCast, upF_2] at *; omega)) rfl RH_obj mt_112 (Nat.le_of_ble_eq_true rfl) (Nat.le_of_ble_eq_true rfl) (r_fails1 hb (by assumption) _) ?_
  rw [upF_upF]
  refine w_ifeq_f rfl (by first | omega | (rw [e42]; omega) | exact (hg.2 _ _ _).1 | exact (hg.1 _).1 | (simp only [Int.toNat_natCast, upF_2] at *; omega)) (by first | omega | (rw [e42]; omega) | exact (hg.2 _ _ _).2 | exact (hg.1 _).2 | (simp only [Int.toNat_natCast, upF_2] at *; omega)) (by first | omega | (rw [e42]; omega) | (simp only [Int.toNat_natCast, upF_2] at *; omega)) ?_
  refine w_iconst rfl ?_
  refine w_ireturn rfl rfl ?_
  exact ⟨rfl, rfl⟩
theorem r_oct1 (hb : b < m0) (hg : Rg ρ) (d : Nat) (hd : 1 ≤ d) {n c : Nat} (z1 : ρ.1 42 = 1) (hn : n < 256) (hk : ρ.2 32 0 n = 1) (hc : c < ρ.2 35 0 n) (hc2 : c < 512) : Wp b L xs d mi_142 0 (ent (mL mi_142) [.ref m0, vI 1, vI n, vI c]) [] (RH m0 h ρ) (Rt (RH m0 h (upF ρ 0 0)) (vI (ρ.2 39 n c % 256))) := by
  have hg0 : Rg (upF ρ 0 0) := hg.upF 0 (by decide) (by decide)
  have e42 : (upF ρ 0 0).1 42 = ρ.1 42 := rfl
  refine w_aload_n rfl rfl ?_
  refine w_iload_n rfl rfl ?_
  refine w_ifeq_f rfl (by first | omega | (rw [e42]; omega) | exact (hg.2 _ _ _).1 | exact (hg.1 _).1 | (simp only [Int.toNat_natCast, upF_2] at *; omega)) (by first | omega | (rw [e42]; omega) | exact (hg.2 _ _ _).2 | exact (hg.1 _).2 | (simp only [Int.toNat_natCast, upF_2] at *; omega)) (by first | omega | (rw [e42]; omega) | (simp only [Int.toNat_natCast, upF_2] at *; omega)) ?_
  refine w_aload_n rfl rfl ?_
  refine m_get rfl rfl ?_
  refine w_ifne_t rfl (by first | omega | (rw [e42]; omega) | exact (hg.2 _ _ _).1 | exact (hg.1 _).1 | (simp only [Int.toNat_natCast, upF_2] at *; omega)) (by first | omega | (rw [e42]; omega) | exact (hg.2 _ _ _).2 | exact (hg.1 _).2 | (simp only [Int.toNat_natCast, upF_2] at *; omega)) (by first | omega | (rw [e42]; omega) | (simp only [Int.toNat_natCast, upF_2] at *; omega)) ?_
  refine w_iconst rfl ?_
  refine w_iconst rfl ?_
  refine w_cvV rfl (by decide) (by first | omega | (rw [e42]; omega) | (simp only [Int.toNat_natCast, upF_2] at *; omega)) rfl RH_obj mt_112 (Nat.le_of_ble_eq_true rfl) (Nat.le_of_ble_eq_true rfl) (r_fails0 hb (by assumption) _) ?_
  refine w_ifeq_t rfl (by first | omega | (rw [e42]; omega) | exact (hg.2 _ _ _).1 | exact (hg.1 _).1 | (simp only [Int.toNat_natCast, upF_2] at *; omega)) (by first | omega | (rw [e42]; omega) | exact (hg.2 _ _ _).2 | exact (hg.1 _).2 | (simp only [Int.toNat_natCast, upF_2] at *; omega)) (by first | omega | (rw [e42]; omega) | (simp only [Int.toNat_natCast, upF_2] at *; omega)) ?_
  refine w_aload_n rfl rfl ?_
  refine w_iload_n rfl rfl ?_
  refine w_iflt_f rfl (by first | omega | (rw [e42]; omega) | exact (hg.2 _ _ _).1 | exact (hg.1 _).1 | (simp only [Int.toNat_natCast, upF_2] at *; omega)) (by first | omega | (rw [e42]; omega) | exact (hg.2 _ _ _).2 | exact (hg.1 _).2 | (simp only [Int.toNat_natCast, upF_2] at *; omega)) (by first | omega | (rw [e42]; omega) | (simp only [Int.toNat_natCast, upF_2] at *; omega)) ?_
  refine w_iload_n rfl rfl ?_
  refine w_sipush rfl rfl ?_
  refine w_icge_f rfl (by first | omega | (rw [e42]; omega) | exact (hg.2 _ _ _).1 | exact (hg.1 _).1 | (simp only [Int.toNat_natCast, upF_2] at *; omega)) (by first | omega | (rw [e42]; omega) | exact (hg.2 _ _ _).2 | exact (hg.1 _).2 | (simp only [Int.toNat_natCast, upF_2] at *; omega)) (by first | omega | (rw [e42]; omega) | exact (hg.2 _ _ _).1 | exact (hg.1 _).1 | (simp only [Int.toNat_natCast, upF_2] at *; omega)) (by first | omega | (rw [e42]; omega) | exact (hg.2 _ _ _).2 | exact (hg.1 _).2 | (simp only [Int.toNat_natCast, upF_2] at *; omega)) (by first | omega | (rw [e42]; omega) | (simp only [Int.toNat_natCast, upF_2] at *; omega)) ?_
  refine w_iload_n rfl rfl ?_
  refine w_ifeq_f rfl (by first | omega | (rw [e42]; omega) | exact (hg.2 _ _ _).1 | exact (hg.1 _).1 | (simp only [Int.toNat_natCast, upF_2] at *; omega)) (by first | omega | (rw [e42]; omega) | exact (hg.2 _ _ _).2 | exact (hg.1 _).2 | (simp only [Int.toNat_natCast, upF_2] at *; omega)) (by first | omega | (rw [e42]; omega) | (simp only [Int.toNat_natCast, upF_2] at *; omega)) ?_
  refine w_aload_n rfl rfl ?_
  refine m_get rfl rfl ?_
  refine w_iload_n rfl rfl ?_
  refine m_iaload rfl hb rl_32 (by first | omega | (rw [e42]; omega) | (simp only [Int.toNat_natCast, upF_2] at *; omega)) (by first | omega | (rw [e42]; omega) | (simp only [Int.toNat_natCast, upF_2] at *; omega)) ?_
  refine w_goto rfl ?_
  refine w_iconst rfl ?_
  refine w_iceq_t rfl (by first | omega | (rw [e42]; omega) | exact (hg.2 _ _ _).1 | exact (hg.1 _).1 | (simp only [Int.toNat_natCast, upF_2] at *; omega)) (by first | omega | (rw [e42]; omega) | exact (hg.2 _ _ _).2 | exact (hg.1 _).2 | (simp only [Int.toNat_natCast, upF_2] at *; omega)) (by first | omega | (rw [e42]; omega) | exact (hg.2 _ _ _).1 | exact (hg.1 _).1 | (simp only [Int.toNat_natCast, upF_2] at *; omega)) (by first | omega | (rw [e42]; omega) | exact (hg.2 _ _ _).2 | exact (hg.1 _).2 | (simp only [Int.toNat_natCast, upF_2] at *; omega)) (by first | omega | (rw [e42]; omega) | (simp only [Int.toNat_natCast, upF_2] at *; omega)) ?_
  refine w_iconst rfl ?_
  refine w_iconst rfl ?_
  refine w_cvV rfl (by decide) (by first | omega | (rw [e42]; omega) | (simp only [Int.toNat_natCast, upF_2] at *; omega)) rfl RH_obj mt_112 (Nat.le_of_ble_eq_true rfl) (Nat.le_of_ble_eq_true rfl) (r_fails0 hb (by assumption) _) ?_
  rw [upF_upF]
  refine w_ifeq_t rfl (by first | omega | (rw [e42]; omega) | exact (hg.2 _ _ _).1 | exact (hg.1 _).1 | (simp only [Int.toNat_natCast, upF_2] at *; omega)) (by first | omega | (rw [e42]; omega) | exact (hg.2 _ _ _).2 | exact (hg.1 _).2 | (simp only [Int.toNat_natCast, upF_2] at *; omega)) (by first | omega | (rw [e42]; omega) | (simp only [Int.toNat_natCast, upF_2] at *; omega)) ?_
  refine w_aload_n rfl rfl ?_
  refine w_iload_n rfl rfl ?_
  refine w_iflt_f rfl (by first | omega | (rw [e42]; omega) | exact (hg.2 _ _ _).1 | exact (hg.1 _).1 | (simp only [Int.toNat_natCast, upF_2] at *; omega)) (by first | omega | (rw [e42]; omega) | exact (hg.2 _ _ _).2 | exact (hg.1 _).2 | (simp only [Int.toNat_natCast, upF_2] at *; omega)) (by first | omega | (rw [e42]; omega) | (simp only [Int.toNat_natCast, upF_2] at *; omega)) ?_
  refine w_iload_n rfl rfl ?_
  refine w_iload_n rfl rfl ?_
  refine w_ifeq_f rfl (by first | omega | (rw [e42]; omega) | exact (hg.2 _ _ _).1 | exact (hg.1 _).1 | (simp only [Int.toNat_natCast, upF_2] at *; omega)) (by first | omega | (rw [e42]; omega) | exact (hg.2 _ _ _).2 | exact (hg.1 _).2 | (simp only [Int.toNat_natCast, upF_2] at *; omega)) (by first | omega | (rw [e42]; omega) | (simp only [Int.toNat_natCast, upF_2] at *; omega)) ?_
  refine w_aload_n rfl rfl ?_
  refine m_get rfl rfl ?_
  refine w_iload_n rfl rfl ?_
  refine m_iaload rfl hb rl_35 (by first | omega | (rw [e42]; omega) | (simp only [Int.toNat_natCast, upF_2] at *; omega)) (by first | omega | (rw [e42]; omega) | (simp only [Int.toNat_natCast, upF_2] at *; omega)) ?_
  refine w_goto rfl ?_
  refine w_iclt_t rfl (by first | omega | (rw [e42]; omega) | exact (hg.2 _ _ _).1 | exact (hg.1 _).1 | (simp only [Int.toNat_natCast, upF_2] at *; omega)) (by first | omega | (rw [e42]; omega) | exact (hg.2 _ _ _).2 | exact (hg.1 _).2 | (simp only [Int.toNat_natCast, upF_2] at *; omega)) (by first | omega | (rw [e42]; omega) | exact (hg.2 _ _ _).1 | exact (hg.1 _).1 | (simp only [Int.toNat_natCast, upF_2] at *; omega)) (by first | omega | (rw [e42]; omega) | exact (hg.2 _ _ _).2 | exact (hg.1 _).2 | (simp only [Int.toNat_natCast, upF_2] at *; omega)) (by first | omega | (rw [e42]; omega) | (simp only [Int.toNat_natCast, upF_2] at *; omega)) ?_
  refine w_iconst rfl ?_
  refine w_iconst rfl ?_
  refine w_cvV rfl (by decide) (by first | omega | (rw [e42]; omega) | (simp only [Int.toNat_natCast, upF_2] at *; omega)) rfl RH_obj mt_112 (Nat.le_of_ble_eq_true rfl) (Nat.le_of_ble_eq_true rfl) (r_fails0 hb (by assumption) _) ?_
  rw [upF_upF]
  refine w_ifeq_t rfl (by first | omega | (rw [e42]; omega) | exact (hg.2 _ _ _).1 | exact (hg.1 _).1 | (simp only [Int.toNat_natCast, upF_2] at *; omega)) (by first | omega | (rw [e42]; omega) | exact (hg.2 _ _ _).2 | exact (hg.1 _).2 | (simp only [Int.toNat_natCast, upF_2] at *; omega)) (by first | omega | (rw [e42]; omega) | (simp only [Int.toNat_natCast, upF_2] at *; omega)) ?_
  refine w_iload_n rfl rfl ?_
  refine w_ifeq_f rfl (by first | omega | (rw [e42]; omega) | exact (hg.2 _ _ _).1 | exact (hg.1 _).1 | (simp only [Int.toNat_natCast, upF_2] at *; omega)) (by first | omega | (rw [e42]; omega) | exact (hg.2 _ _ _).2 | exact (hg.1 _).2 | (simp only [Int.toNat_natCast, upF_2] at *; omega)) (by first | omega | (rw [e42]; omega) | (simp only [Int.toNat_natCast, upF_2] at *; omega)) ?_
  refine w_aload_n rfl rfl ?_
  refine m_get rfl rfl ?_
  refine w_goto rfl ?_
  refine w_iload_n rfl rfl ?_
  refine m_aaload rfl rfl (by first | omega | (rw [e42]; omega) | (simp only [Int.toNat_natCast, upF_2] at *; omega)) (by first | omega | (rw [e42]; omega) | (simp only [Int.toNat_natCast, upF_2] at *; omega)) ?_
  refine w_iload_n rfl rfl ?_
  refine m_baload rfl (rlay_r39 (by first | omega | (rw [e42]; omega) | (simp only [Int.toNat_natCast, upF_2] at *; omega))) (by first | omega | (rw [e42]; omega) | (simp only [Int.toNat_natCast, upF_2] at *; omega)) (by first | omega | (rw [e42]; omega) | (simp only [Int.toNat_natCast, upF_2] at *; omega)) ?_
  refine w_sipush rfl rfl ?_
  refine w_and255 rfl ?_
  refine w_ireturn rfl rfl ?_
  exact ⟨rfl, by rw [sb_mod]; rfl⟩
theorem r_find0 (hb : b < m0) (hg : Rg ρ) (d : Nat) (hd : 1 ≤ d) {n : Nat} {c : Int} (c1 : -2147483648 ≤ c) (c2 : c ≤ 2147483647) (hn : n < 256) (hk : ρ.2 1 0 n = 2) : Wp b L xs d mi_143 0 (ent (mL mi_143) [.ref m0, vI 0, vI n, vI c]) [] (RH m0 h ρ) (Rt (RH m0 h (upF ρ 0 0)) (vI (rNamed ρ n c))) := by
  have hg0 : Rg (upF ρ 0 0) := hg.upF 0 (by decide) (by decide)
  have e42 : (upF ρ 0 0).1 42 = ρ.1 42 := rfl
  refine w_aload_n rfl rfl ?_
  refine w_iload_n rfl rfl ?_
  refine w_ifeq_t rfl (by first | omega | (rw [e42]; omega) | exact (hg.2 _ _ _).1 | exact (hg.1 _).1 | (simp only [Int.toNat_natCast, upF_2] at *; omega)) (by first | omega | (rw [e42]; omega) | exact (hg.2 _ _ _).2 | exact (hg.1 _).2 | (simp only [Int.toNat_natCast, upF_2] at *; omega)) (by first | omega | (rw [e42]; omega) | (simp only [Int.toNat_natCast, upF_2] at *; omega)) ?_
  refine w_iconst rfl ?_
  refine w_iconst rfl ?_
  refine w_cvV rfl (by decide) (by first | omega | (rw [e42]; omega) | (simp only [Int.toNat_natCast, upF_2] at *; omega)) rfl RH_obj mt_112 (Nat.le_of_ble_eq_true rfl) (Nat.le_of_ble_eq_true rfl) (r_fails0 hb (by assumption) _) ?_
  refine w_ifeq_t rfl (by first | omega | (rw [e42]; omega) | exact (hg.2 _ _ _).1 | exact (hg.1 _).1 | (simp only [Int.toNat_natCast, upF_2] at *; omega)) (by first | omega | (rw [e42]; omega) | exact (hg.2 _ _ _).2 | exact (hg.1 _).2 | (simp only [Int.toNat_natCast, upF_2] at *; omega)) (by first | omega | (rw [e42]; omega) | (simp only [Int.toNat_natCast, upF_2] at *; omega)) ?_
  refine w_aload_n rfl rfl ?_
  refine w_iload_n rfl rfl ?_
  refine w_iflt_f rfl (by first | omega | (rw [e42]; omega) | exact (hg.2 _ _ _).1 | exact (hg.1 _).1 | (simp only [Int.toNat_natCast, upF_2] at *; omega)) (by first | omega | (rw [e42]; omega) | exact (hg.2 _ _ _).2 | exact (hg.1 _).2 | (simp only [Int.toNat_natCast, upF_2] at *; omega)) (by first | omega | (rw [e42]; omega) | (simp only [Int.toNat_natCast, upF_2] at *; omega)) ?_
  refine w_iload_n rfl rfl ?_
  refine w_sipush rfl rfl ?_
  refine w_icge_f rfl (by first | omega | (rw [e42]; omega) | exact (hg.2 _ _ _).1 | exact (hg.1 _).1 | (simp only [Int.toNat_natCast, upF_2] at *; omega)) (by first | omega | (rw [e42]; omega) | exact (hg.2 _ _ _).2 | exact (hg.1 _).2 | (simp only [Int.toNat_natCast, upF_2] at *; omega)) (by first | omega | (rw [e42]; omega) | exact (hg.2 _ _ _).1 | exact (hg.1 _).1 | (simp only [Int.toNat_natCast, upF_2] at *; omega)) (by first | omega | (rw [e42]; omega) | exact (hg.2 _ _ _).2 | exact (hg.1 _).2 | (simp only [Int.toNat_natCast, upF_2] at *; omega)) (by first | omega | (rw [e42]; omega) | (simp only [Int.toNat_natCast, upF_2] at *; omega)) ?_
  refine w_iload_n rfl rfl ?_
  refine w_ifeq_t rfl (by first | omega | (rw [e42]; omega) | exact (hg.2 _ _ _).1 | exact (hg.1 _).1 | (simp only [Int.toNat_natCast, upF_2] at *; omega)) (by first | omega | (rw [e42]; omega) | exact (hg.2 _ _ _).2 | exact (hg.1 _).2 | (simp only [Int.toNat_natCast, upF_2] at *; omega)) (by first | omega | (rw [e42]; omega) | (simp only [Int.toNat_natCast, upF_2] at *; omega)) ?_
  refine w_aload_n rfl rfl ?_
  refine m_get rfl rfl ?_
  refine w_iload_n rfl rfl ?_
  refine m_iaload rfl hb rl_1 (by first | omega | (rw [e42]; omega) | (simp only [Int.toNat_natCast, upF_2] at *; omega)) (by first | omega | (rw [e42]; omega) | (simp only [Int.toNat_natCast, upF_2] at *; omega)) ?_
  refine w_iconst rfl ?_
  refine w_iceq_t rfl (by first | omega | (rw [e42]; omega) | exact (hg.2 _ _ _).1 | exact (hg.1 _).1 | (simp only [Int.toNat_natCast, upF_2] at *; omega)) (by first | omega | (rw [e42]; omega) | exact (hg.2 _ _ _).2 | exact (hg.1 _).2 | (simp only [Int.toNat_natCast, upF_2] at *; omega)) (by first | omega | (rw [e42]; omega) | exact (hg.2 _ _ _).1 | exact (hg.1 _).1 | (simp only [Int.toNat_natCast, upF_2] at *; omega)) (by first | omega | (rw [e42]; omega) | exact (hg.2 _ _ _).2 | exact (hg.1 _).2 | (simp only [Int.toNat_natCast, upF_2] at *; omega)) (by first | omega | (rw [e42]; omega) | (simp only [Int.toNat_natCast, upF_2] at *; omega)) ?_
  refine w_iconst rfl ?_
  refine w_iconst rfl ?_
  refine w_cvV rfl (by decide) (by first | omega | (rw [e42]; omega) | (simp only [Int.toNat_natCast, upF_2] at *; omega)) rfl RH_obj mt_112 (Nat.le_of_ble_eq_true rfl) (Nat.le_of_ble_eq_true rfl) (r_fails0 hb (by assumption) _) ?_
  rw [upF_upF]
  refine w_ifeq_t rfl (by first | omega | (rw [e42]; omega) | exact (hg.2 _ _ _).1 | exact (hg.1 _).1 | (simp only [Int.toNat_natCast, upF_2] at *; omega)) (by first | omega | (rw [e42]; omega) | exact (hg.2 _ _ _).2 | exact (hg.1 _).2 | (simp only [Int.toNat_natCast, upF_2] at *; omega)) (by first | omega | (rw [e42]; omega) | (simp only [Int.toNat_natCast, upF_2] at *; omega)) ?_
  refine w_iload_n rfl rfl ?_
  refine w_ifne_f rfl (by first | omega | (rw [e42]; omega) | exact (hg.2 _ _ _).1 | exact (hg.1 _).1 | (simp only [Int.toNat_natCast, upF_2] at *; omega)) (by first | omega | (rw [e42]; omega) | exact (hg.2 _ _ _).2 | exact (hg.1 _).2 | (simp only [Int.toNat_natCast, upF_2] at *; omega)) (by first | omega | (rw [e42]; omega) | (simp only [Int.toNat_natCast, upF_2] at *; omega)) ?_
  refine w_aload_n rfl rfl ?_
  refine w_iload_n rfl rfl ?_
  refine w_iload_n rfl rfl ?_
  refine w_cvV rfl (by decide) (by first | omega | (rw [e42]; omega) | (simp only [Int.toNat_natCast, upF_2] at *; omega)) rfl RH_obj mt_116 (Nat.le_of_ble_eq_true rfl) (Nat.le_of_ble_eq_true rfl) (r_named hb (by assumption) _ (by first | omega | exact (hg.2 _ _ _).1 | exact (hg.1 _).1 | (simp only [Int.toNat_natCast, upF_2] at *; omega)) (by first | omega | exact (hg.2 _ _ _).2 | exact (hg.1 _).2 | (simp only [Int.toNat_natCast, upF_2] at *; omega)) (by first | omega | exact (hg.2 _ _ _).1 | exact (hg.1 _).1 | (simp only [Int.toNat_natCast, upF_2] at *; omega)) (by first | omega | exact (hg.2 _ _ _).2 | exact (hg.1 _).2 | (simp only [Int.toNat_natCast, upF_2] at *; omega))) ?_
  refine w_ireturn rfl rfl ?_
  exact ⟨rfl, rfl⟩
theorem r_find_l (hb : b < m0) (hg : Rg ρ) (d : Nat) {n : Nat} {c : Int} (c1 : -2147483648 ≤ c) (c2 : c ≤ 2147483647) (hn : n < 256) : ∀ m k : Nat, ((k + m : Nat) : Int) = ρ.2 37 0 n → k + m ≤ 256 → Wp b L xs d mi_143 89 [some (.ref m0), some (vI 1), some (vI n), some (vI c), some (vI k)] [] (RH m0 h ρ) (Rt (RH m0 h ρ) (vI (fnd2 (fun k => ρ.2 40 n k = c) (fun k => ρ.2 41 n k) k m))) := by
  intro m
  induction m with
  | zero =>
    intro k hk hk2
    refine w_iload rfl rfl ?_
    refine w_aload_n rfl rfl ?_
    refine m_get rfl rfl ?_
    refine w_iload_n rfl rfl ?_
    refine m_iaload rfl hb rl_37 (by first | omega | (simp only [Int.toNat_natCast, upF_2] at *; omega)) (by first | omega | (simp only [Int.toNat_natCast, upF_2] at *; omega)) ?_
    refine w_icge_t rfl (by first | omega | exact (hg.2 _ _ _).1 | exact (hg.1 _).1 | (simp only [Int.toNat_natCast, upF_2] at *; omega)) (by first | omega | exact (hg.2 _ _ _).2 | exact (hg.1 _).2 | (simp only [Int.toNat_natCast, upF_2] at *; omega)) (by first | omega | exact (hg.2 _ _ _).1 | exact (hg.1 _).1 | (simp only [Int.toNat_natCast, upF_2] at *; omega)) (by first | omega | exact (hg.2 _ _ _).2 | exact (hg.1 _).2 | (simp only [Int.toNat_natCast, upF_2] at *; omega)) (by first | omega | (simp only [Int.toNat_natCast, upF_2] at *; omega)) ?_
    refine w_iconst rfl ?_
    refine w_ireturn rfl rfl ?_
    exact ⟨rfl, rfl⟩
  | succ m ih =>
    intro k hk hk2
    refine w_iload rfl rfl ?_
    refine w_aload_n rfl rfl ?_
    refine m_get rfl rfl ?_
    refine w_iload_n rfl rfl ?_
    refine m_iaload rfl hb rl_37 (by first | omega | (simp only [Int.toNat_natCast, upF_2] at *; omega)) (by first | omega | (simp only [Int.toNat_natCast, upF_2] at *; omega)) ?_
    refine w_icge_f rfl (by first | omega | exact (hg.2 _ _ _).1 | exact (hg.1 _).1 | (simp only [Int.toNat_natCast, upF_2] at *; omega)) (by first | omega | exact (hg.2 _ _ _).2 | exact (hg.1 _).2 | (simp only [Int.toNat_natCast, upF_2] at *; omega)) (by first | omega | exact (hg.2 _ _ _).1 | exact (hg.1 _).1 | (simp only [Int.toNat_natCast, upF_2] at *; omega)) (by first | omega | exact (hg.2 _ _ _).2 | exact (hg.1 _).2 | (simp only [Int.toNat_natCast, upF_2] at *; omega)) (by first | omega | (simp only [Int.toNat_natCast, upF_2] at *; omega)) ?_
    refine w_aload_n rfl rfl ?_
    refine m_get rfl rfl ?_
    refine w_iload_n rfl rfl ?_
    refine m_aaload rfl rfl (by first | omega | (simp only [Int.toNat_natCast, upF_2] at *; omega)) (by first | omega | (simp only [Int.toNat_natCast, upF_2] at *; omega)) ?_
    refine w_iload rfl rfl ?_
    refine m_iaload rfl hb (rlay_r40 (by first | omega | (simp only [Int.toNat_natCast, upF_2] at *; omega))) (by first | omega | (simp only [Int.toNat_natCast, upF_2] at *; omega)) (by first | omega | (simp only [Int.toNat_natCast, upF_2] at *; omega)) ?_
    refine w_iload_n rfl rfl ?_
    refine w_icne rfl (by first | omega | exact (hg.2 _ _ _).1 | exact (hg.1 _).1 | (simp only [Int.toNat_natCast, upF_2] at *; omega)) (by first | omega | exact (hg.2 _ _ _).2 | exact (hg.1 _).2 | (simp only [Int.toNat_natCast, upF_2] at *; omega)) (by first | omega | exact (hg.2 _ _ _).1 | exact (hg.1 _).1 | (simp only [Int.toNat_natCast, upF_2] at *; omega)) (by first | omega | exact (hg.2 _ _ _).2 | exact (hg.1 _).2 | (simp only [Int.toNat_natCast, upF_2] at *; omega)) (fun c3 => ?_) (fun c3 => ?_)
    · refine w_iinc rfl rfl (by decide) ?_
      refine w_goto rfl ?_
      rw [fnd2, if_neg (by (try simp only [Int.toNat_natCast, upF_2] at *); omega)]
      exact ih (k + 1) (by omega) (by omega)
    · refine w_aload_n rfl rfl ?_
      refine m_get rfl rfl ?_
      refine w_iload_n rfl rfl ?_
      refine m_aaload rfl rfl (by first | omega | (simp only [Int.toNat_natCast, upF_2] at *; omega)) (by first | omega | (simp only [Int.toNat_natCast, upF_2] at *; omega)) ?_
      refine w_iload rfl rfl ?_
      refine m_iaload rfl hb (rlay_r41 (by first | omega | (simp only [Int.toNat_natCast, upF_2] at *; omega))) (by first | omega | (simp only [Int.toNat_natCast, upF_2] at *; omega)) (by first | omega | (simp only [Int.toNat_natCast, upF_2] at *; omega)) ?_
      refine w_ireturn rfl rfl ?_
      exact ⟨rfl, by rw [fnd2, if_pos (by (try simp only [Int.toNat_natCast, upF_2] at *); omega)]; rfl⟩
theorem r_find1 (hb : b < m0) (hg : Rg ρ) (d : Nat) (hd : 1 ≤ d) {n e : Nat} {c : Int} (c1 : -2147483648 ≤ c) (c2 : c ≤ 2147483647) (z1 : ρ.1 42 = 1) (hn : n < 256) (hk : ρ.2 32 0 n = 2) (he : (e : Int) = ρ.2 37 0 n) (he2 : e ≤ 256) : Wp b L xs d mi_143 0 (ent (mL mi_143) [.ref m0, vI 1, vI n, vI c]) [] (RH m0 h ρ) (Rt (RH m0 h (upF ρ 0 0)) (vI (fnd2 (fun k => ρ.2 40 n k = c) (fun k => ρ.2 41 n k) 0 e))) := by
  have hg0 : Rg (upF ρ 0 0) := hg.upF 0 (by decide) (by decide)
  have e42 : (upF ρ 0 0).1 42 = ρ.1 42 := rfl
  refine w_aload_n rfl rfl ?_
  refine w_iload_n rfl rfl ?_
  refine w_ifeq_f rfl (by first | omega | (rw [e42]; omega) | exact (hg.2 _ _ _).1 | exact (hg.1 _).1 | (simp only [Int.toNat_natCast, upF_2] at *; omega)) (by first | omega | (rw [e42]; omega) | exact (hg.2 _ _ _).2 | exact (hg.1 _).2 | (simp only [Int.toNat_natCast, upF_2] at *; omega)) (by first | omega | (rw [e42]; omega) | (simp only [Int.toNat_natCast, upF_2] at *; omega)) ?_
  refine w_aload_n rfl rfl ?_
  refine m_get rfl rfl ?_
  refine w_ifne_t rfl (by first | omega | (rw [e42]; omega) | exact (hg.2 _ _ _).1 | exact (hg.1 _).1 | (simp only [Int.toNat_natCast, upF_2] at *; omega)) (by first | omega | (rw [e42]; omega) | exact (hg.2 _ _ _).2 | exact (hg.1 _).2 | (simp only [Int.toNat_natCast, upF_2] at *; omega)) (by first | omega | (rw [e42]; omega) | (simp only [Int.toNat_natCast, upF_2] at *; omega)) ?_
  refine w_iconst rfl ?_
  refine w_iconst rfl ?_
  refine w_cvV rfl (by decide) (by first | omega | (rw [e42]; omega) | (simp only [Int.toNat_natCast, upF_2] at *; omega)) rfl RH_obj mt_112 (Nat.le_of_ble_eq_true rfl) (Nat.le_of_ble_eq_true rfl) (r_fails0 hb (by assumption) _) ?_
  refine w_ifeq_t rfl (by first | omega | (rw [e42]; omega) | exact (hg.2 _ _ _).1 | exact (hg.1 _).1 | (simp only [Int.toNat_natCast, upF_2] at *; omega)) (by first | omega | (rw [e42]; omega) | exact (hg.2 _ _ _).2 | exact (hg.1 _).2 | (simp only [Int.toNat_natCast, upF_2] at *; omega)) (by first | omega | (rw [e42]; omega) | (simp only [Int.toNat_natCast, upF_2] at *; omega)) ?_
  refine w_aload_n rfl rfl ?_
  refine w_iload_n rfl rfl ?_
  refine w_iflt_f rfl (by first | omega | (rw [e42]; omega) | exact (hg.2 _ _ _).1 | exact (hg.1 _).1 | (simp only [Int.toNat_natCast, upF_2] at *; omega)) (by first | omega | (rw [e42]; omega) | exact (hg.2 _ _ _).2 | exact (hg.1 _).2 | (simp only [Int.toNat_natCast, upF_2] at *; omega)) (by first | omega | (rw [e42]; omega) | (simp only [Int.toNat_natCast, upF_2] at *; omega)) ?_
  refine w_iload_n rfl rfl ?_
  refine w_sipush rfl rfl ?_
  refine w_icge_f rfl (by first | omega | (rw [e42]; omega) | exact (hg.2 _ _ _).1 | exact (hg.1 _).1 | (simp only [Int.toNat_natCast, upF_2] at *; omega)) (by first | omega | (rw [e42]; omega) | exact (hg.2 _ _ _).2 | exact (hg.1 _).2 | (simp only [Int.toNat_natCast, upF_2] at *; omega)) (by first | omega | (rw [e42]; omega) | exact (hg.2 _ _ _).1 | exact (hg.1 _).1 | (simp only [Int.toNat_natCast, upF_2] at *; omega)) (by first | omega | (rw [e42]; omega) | exact (hg.2 _ _ _).2 | exact (hg.1 _).2 | (simp only [Int.toNat_natCast, upF_2] at *; omega)) (by first | omega | (rw [e42]; omega) | (simp only [Int.toNat_natCast, upF_2] at *; omega)) ?_
  refine w_iload_n rfl rfl ?_
  refine w_ifeq_f rfl (by first | omega | (rw [e42]; omega) | exact (hg.2 _ _ _).1 | exact (hg.1 _).1 | (simp only [Int.toNat_natCast, upF_2] at *; omega)) (by first | omega | (rw [e42]; omega) | exact (hg.2 _ _ _).2 | exact (hg.1 _).2 | (simp only [Int.toNat_natCast, upF_2] at *; omega)) (by first | omega | (rw [e42]; omega) | (simp only [Int.toNat_natCast, upF_2] at *; omega)) ?_
  refine w_aload_n rfl rfl ?_
  refine m_get rfl rfl ?_
  refine w_iload_n rfl rfl ?_
  refine m_iaload rfl hb rl_32 (by first | omega | (rw [e42]; omega) | (simp only [Int.toNat_natCast, upF_2] at *; omega)) (by first | omega | (rw [e42]; omega) | (simp only [Int.toNat_natCast, upF_2] at *; omega)) ?_
  refine w_goto rfl ?_
  refine w_iconst rfl ?_
  refine w_iceq_t rfl (by first | omega | (rw [e42]; omega) | exact (hg.2 _ _ _).1 | exact (hg.1 _).1 | (simp only [Int.toNat_natCast, upF_2] at *; omega)) (by first | omega | (rw [e42]; omega) | exact (hg.2 _ _ _).2 | exact (hg.1 _).2 | (simp only [Int.toNat_natCast, upF_2] at *; omega)) (by first | omega | (rw [e42]; omega) | exact (hg.2 _ _ _).1 | exact (hg.1 _).1 | (simp only [Int.toNat_natCast, upF_2] at *; omega)) (by first | omega | (rw [e42]; omega) | exact (hg.2 _ _ _).2 | exact (hg.1 _).2 | (simp only [Int.toNat_natCast, upF_2] at *; omega)) (by first | omega | (rw [e42]; omega) | (simp only [Int.toNat_natCast, upF_2] at *; omega)) ?_
  refine w_iconst rfl ?_
  refine w_iconst rfl ?_
  refine w_cvV rfl (by decide) (by first | omega | (rw [e42]; omega) | (simp only [Int.toNat_natCast, upF_2] at *; omega)) rfl RH_obj mt_112 (Nat.le_of_ble_eq_true rfl) (Nat.le_of_ble_eq_true rfl) (r_fails0 hb (by assumption) _) ?_
  rw [upF_upF]
  refine w_ifeq_t rfl (by first | omega | (rw [e42]; omega) | exact (hg.2 _ _ _).1 | exact (hg.1 _).1 | (simp only [Int.toNat_natCast, upF_2] at *; omega)) (by first | omega | (rw [e42]; omega) | exact (hg.2 _ _ _).2 | exact (hg.1 _).2 | (simp only [Int.toNat_natCast, upF_2] at *; omega)) (by first | omega | (rw [e42]; omega) | (simp only [Int.toNat_natCast, upF_2] at *; omega)) ?_
  refine w_iload_n rfl rfl ?_
  refine w_ifne_t rfl (by first | omega | (rw [e42]; omega) | exact (hg.2 _ _ _).1 | exact (hg.1 _).1 | (simp only [Int.toNat_natCast, upF_2] at *; omega)) (by first | omega | (rw [e42]; omega) | exact (hg.2 _ _ _).2 | exact (hg.1 _).2 | (simp only [Int.toNat_natCast, upF_2] at *; omega)) (by first | omega | (rw [e42]; omega) | (simp only [Int.toNat_natCast, upF_2] at *; omega)) ?_
  refine w_iconst rfl ?_
  refine w_istore rfl (by decide) ?_
  exact r_find_l (ρ := upF ρ 0 0) hb hg0 d c1 c2 hn e 0 (by rw [Nat.zero_add]; exact he) (by omega)
end Rr5
