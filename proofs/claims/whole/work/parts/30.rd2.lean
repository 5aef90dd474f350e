/-! the reference's readers and its calls on the tree -/
theorem upF_upF (ρ : RS) (k : Nat) (x y : Int) : upF (upF ρ k x) k y = upF ρ k y := by
  unfold upF
  dsimp only
  congr 1
  funext i
  split <;> rfl
theorem Rg.upF {ρ : RS} (hg : Rg ρ) (k : Nat) {x : Int} (h1 : -2147483648 ≤ x) (h2 : x ≤ 2147483647) : Rg (upF ρ k x) := by
  refine ⟨fun i => ?_, hg.2⟩
  show -2147483648 ≤ (if i = k then x else ρ.1 i) ∧ (if i = k then x else ρ.1 i) ≤ 2147483647
  split
  · exact ⟨h1, h2⟩
  · exact hg.1 i
theorem Rg.upA {ρ : RS} (hg : Rg ρ) (j r i : Nat) {x : Int} (h1 : -2147483648 ≤ x) (h2 : x ≤ 2147483647) : Rg (upA ρ j r i x) := by
  refine ⟨hg.1, fun j' r' i' => ?_⟩
  show -2147483648 ≤ (if j' = j ∧ r' = r ∧ i' = i then x else ρ.2 j' r' i') ∧ (if j' = j ∧ r' = r ∧ i' = i then x else ρ.2 j' r' i') ≤ 2147483647
  split
  · exact ⟨h1, h2⟩
  · exact hg.2 j' r' i'
/-- a variable's first n places cleared -/
def rz (ρ : RS) (j n : Nat) : RS := (ρ.1, fun j' r i => if j' = j ∧ r = 0 ∧ i < n then 0 else ρ.2 j' r i)
theorem rz_zero (ρ : RS) (j : Nat) : rz ρ j 0 = ρ := by
  unfold rz
  apply Prod.ext
  · rfl
  · funext j' r i
    show (if _ then _ else _) = _
    rw [if_neg (fun z => absurd z.2.2 (Nat.not_lt_zero _))]
theorem rz_succ (ρ : RS) (j k : Nat) : upA (rz ρ j k) j 0 k 0 = rz ρ j (k + 1) := by
  unfold rz upA
  dsimp only
  congr 1
  funext j' r i
  by_cases h1 : j' = j ∧ r = 0 ∧ i = k
  · rw [if_pos h1, if_pos ⟨h1.1, h1.2.1, by omega⟩]
  · rw [if_neg h1]
    by_cases h2 : j' = j ∧ r = 0 ∧ i < k
    · rw [if_pos h2, if_pos ⟨h2.1, h2.2.1, by omega⟩]
    · rw [if_neg h2, if_neg (fun z => ?_)]
      by_cases h3 : i = k
      · exact h1 ⟨z.1, z.2.1, h3⟩
      · exact h2 ⟨z.1, z.2.1, by omega⟩
theorem rz_succ2 (ρ : RS) (j l k : Nat) (h : j ≠ l) : upA (upA (rz (rz ρ j k) l k) j 0 k 0) l 0 k 0 = rz (rz ρ j (k + 1)) l (k + 1) := by
  rw [← rz_succ (rz ρ j (k + 1)), ← rz_succ ρ j k]
  congr 1
  unfold rz upA
  dsimp only
  congr 1
  funext j' r i
  by_cases h1 : j' = j ∧ r = 0 ∧ i = k
  · rw [if_pos h1, if_pos h1, if_neg (fun z => h (h1.1.symm.trans z.1))]
  · rw [if_neg h1, if_neg h1]
/-- up p's parents -/
def upN (ρ : RS) : Nat → Int → Int
  | 0, p => p
  | t + 1, p => upN ρ t (ρ.2 2 0 p.toNat)
/-- eight octets into a row of the data -/
def wr8 (ρ : RS) (n at_ : Nat) (v : Int64) (k : Nat) : RS := (ρ.1, fun j r i => if j = 6 ∧ r = n ∧ at_ ≤ i ∧ i < at_ + k then lo8 v (i - at_) else ρ.2 j r i)
theorem wr8_zero (ρ : RS) (n at_ : Nat) (v : Int64) : wr8 ρ n at_ v 0 = ρ := by
  unfold wr8
  apply Prod.ext
  · rfl
  · funext j' r i
    show (if _ then _ else _) = _
    rw [if_neg (by omega)]
theorem wr8_succ (ρ : RS) (n at_ : Nat) (v : Int64) (k : Nat) : upA (wr8 ρ n at_ v k) 6 n (at_ + k) (lo8 v k) = wr8 ρ n at_ v (k + 1) := by
  unfold wr8 upA
  dsimp only
  congr 1
  funext j r i
  by_cases h1 : j = 6 ∧ r = n ∧ i = at_ + k
  · rw [if_pos h1, if_pos ⟨h1.1, h1.2.1, by omega, by omega⟩, h1.2.2, Nat.add_sub_cancel_left]
  · rw [if_neg h1]
    by_cases h2 : j = 6 ∧ r = n ∧ at_ ≤ i ∧ i < at_ + k
    · rw [if_pos h2, if_pos ⟨h2.1, h2.2.1, by omega, by omega⟩]
    · rw [if_neg h2, if_neg (fun z => ?_)]
      by_cases h3 : i = at_ + k
      · exact h1 ⟨z.1, z.2.1, h3⟩
      · exact h2 ⟨z.1, z.2.1, by omega, by omega⟩
section Rr2
variable {b L : Nat} {xs : Nat → Int32} {m0 : Nat} {h : AH} {ρ : RS}
theorem r_fails0 (hb : b < m0) (hg : Rg ρ) (d : Nat) {w : Int} : Wp b L xs d mi_112 0 (ent (mL mi_112) [.ref m0, vI 0, vI w]) [] (RH m0 h ρ) (Rt (RH m0 h (upF ρ 0 0)) (vI 0)) := by
  refine w_aload_n rfl rfl ?_
  refine w_iload_n rfl rfl ?_
  refine w_ifeq_t rfl (by first | omega | exact (hg.2 _ _ _).1 | exact (hg.1 _).1 | (simp only [Int.toNat_natCast, upF_2] at *; omega)) (by first | omega | exact (hg.2 _ _ _).2 | exact (hg.1 _).2 | (simp only [Int.toNat_natCast, upF_2] at *; omega)) (by first | omega | (simp only [Int.toNat_natCast, upF_2] at *; omega)) ?_
  refine w_iconst rfl ?_
  refine m_put rfl rfl rfl rfl ?_
  refine w_iload_n rfl rfl ?_
  refine w_zreturn rfl rfl (by first | omega | (simp only [Int.toNat_natCast, upF_2] at *; omega)) ?_
  exact ⟨rfl, rfl⟩
theorem r_fails1 (hb : b < m0) (hg : Rg ρ) (d : Nat) {w : Int} : Wp b L xs d mi_112 0 (ent (mL mi_112) [.ref m0, vI 1, vI w]) [] (RH m0 h ρ) (Rt (RH m0 h (upF ρ 0 w)) (vI 1)) := by
  refine w_aload_n rfl rfl ?_
  refine w_iload_n rfl rfl ?_
  refine w_ifeq_f rfl (by first | omega | exact (hg.2 _ _ _).1 | exact (hg.1 _).1 | (simp only [Int.toNat_natCast, upF_2] at *; omega)) (by first | omega | exact (hg.2 _ _ _).2 | exact (hg.1 _).2 | (simp only [Int.toNat_natCast, upF_2] at *; omega)) (by first | omega | (simp only [Int.toNat_natCast, upF_2] at *; omega)) ?_
  refine w_iload_n rfl rfl ?_
  refine w_goto rfl ?_
  refine m_put rfl rfl rfl rfl ?_
  refine w_iload_n rfl rfl ?_
  refine w_zreturn rfl rfl (by first | omega | (simp only [Int.toNat_natCast, upF_2] at *; omega)) ?_
  exact ⟨rfl, rfl⟩
theorem r_is1 (hb : b < m0) (hg : Rg ρ) (d : Nat) {n w : Int} (hw : 0 ≤ n ∧ n < 256 ∧ ρ.2 1 0 n.toNat = w) (w1 : -2147483648 ≤ w) (w2 : w ≤ 2147483647) : Wp b L xs d mi_115 0 (ent (mL mi_115) [.ref m0, vI n, vI w]) [] (RH m0 h ρ) (Rt (RH m0 h ρ) (vI 1)) := by
  have := r_is (b := b) (L := L) (xs := xs) (h := h) hb hg d (n := n) (w := w) (by omega) (by omega) w1 w2
  rw [if_pos hw] at this
  exact this
theorem r_is0 (hb : b < m0) (hg : Rg ρ) (d : Nat) {n w : Int} (hw : ¬ (0 ≤ n ∧ n < 256 ∧ ρ.2 1 0 n.toNat = w)) (n1 : -2147483648 ≤ n) (n2 : n ≤ 2147483647) (w1 : -2147483648 ≤ w) (w2 : w ≤ 2147483647) : Wp b L xs d mi_115 0 (ent (mL mi_115) [.ref m0, vI n, vI w]) [] (RH m0 h ρ) (Rt (RH m0 h ρ) (vI 0)) := by
  have := r_is (b := b) (L := L) (xs := xs) (h := h) hb hg d (n := n) (w := w) n1 n2 w1 w2
  rw [if_neg hw] at this
  exact this
theorem r_chg (hb : b < m0) (hg : Rg ρ) (d : Nat) {n c : Int} (n1 : 0 ≤ n) (n2 : n < 256) (c1 : -1 ≤ c) (c2 : c < 100) : Wp b L xs d mi_123 0 (ent (mL mi_123) [.ref m0, vI n, vI c]) [] (RH m0 h ρ) (Rt (RH m0 h (ρ)) (vI (if ρ.2 1 0 n.toNat ≠ 0 ∧ (c < 0 ∨ ρ.2 11 0 c.toNat < ρ.2 5 0 n.toNat) then 1 else 0))) := by
  refine w_aload_n rfl rfl ?_
  refine m_get rfl rfl ?_
  refine w_iload_n rfl rfl ?_
  refine m_iaload rfl hb rl_1 (by first | omega | (simp only [Int.toNat_natCast, upF_2] at *; omega)) (by first | omega | (simp only [Int.toNat_natCast, upF_2] at *; omega)) ?_
  refine w_ifeq rfl (by first | omega | exact (hg.2 _ _ _).1 | exact (hg.1 _).1 | (simp only [Int.toNat_natCast, upF_2] at *; omega)) (by first | omega | exact (hg.2 _ _ _).2 | exact (hg.1 _).2 | (simp only [Int.toNat_natCast, upF_2] at *; omega)) (fun c3 => ?_) (fun c3 => ?_)
  · refine w_iconst rfl ?_
    refine w_zreturn rfl rfl (by first | omega | (simp only [Int.toNat_natCast, upF_2] at *; omega)) ?_
    exact ⟨rfl, by rw [if_neg (by omega)]⟩
  · refine w_iload_n rfl rfl ?_
    refine w_iflt rfl (by first | omega | exact (hg.2 _ _ _).1 | exact (hg.1 _).1 | (simp only [Int.toNat_natCast, upF_2] at *; omega)) (by first | omega | exact (hg.2 _ _ _).2 | exact (hg.1 _).2 | (simp only [Int.toNat_natCast, upF_2] at *; omega)) (fun c4 => ?_) (fun c4 => ?_)
    · refine w_iconst rfl ?_
      refine w_goto rfl ?_
      refine w_zreturn rfl rfl (by first | omega | (simp only [Int.toNat_natCast, upF_2] at *; omega)) ?_
      exact ⟨rfl, by rw [if_pos (by omega)]⟩
    · refine w_aload_n rfl rfl ?_
      refine m_get rfl rfl ?_
      refine w_iload_n rfl rfl ?_
      refine m_iaload rfl hb rl_5 (by first | omega | (simp only [Int.toNat_natCast, upF_2] at *; omega)) (by first | omega | (simp only [Int.toNat_natCast, upF_2] at *; omega)) ?_
      refine w_aload_n rfl rfl ?_
      refine m_get rfl rfl ?_
      refine w_iload_n rfl rfl ?_
      refine m_iaload rfl hb rl_11 (by first | omega | (simp only [Int.toNat_natCast, upF_2] at *; omega)) (by first | omega | (simp only [Int.toNat_natCast, upF_2] at *; omega)) ?_
      refine w_icle rfl (by first | omega | exact (hg.2 _ _ _).1 | exact (hg.1 _).1 | (simp only [Int.toNat_natCast, upF_2] at *; omega)) (by first | omega | exact (hg.2 _ _ _).2 | exact (hg.1 _).2 | (simp only [Int.toNat_natCast, upF_2] at *; omega)) (by first | omega | exact (hg.2 _ _ _).1 | exact (hg.1 _).1 | (simp only [Int.toNat_natCast, upF_2] at *; omega)) (by first | omega | exact (hg.2 _ _ _).2 | exact (hg.1 _).2 | (simp only [Int.toNat_natCast, upF_2] at *; omega)) (fun c5 => ?_) (fun c5 => ?_)
      · refine w_iconst rfl ?_
        refine w_zreturn rfl rfl (by first | omega | (simp only [Int.toNat_natCast, upF_2] at *; omega)) ?_
        exact ⟨rfl, by rw [if_neg (by omega)]⟩
      · refine w_iconst rfl ?_
        refine w_goto rfl ?_
        refine w_zreturn rfl rfl (by first | omega | (simp only [Int.toNat_natCast, upF_2] at *; omega)) ?_
        exact ⟨rfl, by rw [if_pos (by omega)]⟩
theorem r_many (hb : b < m0) (hg : Rg ρ) (d : Nat) {n : Int} (n1 : 0 ≤ n) (n2 : n < 100) : Wp b L xs d mi_133 0 (ent (mL mi_133) [.ref m0, vI n]) [] (RH m0 h ρ) (Rt (RH m0 h (ρ)) (vI (ρ.2 14 0 (n + 1).toNat - ρ.2 14 0 n.toNat))) := by
  refine w_aload_n rfl rfl ?_
  refine m_get rfl rfl ?_
  refine w_iload_n rfl rfl ?_
  refine w_iconst rfl ?_
  refine w_iadd rfl ?_
  refine m_iaload rfl hb rl_14 (by first | omega | (simp only [Int.toNat_natCast, upF_2] at *; omega)) (by first | omega | (simp only [Int.toNat_natCast, upF_2] at *; omega)) ?_
  refine w_aload_n rfl rfl ?_
  refine m_get rfl rfl ?_
  refine w_iload_n rfl rfl ?_
  refine m_iaload rfl hb rl_14 (by first | omega | (simp only [Int.toNat_natCast, upF_2] at *; omega)) (by first | omega | (simp only [Int.toNat_natCast, upF_2] at *; omega)) ?_
  refine w_isub rfl ?_
  refine w_ireturn rfl rfl ?_
  exact ⟨rfl, rfl⟩
theorem r_idx (hb : b < m0) (hg : Rg ρ) (d : Nat) (hd : 1 ≤ d) {n : Int} (n1 : 0 ≤ n) (n2 : n < 100) (n3 : 0 ≤ ρ.2 14 0 (n + 1).toNat - ρ.2 14 0 n.toNat) (n4 : ρ.2 14 0 (n + 1).toNat - ρ.2 14 0 n.toNat ≤ 100000) : Wp b L xs d mi_134 0 (ent (mL mi_134) [.ref m0, vI n]) [] (RH m0 h ρ) (Rt (RH m0 h (ρ)) (vI (pts (ρ.2 14 0 (n + 1).toNat - ρ.2 14 0 n.toNat) 31))) := by
  refine w_aload_n rfl rfl ?_
  refine w_iload_n rfl rfl ?_
  refine w_cvV rfl (by decide) (by first | omega | (simp only [Int.toNat_natCast, upF_2] at *; omega)) rfl RH_obj mt_133 (Nat.le_of_ble_eq_true rfl) (Nat.le_of_ble_eq_true rfl) (r_many hb (by assumption) _ (by omega) (by omega)) ?_
  refine w_bipush rfl rfl ?_
  refine w_csV rfl (by decide) (by first | omega | (simp only [Int.toNat_natCast, upF_2] at *; omega)) rfl mt_124 (Nat.le_of_ble_eq_true rfl) (Nat.le_of_ble_eq_true rfl) (r_parts _ (by omega) (by omega) (by omega) (by omega)) ?_
  refine w_ireturn rfl rfl ?_
  exact ⟨rfl, rfl⟩
theorem r_head (hb : b < m0) (hg : Rg ρ) (d : Nat) (hd : 2 ≤ d) {n : Int} (n1 : 0 ≤ n) (n2 : n < 100) (n3 : 0 ≤ ρ.2 14 0 (n + 1).toNat - ρ.2 14 0 n.toNat) (n4 : ρ.2 14 0 (n + 1).toNat - ρ.2 14 0 n.toNat ≤ 100000) : Wp b L xs d mi_138 0 (ent (mL mi_138) [.ref m0, vI n]) [] (RH m0 h ρ) (Rt (RH m0 h (ρ)) (vI (2 + pts (ρ.2 14 0 (n + 1).toNat - ρ.2 14 0 n.toNat) 31))) := by
  refine w_iconst rfl ?_
  refine w_aload_n rfl rfl ?_
  refine w_iload_n rfl rfl ?_
  refine w_cvV rfl (by decide) (by first | omega | (simp only [Int.toNat_natCast, upF_2] at *; omega)) rfl RH_obj mt_134 (Nat.le_of_ble_eq_true rfl) (Nat.le_of_ble_eq_true rfl) (r_idx hb (by assumption) _ (by omega) (by omega) (by omega) (by omega) (by omega)) ?_
  refine w_iadd rfl ?_
  refine w_ireturn rfl rfl ?_
  exact ⟨rfl, rfl⟩
theorem r_cont (hb : b < m0) (hg : Rg ρ) (d : Nat) (hd : 1 ≤ d) {n : Int} (n1 : 0 ≤ n) (n2 : n < 4000) (n3 : 0 ≤ ρ.2 21 0 n.toNat) (n4 : ρ.2 21 0 n.toNat ≤ 100000) : Wp b L xs d mi_135 0 (ent (mL mi_135) [.ref m0, vI n]) [] (RH m0 h ρ) (Rt (RH m0 h (ρ)) (vI (pts (ρ.2 21 0 n.toNat) (if ρ.2 18 0 n.toNat = 1 then 64 else 21)))) := by
  refine w_aload_n rfl rfl ?_
  refine m_get rfl rfl ?_
  refine w_iload_n rfl rfl ?_
  refine m_iaload rfl hb rl_21 (by first | omega | (simp only [Int.toNat_natCast, upF_2] at *; omega)) (by first | omega | (simp only [Int.toNat_natCast, upF_2] at *; omega)) ?_
  refine w_aload_n rfl rfl ?_
  refine m_get rfl rfl ?_
  refine w_iload_n rfl rfl ?_
  refine m_iaload rfl hb rl_18 (by first | omega | (simp only [Int.toNat_natCast, upF_2] at *; omega)) (by first | omega | (simp only [Int.toNat_natCast, upF_2] at *; omega)) ?_
  refine w_iconst rfl ?_
  refine w_icne rfl (by first | omega | exact (hg.2 _ _ _).1 | exact (hg.1 _).1 | (simp only [Int.toNat_natCast, upF_2] at *; omega)) (by first | omega | exact (hg.2 _ _ _).2 | exact (hg.1 _).2 | (simp only [Int.toNat_natCast, upF_2] at *; omega)) (by first | omega | exact (hg.2 _ _ _).1 | exact (hg.1 _).1 | (simp only [Int.toNat_natCast, upF_2] at *; omega)) (by first | omega | exact (hg.2 _ _ _).2 | exact (hg.1 _).2 | (simp only [Int.toNat_natCast, upF_2] at *; omega)) (fun c1 => ?_) (fun c1 => ?_)
  · rw [if_neg c1]
    refine w_bipush rfl rfl ?_
    refine w_csV rfl (by decide) (by first | omega | (simp only [Int.toNat_natCast, upF_2] at *; omega)) rfl mt_124 (Nat.le_of_ble_eq_true rfl) (Nat.le_of_ble_eq_true rfl) (r_parts _ (by omega) (by omega) (by omega) (by omega)) ?_
    refine w_ireturn rfl rfl ?_
    exact ⟨rfl, rfl⟩
  · rw [if_pos (by omega)]
    refine w_bipush rfl rfl ?_
    refine w_goto rfl ?_
    refine w_csV rfl (by decide) (by first | omega | (simp only [Int.toNat_natCast, upF_2] at *; omega)) rfl mt_124 (Nat.le_of_ble_eq_true rfl) (Nat.le_of_ble_eq_true rfl) (r_parts _ (by omega) (by omega) (by omega) (by omega)) ?_
    refine w_ireturn rfl rfl ?_
    exact ⟨rfl, rfl⟩
theorem r_place (hb : b < m0) (hg : Rg ρ) (d : Nat) {v c : Int} : Wp b L xs d mi_129 0 (ent (mL mi_129) [.ref m0, vI v, vI c]) [] (RH m0 h ρ) (Rt (RH m0 h (ρ)) (vI (v * (ρ.1 8 - 1) + c - 1))) := by
  refine w_iload_n rfl rfl ?_
  refine w_aload_n rfl rfl ?_
  refine m_get rfl rfl ?_
  refine w_iconst rfl ?_
  refine w_isub rfl ?_
  refine w_imul rfl ?_
  refine w_iload_n rfl rfl ?_
  refine w_iadd rfl ?_
  refine w_iconst rfl ?_
  refine w_isub rfl ?_
  refine w_ireturn rfl rfl ?_
  exact ⟨rfl, rfl⟩
def rWr (ρ : RS) (v c : Int) : Prop := 0 ≤ v ∧ 0 ≤ c ∧ c < ρ.1 8 ∧ v ≤ 4000 ∧ (if c = 0 then v * (ρ.1 8 - 1) < ρ.1 9 else v * (ρ.1 8 - 1) + c - 1 < ρ.1 9)
theorem r_wr0 (hb : b < m0) (hg : Rg ρ) (d : Nat) {v c : Int} (v1 : -2147483648 ≤ v) (v2 : v ≤ 2147483647) (c1 : -2147483648 ≤ c) (c2 : c ≤ 2147483647) (k1 : 4 ≤ ρ.1 8) (k2 : ρ.1 8 ≤ 1000) (w1 : 0 ≤ ρ.1 9) (w2 : ρ.1 9 ≤ 4000) (hw : ¬ rWr ρ v c) : Wp b L xs d mi_128 0 (ent (mL mi_128) [.ref m0, vI v, vI c]) [] (RH m0 h ρ) (Rt (RH m0 h (ρ)) (vI 0)) := by
  by_cases q1 : 0 ≤ v ∧ 0 ≤ c ∧ c < ρ.1 8 ∧ v ≤ 4000
  · have hz1 : 0 ≤ v * (ρ.1 8 - 1) := Int.mul_nonneg (by omega) (by omega)
    have hz2 : v * (ρ.1 8 - 1) ≤ 4000 * 999 := Int.mul_le_mul (by omega) (by omega) (by omega) (by omega)
    have q2 : ¬ (if c = 0 then v * (ρ.1 8 - 1) < ρ.1 9 else v * (ρ.1 8 - 1) + c - 1 < ρ.1 9) := fun z => hw ⟨q1.1, q1.2.1, q1.2.2.1, q1.2.2.2, z⟩
    by_cases q3 : c = 0
    · rw [if_pos q3] at q2
      refine w_iload_n rfl rfl ?_
      refine w_iflt_f rfl (by first | omega | exact (hg.2 _ _ _).1 | exact (hg.1 _).1 | (simp only [Int.toNat_natCast, upF_2] at *; omega)) (by first | omega | exact (hg.2 _ _ _).2 | exact (hg.1 _).2 | (simp only [Int.toNat_natCast, upF_2] at *; omega)) (by first | omega | (simp only [Int.toNat_natCast, upF_2] at *; omega)) ?_
      refine w_iload_n rfl rfl ?_
      refine w_iflt_f rfl (by first | omega | exact (hg.2 _ _ _).1 | exact (hg.1 _).1 | (simp only [Int.toNat_natCast, upF_2] at *; omega)) (by first | omega | exact (hg.2 _ _ _).2 | exact (hg.1 _).2 | (simp only [Int.toNat_natCast, upF_2] at *; omega)) (by first | omega | (simp only [Int.toNat_natCast, upF_2] at *; omega)) ?_
      refine w_iload_n rfl rfl ?_
      refine w_aload_n rfl rfl ?_
      refine m_get rfl rfl ?_
      refine w_icge_f rfl (by first | omega | exact (hg.2 _ _ _).1 | exact (hg.1 _).1 | (simp only [Int.toNat_natCast, upF_2] at *; omega)) (by first | omega | exact (hg.2 _ _ _).2 | exact (hg.1 _).2 | (simp only [Int.toNat_natCast, upF_2] at *; omega)) (by first | omega | exact (hg.2 _ _ _).1 | exact (hg.1 _).1 | (simp only [Int.toNat_natCast, upF_2] at *; omega)) (by first | omega | exact (hg.2 _ _ _).2 | exact (hg.1 _).2 | (simp only [Int.toNat_natCast, upF_2] at *; omega)) (by first | omega | (simp only [Int.toNat_natCast, upF_2] at *; omega)) ?_
      refine w_iload_n rfl rfl ?_
      refine w_sipush rfl rfl ?_
      refine w_icle_t rfl (by first | omega | exact (hg.2 _ _ _).1 | exact (hg.1 _).1 | (simp only [Int.toNat_natCast, upF_2] at *; omega)) (by first | omega | exact (hg.2 _ _ _).2 | exact (hg.1 _).2 | (simp only [Int.toNat_natCast, upF_2] at *; omega)) (by first | omega | exact (hg.2 _ _ _).1 | exact (hg.1 _).1 | (simp only [Int.toNat_natCast, upF_2] at *; omega)) (by first | omega | exact (hg.2 _ _ _).2 | exact (hg.1 _).2 | (simp only [Int.toNat_natCast, upF_2] at *; omega)) (by first | omega | (simp only [Int.toNat_natCast, upF_2] at *; omega)) ?_
      refine w_iload_n rfl rfl ?_
      refine w_ifne_f rfl (by first | omega | exact (hg.2 _ _ _).1 | exact (hg.1 _).1 | (simp only [Int.toNat_natCast, upF_2] at *; omega)) (by first | omega | exact (hg.2 _ _ _).2 | exact (hg.1 _).2 | (simp only [Int.toNat_natCast, upF_2] at *; omega)) (by first | omega | (simp only [Int.toNat_natCast, upF_2] at *; omega)) ?_
      refine w_iload_n rfl rfl ?_
      refine w_i2lJ rfl (by first | omega | exact (hg.2 _ _ _).1 | exact (hg.1 _).1 | (simp only [Int.toNat_natCast, upF_2] at *; omega)) (by first | omega | exact (hg.2 _ _ _).2 | exact (hg.1 _).2 | (simp only [Int.toNat_natCast, upF_2] at *; omega)) ?_
      refine w_aload_n rfl rfl ?_
      refine m_get rfl rfl ?_
      refine w_iconst rfl ?_
      refine w_isub rfl ?_
      refine w_i2lJ rfl (by first | omega | exact (hg.2 _ _ _).1 | exact (hg.1 _).1 | (simp only [Int.toNat_natCast, upF_2] at *; omega)) (by first | omega | exact (hg.2 _ _ _).2 | exact (hg.1 _).2 | (simp only [Int.toNat_natCast, upF_2] at *; omega)) ?_
      refine w_lmulJ rfl ?_
      refine w_aload_n rfl rfl ?_
      refine m_get rfl rfl ?_
      refine w_i2lJ rfl (by first | omega | exact (hg.2 _ _ _).1 | exact (hg.1 _).1 | (simp only [Int.toNat_natCast, upF_2] at *; omega)) (by first | omega | exact (hg.2 _ _ _).2 | exact (hg.1 _).2 | (simp only [Int.toNat_natCast, upF_2] at *; omega)) ?_
      refine w_lcmpJ rfl (by first | omega | (refine Int.le_trans ?_ hz1; omega)) (by first | omega | (refine Int.le_trans hz2 ?_; omega)) (by first | omega | (refine Int.le_trans ?_ hz1; omega)) (by first | omega | (refine Int.le_trans hz2 ?_; omega)) ?_
      refine w_ifge_t rfl (by first | omega | exact (hg.2 _ _ _).1 | exact (hg.1 _).1 | (simp only [Int.toNat_natCast, upF_2] at *; omega)) (by first | omega | exact (hg.2 _ _ _).2 | exact (hg.1 _).2 | (simp only [Int.toNat_natCast, upF_2] at *; omega)) (by split <;> omega) ?_
      refine w_iconst rfl ?_
      refine w_goto rfl ?_
      refine w_zreturn rfl rfl (by first | omega | (simp only [Int.toNat_natCast, upF_2] at *; omega)) ?_
      exact ⟨rfl, rfl⟩
    · rw [if_neg q3] at q2
      refine w_iload_n rfl rfl ?_
      refine w_iflt_f rfl (by first | omega | exact (hg.2 _ _ _).1 | exact (hg.1 _).1 | (simp only [Int.toNat_natCast, upF_2] at *; omega)) (by first | omega | exact (hg.2 _ _ _).2 | exact (hg.1 _).2 | (simp only [Int.toNat_natCast, upF_2] at *; omega)) (by first | omega | (simp only [Int.toNat_natCast, upF_2] at *; omega)) ?_
      refine w_iload_n rfl rfl ?_
      refine w_iflt_f rfl (by first | omega | exact (hg.2 _ _ _).1 | exact (hg.1 _).1 | (simp only [Int.toNat_natCast, upF_2] at *; omega)) (by first | omega | exact (hg.2 _ _ _).2 | exact (hg.1 _).2 | (simp only [Int.toNat_natCast, upF_2] at *; omega)) (by first | omega | (simp only [Int.toNat_natCast, upF_2] at *; omega)) ?_
      refine w_iload_n rfl rfl ?_
      refine w_aload_n rfl rfl ?_
      refine m_get rfl rfl ?_
      refine w_icge_f rfl (by first | omega | exact (hg.2 _ _ _).1 | exact (hg.1 _).1 | (simp only [Int.toNat_natCast, upF_2] at *; omega)) (by first | omega | exact (hg.2 _ _ _).2 | exact (hg.1 _).2 | (simp only [Int.toNat_natCast, upF_2] at *; omega)) (by first | omega | exact (hg.2 _ _ _).1 | exact (hg.1 _).1 | (simp only [Int.toNat_natCast, upF_2] at *; omega)) (by first | omega | exact (hg.2 _ _ _).2 | exact (hg.1 _).2 | (simp only [Int.toNat_natCast, upF_2] at *; omega)) (by first | omega | (simp only [Int.toNat_natCast, upF_2] at *; omega)) ?_
      refine w_iload_n rfl rfl ?_
      refine w_sipush rfl rfl ?_
      refine w_icle_t rfl (by first | omega | exact (hg.2 _ _ _).1 | exact (hg.1 _).1 | (simp only [Int.toNat_natCast, upF_2] at *; omega)) (by first | omega | exact (hg.2 _ _ _).2 | exact (hg.1 _).2 | (simp only [Int.toNat_natCast, upF_2] at *; omega)) (by first | omega | exact (hg.2 _ _ _).1 | exact (hg.1 _).1 | (simp only [Int.toNat_natCast, upF_2] at *; omega)) (by first | omega | exact (hg.2 _ _ _).2 | exact (hg.1 _).2 | (simp only [Int.toNat_natCast, upF_2] at *; omega)) (by first | omega | (simp only [Int.toNat_natCast, upF_2] at *; omega)) ?_
      refine w_iload_n rfl rfl ?_
      refine w_ifne_t rfl (by first | omega | exact (hg.2 _ _ _).1 | exact (hg.1 _).1 | (simp only [Int.toNat_natCast, upF_2] at *; omega)) (by first | omega | exact (hg.2 _ _ _).2 | exact (hg.1 _).2 | (simp only [Int.toNat_natCast, upF_2] at *; omega)) (by first | omega | (simp only [Int.toNat_natCast, upF_2] at *; omega)) ?_
      refine w_iload_n rfl rfl ?_
      refine w_i2lJ rfl (by first | omega | exact (hg.2 _ _ _).1 | exact (hg.1 _).1 | (simp only [Int.toNat_natCast, upF_2] at *; omega)) (by first | omega | exact (hg.2 _ _ _).2 | exact (hg.1 _).2 | (simp only [Int.toNat_natCast, upF_2] at *; omega)) ?_
      refine w_aload_n rfl rfl ?_
      refine m_get rfl rfl ?_
      refine w_iconst rfl ?_
      refine w_isub rfl ?_
      refine w_i2lJ rfl (by first | omega | exact (hg.2 _ _ _).1 | exact (hg.1 _).1 | (simp only [Int.toNat_natCast, upF_2] at *; omega)) (by first | omega | exact (hg.2 _ _ _).2 | exact (hg.1 _).2 | (simp only [Int.toNat_natCast, upF_2] at *; omega)) ?_
      refine w_lmulJ rfl ?_
      refine w_iload_n rfl rfl ?_
      refine w_i2lJ rfl (by first | omega | exact (hg.2 _ _ _).1 | exact (hg.1 _).1 | (simp only [Int.toNat_natCast, upF_2] at *; omega)) (by first | omega | exact (hg.2 _ _ _).2 | exact (hg.1 _).2 | (simp only [Int.toNat_natCast, upF_2] at *; omega)) ?_
      refine w_laddJ rfl ?_
      refine w_lconst rfl ?_
      refine w_lsubJ (y := 1) rfl ?_
      refine w_aload_n rfl rfl ?_
      refine m_get rfl rfl ?_
      refine w_i2lJ rfl (by first | omega | exact (hg.2 _ _ _).1 | exact (hg.1 _).1 | (simp only [Int.toNat_natCast, upF_2] at *; omega)) (by first | omega | exact (hg.2 _ _ _).2 | exact (hg.1 _).2 | (simp only [Int.toNat_natCast, upF_2] at *; omega)) ?_
      refine w_lcmpJ rfl (by omega) (by omega) (by omega) (by omega) ?_
      refine w_ifge_t rfl (by first | omega | exact (hg.2 _ _ _).1 | exact (hg.1 _).1 | (simp only [Int.toNat_natCast, upF_2] at *; omega)) (by first | omega | exact (hg.2 _ _ _).2 | exact (hg.1 _).2 | (simp only [Int.toNat_natCast, upF_2] at *; omega)) (by split <;> omega) ?_
      refine w_iconst rfl ?_
      refine w_zreturn rfl rfl (by first | omega | (simp only [Int.toNat_natCast, upF_2] at *; omega)) ?_
      exact ⟨rfl, rfl⟩
  · by_cases q2 : v < 0
    · refine w_iload_n rfl rfl ?_
      refine w_iflt_t rfl (by first | omega | exact (hg.2 _ _ _).1 | exact (hg.1 _).1 | (simp only [Int.toNat_natCast, upF_2] at *; omega)) (by first | omega | exact (hg.2 _ _ _).2 | exact (hg.1 _).2 | (simp only [Int.toNat_natCast, upF_2] at *; omega)) (by first | omega | (simp only [Int.toNat_natCast, upF_2] at *; omega)) ?_
      refine w_iconst rfl ?_
      refine w_zreturn rfl rfl (by first | omega | (simp only [Int.toNat_natCast, upF_2] at *; omega)) ?_
      exact ⟨rfl, rfl⟩
    by_cases q3 : c < 0
    · refine w_iload_n rfl rfl ?_
      refine w_iflt_f rfl (by first | omega | exact (hg.2 _ _ _).1 | exact (hg.1 _).1 | (simp only [Int.toNat_natCast, upF_2] at *; omega)) (by first | omega | exact (hg.2 _ _ _).2 | exact (hg.1 _).2 | (simp only [Int.toNat_natCast, upF_2] at *; omega)) (by first | omega | (simp only [Int.toNat_natCast, upF_2] at *; omega)) ?_
      refine w_iload_n rfl rfl ?_
      refine w_iflt_t rfl (by first | omega | exact (hg.2 _ _ _).1 | exact (hg.1 _).1 | (simp only [Int.toNat_natCast, upF_2] at *; omega)) (by first | omega | exact (hg.2 _ _ _).2 | exact (hg.1 _).2 | (simp only [Int.toNat_natCast, upF_2] at *; omega)) (by first | omega | (simp only [Int.toNat_natCast, upF_2] at *; omega)) ?_
      refine w_iconst rfl ?_
      refine w_zreturn rfl rfl (by first | omega | (simp only [Int.toNat_natCast, upF_2] at *; omega)) ?_
      exact ⟨rfl, rfl⟩
    by_cases q4 : ρ.1 8 ≤ c
    · refine w_iload_n rfl rfl ?_
      refine w_iflt_f rfl (by first | omega | exact (hg.2 _ _ _).1 | exact (hg.1 _).1 | (simp only [Int.toNat_natCast, upF_2] at *; omega)) (by first | omega | exact (hg.2 _ _ _).2 | exact (hg.1 _).2 | (simp only [Int.toNat_natCast, upF_2] at *; omega)) (by first | omega | (simp only [Int.toNat_natCast, upF_2] at *; omega)) ?_
      refine w_iload_n rfl rfl ?_
      refine w_iflt_f rfl (by first | omega | exact (hg.2 _ _ _).1 | exact (hg.1 _).1 | (simp only [Int.toNat_natCast, upF_2] at *; omega)) (by first | omega | exact (hg.2 _ _ _).2 | exact (hg.1 _).2 | (simp only [Int.toNat_natCast, upF_2] at *; omega)) (by first | omega | (simp only [Int.toNat_natCast, upF_2] at *; omega)) ?_
      refine w_iload_n rfl rfl ?_
      refine w_aload_n rfl rfl ?_
      refine m_get rfl rfl ?_
      refine w_icge_t rfl (by first | omega | exact (hg.2 _ _ _).1 | exact (hg.1 _).1 | (simp only [Int.toNat_natCast, upF_2] at *; omega)) (by first | omega | exact (hg.2 _ _ _).2 | exact (hg.1 _).2 | (simp only [Int.toNat_natCast, upF_2] at *; omega)) (by first | omega | exact (hg.2 _ _ _).1 | exact (hg.1 _).1 | (simp only [Int.toNat_natCast, upF_2] at *; omega)) (by first | omega | exact (hg.2 _ _ _).2 | exact (hg.1 _).2 | (simp only [Int.toNat_natCast, upF_2] at *; omega)) (by first | omega | (simp only [Int.toNat_natCast, upF_2] at *; omega)) ?_
      refine w_iconst rfl ?_
      refine w_zreturn rfl rfl (by first | omega | (simp only [Int.toNat_natCast, upF_2] at *; omega)) ?_
      exact ⟨rfl, rfl⟩
    refine w_iload_n rfl rfl ?_
    refine w_iflt_f rfl (by first | omega | exact (hg.2 _ _ _).1 | exact (hg.1 _).1 | (simp only [Int.toNat_natCast, upF_2] at *; omega)) (by first | omega | exact (hg.2 _ _ _).2 | exact (hg.1 _).2 | (simp only [Int.toNat_natCast, upF_2] at *; omega)) (by first | omega | (simp only [Int.toNat_natCast, upF_2] at *; omega)) ?_
    refine w_iload_n rfl rfl ?_
    refine w_iflt_f rfl (by first | omega | exact (hg.2 _ _ _).1 | exact (hg.1 _).1 | (simp only [Int.toNat_natCast, upF_2] at *; omega)) (by first | omega | exact (hg.2 _ _ _).2 | exact (hg.1 _).2 | (simp only [Int.toNat_natCast, upF_2] at *; omega)) (by first | omega | (simp only [Int.toNat_natCast, upF_2] at *; omega)) ?_
    refine w_iload_n rfl rfl ?_
    refine w_aload_n rfl rfl ?_
    refine m_get rfl rfl ?_
    refine w_icge_f rfl (by first | omega | exact (hg.2 _ _ _).1 | exact (hg.1 _).1 | (simp only [Int.toNat_natCast, upF_2] at *; omega)) (by first | omega | exact (hg.2 _ _ _).2 | exact (hg.1 _).2 | (simp only [Int.toNat_natCast, upF_2] at *; omega)) (by first | omega | exact (hg.2 _ _ _).1 | exact (hg.1 _).1 | (simp only [Int.toNat_natCast, upF_2] at *; omega)) (by first | omega | exact (hg.2 _ _ _).2 | exact (hg.1 _).2 | (simp only [Int.toNat_natCast, upF_2] at *; omega)) (by first | omega | (simp only [Int.toNat_natCast, upF_2] at *; omega)) ?_
    refine w_iload_n rfl rfl ?_
    refine w_sipush rfl rfl ?_
    refine w_icle_f rfl (by first | omega | exact (hg.2 _ _ _).1 | exact (hg.1 _).1 | (simp only [Int.toNat_natCast, upF_2] at *; omega)) (by first | omega | exact (hg.2 _ _ _).2 | exact (hg.1 _).2 | (simp only [Int.toNat_natCast, upF_2] at *; omega)) (by first | omega | exact (hg.2 _ _ _).1 | exact (hg.1 _).1 | (simp only [Int.toNat_natCast, upF_2] at *; omega)) (by first | omega | exact (hg.2 _ _ _).2 | exact (hg.1 _).2 | (simp only [Int.toNat_natCast, upF_2] at *; omega)) (by first | omega | (simp only [Int.toNat_natCast, upF_2] at *; omega)) ?_
    refine w_iconst rfl ?_
    refine w_zreturn rfl rfl (by first | omega | (simp only [Int.toNat_natCast, upF_2] at *; omega)) ?_
    exact ⟨rfl, rfl⟩
theorem r_wr1 (hb : b < m0) (hg : Rg ρ) (d : Nat) {v c : Int} (k1 : 4 ≤ ρ.1 8) (k2 : ρ.1 8 ≤ 1000) (w1 : 0 ≤ ρ.1 9) (w2 : ρ.1 9 ≤ 4000) (hw : rWr ρ v c) : Wp b L xs d mi_128 0 (ent (mL mi_128) [.ref m0, vI v, vI c]) [] (RH m0 h ρ) (Rt (RH m0 h (ρ)) (vI 1)) := by
  obtain ⟨q1, q2, q3, q4, q5⟩ := hw
  have hz1 : 0 ≤ v * (ρ.1 8 - 1) := Int.mul_nonneg (by omega) (by omega)
  have hz2 : v * (ρ.1 8 - 1) ≤ 4000 * 999 := Int.mul_le_mul (by omega) (by omega) (by omega) (by omega)
  by_cases q6 : c = 0
  · rw [if_pos q6] at q5
    refine w_iload_n rfl rfl ?_
    refine w_iflt_f rfl (by first | omega | exact (hg.2 _ _ _).1 | exact (hg.1 _).1 | (simp only [Int.toNat_natCast, upF_2] at *; omega)) (by first | omega | exact (hg.2 _ _ _).2 | exact (hg.1 _).2 | (simp only [Int.toNat_natCast, upF_2] at *; omega)) (by first | omega | (simp only [Int.toNat_natCast, upF_2] at *; omega)) ?_
    refine w_iload_n rfl rfl ?_
    refine w_iflt_f rfl (by first | omega | exact (hg.2 _ _ _).1 | exact (hg.1 _).1 | (simp only [Int.toNat_natCast, upF_2] at *; omega)) (by first | omega | exact (hg.2 _ _ _).2 | exact (hg.1 _).2 | (simp only [Int.toNat_natCast, upF_2] at *; omega)) (by first | omega | (simp only [Int.toNat_natCast, upF_2] at *; omega)) ?_
    refine w_iload_n rfl rfl ?_
    refine w_aload_n rfl rfl ?_
    refine m_get rfl rfl ?_
    refine w_icge_f rfl (by first | omega | exact (hg.2 _ _ _).1 | exact (hg.1 _).1 | (simp only [Int.toNat_natCast, upF_2] at *; omega)) (by first | omega | exact (hg.2 _ _ _).2 | exact (hg.1 _).2 | (simp only [Int.toNat_natCast, upF_2] at *; omega)) (by first | omega | exact (hg.2 _ _ _).1 | exact (hg.1 _).1 | (simp only [Int.toNat_natCast, upF_2] at *; omega)) (by first | omega | exact (hg.2 _ _ _).2 | exact (hg.1 _).2 | (simp only [Int.toNat_natCast, upF_2] at *; omega)) (by first | omega | (simp only [Int.toNat_natCast, upF_2] at *; omega)) ?_
    refine w_iload_n rfl rfl ?_
    refine w_sipush rfl rfl ?_
    refine w_icle_t rfl (by first | omega | exact (hg.2 _ _ _).1 | exact (hg.1 _).1 | (simp only [Int.toNat_natCast, upF_2] at *; omega)) (by first | omega | exact (hg.2 _ _ _).2 | exact (hg.1 _).2 | (simp only [Int.toNat_natCast, upF_2] at *; omega)) (by first | omega | exact (hg.2 _ _ _).1 | exact (hg.1 _).1 | (simp only [Int.toNat_natCast, upF_2] at *; omega)) (by first | omega | exact (hg.2 _ _ _).2 | exact (hg.1 _).2 | (simp only [Int.toNat_natCast, upF_2] at *; omega)) (by first | omega | (simp only [Int.toNat_natCast, upF_2] at *; omega)) ?_
    refine w_iload_n rfl rfl ?_
    refine w_ifne_f rfl (by first | omega | exact (hg.2 _ _ _).1 | exact (hg.1 _).1 | (simp only [Int.toNat_natCast, upF_2] at *; omega)) (by first | omega | exact (hg.2 _ _ _).2 | exact (hg.1 _).2 | (simp only [Int.toNat_natCast, upF_2] at *; omega)) (by first | omega | (simp only [Int.toNat_natCast, upF_2] at *; omega)) ?_
    refine w_iload_n rfl rfl ?_
    refine w_i2lJ rfl (by first | omega | exact (hg.2 _ _ _).1 | exact (hg.1 _).1 | (simp only [Int.toNat_natCast, upF_2] at *; omega)) (by first | omega | exact (hg.2 _ _ _).2 | exact (hg.1 _).2 | (simp only [Int.toNat_natCast, upF_2] at *; omega)) ?_
    refine w_aload_n rfl rfl ?_
    refine m_get rfl rfl ?_
    refine w_iconst rfl ?_
    refine w_isub rfl ?_
    refine w_i2lJ rfl (by first | omega | exact (hg.2 _ _ _).1 | exact (hg.1 _).1 | (simp only [Int.toNat_natCast, upF_2] at *; omega)) (by first | omega | exact (hg.2 _ _ _).2 | exact (hg.1 _).2 | (simp only [Int.toNat_natCast, upF_2] at *; omega)) ?_
    refine w_lmulJ rfl ?_
    refine w_aload_n rfl rfl ?_
    refine m_get rfl rfl ?_
    refine w_i2lJ rfl (by first | omega | exact (hg.2 _ _ _).1 | exact (hg.1 _).1 | (simp only [Int.toNat_natCast, upF_2] at *; omega)) (by first | omega | exact (hg.2 _ _ _).2 | exact (hg.1 _).2 | (simp only [Int.toNat_natCast, upF_2] at *; omega)) ?_
    refine w_lcmpJ rfl (by first | omega | (refine Int.le_trans ?_ hz1; omega)) (by first | omega | (refine Int.le_trans hz2 ?_; omega)) (by first | omega | (refine Int.le_trans ?_ hz1; omega)) (by first | omega | (refine Int.le_trans hz2 ?_; omega)) ?_
    refine w_ifge_f rfl (by first | omega | exact (hg.2 _ _ _).1 | exact (hg.1 _).1 | (simp only [Int.toNat_natCast, upF_2] at *; omega)) (by first | omega | exact (hg.2 _ _ _).2 | exact (hg.1 _).2 | (simp only [Int.toNat_natCast, upF_2] at *; omega)) (by split <;> (try split) <;> omega) ?_
    refine w_iconst rfl ?_
    refine w_goto rfl ?_
    refine w_zreturn rfl rfl (by first | omega | (simp only [Int.toNat_natCast, upF_2] at *; omega)) ?_
    exact ⟨rfl, rfl⟩
  · rw [if_neg q6] at q5
    refine w_iload_n rfl rfl ?_
    refine w_iflt_f rfl (by first | omega | exact (hg.2 _ _ _).1 | exact (hg.1 _).1 | (simp only [Int.toNat_natCast, upF_2] at *; omega)) (by first | omega | exact (hg.2 _ _ _).2 | exact (hg.1 _).2 | (simp only [Int.toNat_natCast, upF_2] at *; omega)) (by first | omega | (simp only [Int.toNat_natCast, upF_2] at *; omega)) ?_
    refine w_iload_n rfl rfl ?_
    refine w_iflt_f rfl (by first | omega | exact (hg.2 _ _ _).1 | exact (hg.1 _).1 | (simp only [Int.toNat_natCast, upF_2] at *; omega)) (by first | omega | exact (hg.2 _ _ _).2 | exact (hg.1 _).2 | (simp only [Int.toNat_natCast, upF_2] at *; omega)) (by first | omega | (simp only [Int.toNat_natCast, upF_2] at *; omega)) ?_
    refine w_iload_n rfl rfl ?_
    refine w_aload_n rfl rfl ?_
    refine m_get rfl rfl ?_
    refine w_icge_f rfl (by first | omega | exact (hg.2 _ _ _).1 | exact (hg.1 _).1 | (simp only [Int.toNat_natCast, upF_2] at *; omega)) (by first | omega | exact (hg.2 _ _ _).2 | exact (hg.1 _).2 | (simp only [Int.toNat_natCast, upF_2] at *; omega)) (by first | omega | exact (hg.2 _ _ _).1 | exact (hg.1 _).1 | (simp only [Int.toNat_natCast, upF_2] at *; omega)) (by first | omega | exact (hg.2 _ _ _).2 | exact (hg.1 _).2 | (simp only [Int.toNat_natCast, upF_2] at *; omega)) (by first | omega | (simp only [Int.toNat_natCast, upF_2] at *; omega)) ?_
    refine w_iload_n rfl rfl ?_
    refine w_sipush rfl rfl ?_
    refine w_icle_t rfl (by first | omega | exact (hg.2 _ _ _).1 | exact (hg.1 _).1 | (simp only [Int.toNat_natCast, upF_2] at *; omega)) (by first | omega | exact (hg.2 _ _ _).2 | exact (hg.1 _).2 | (simp only [Int.toNat_natCast, upF_2] at *; omega)) (by first | omega | exact (hg.2 _ _ _).1 | exact (hg.1 _).1 | (simp only [Int.toNat_natCast, upF_2] at *; omega)) (by first | omega | exact (hg.2 _ _ _).2 | exact (hg.1 _).2 | (simp only [Int.toNat_natCast, upF_2] at *; omega)) (by first | omega | (simp only [Int.toNat_natCast, upF_2] at *; omega)) ?_
    refine w_iload_n rfl rfl ?_
    refine w_ifne_t rfl (by first | omega | exact (hg.2 _ _ _).1 | exact (hg.1 _).1 | (simp only [Int.toNat_natCast, upF_2] at *; omega)) (by first | omega | exact (hg.2 _ _ _).2 | exact (hg.1 _).2 | (simp only [Int.toNat_natCast, upF_2] at *; omega)) (by first | omega | (simp only [Int.toNat_natCast, upF_2] at *; omega)) ?_
    refine w_iload_n rfl rfl ?_
    refine w_i2lJ rfl (by first | omega | exact (hg.2 _ _ _).1 | exact (hg.1 _).1 | (simp only [Int.toNat_natCast, upF_2] at *; omega)) (by first | omega | exact (hg.2 _ _ _).2 | exact (hg.1 _).2 | (simp only [Int.toNat_natCast, upF_2] at *; omega)) ?_
    refine w_aload_n rfl rfl ?_
    refine m_get rfl rfl ?_
    refine w_iconst rfl ?_
    refine w_isub rfl ?_
    refine w_i2lJ rfl (by first | omega | exact (hg.2 _ _ _).1 | exact (hg.1 _).1 | (simp only [Int.toNat_natCast, upF_2] at *; omega)) (by first | omega | exact (hg.2 _ _ _).2 | exact (hg.1 _).2 | (simp only [Int.toNat_natCast, upF_2] at *; omega)) ?_
    refine w_lmulJ rfl ?_
    refine w_iload_n rfl rfl ?_
    refine w_i2lJ rfl (by first | omega | exact (hg.2 _ _ _).1 | exact (hg.1 _).1 | (simp only [Int.toNat_natCast, upF_2] at *; omega)) (by first | omega | exact (hg.2 _ _ _).2 | exact (hg.1 _).2 | (simp only [Int.toNat_natCast, upF_2] at *; omega)) ?_
    refine w_laddJ rfl ?_
    refine w_lconst rfl ?_
    refine w_lsubJ (y := 1) rfl ?_
    refine w_aload_n rfl rfl ?_
    refine m_get rfl rfl ?_
    refine w_i2lJ rfl (by first | omega | exact (hg.2 _ _ _).1 | exact (hg.1 _).1 | (simp only [Int.toNat_natCast, upF_2] at *; omega)) (by first | omega | exact (hg.2 _ _ _).2 | exact (hg.1 _).2 | (simp only [Int.toNat_natCast, upF_2] at *; omega)) ?_
    refine w_lcmpJ rfl (by omega) (by omega) (by omega) (by omega) ?_
    refine w_ifge_f rfl (by first | omega | exact (hg.2 _ _ _).1 | exact (hg.1 _).1 | (simp only [Int.toNat_natCast, upF_2] at *; omega)) (by first | omega | exact (hg.2 _ _ _).2 | exact (hg.1 _).2 | (simp only [Int.toNat_natCast, upF_2] at *; omega)) (by split <;> (try split) <;> omega) ?_
    refine w_iconst rfl ?_
    refine w_goto rfl ?_
    refine w_zreturn rfl rfl (by first | omega | (simp only [Int.toNat_natCast, upF_2] at *; omega)) ?_
    exact ⟨rfl, rfl⟩
end Rr2
