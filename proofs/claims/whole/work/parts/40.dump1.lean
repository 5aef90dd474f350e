/-! the reference's dump: the loops ahead of the records -/
def lsB (ρ : RS) (l : Int) : Nat → Nat → Int → Int
  | _, 0, cur => cur
  | k, m + 1, cur => lsB ρ l (k + 1) m (if ρ.2 10 0 k < l then k else cur)
abbrev chg (ρ : RS) (c : Int) (n : Nat) : Prop := ρ.2 1 0 n ≠ 0 ∧ (c < 0 ∨ ρ.2 11 0 c.toNat < ρ.2 5 0 n)
def nb (ρ : RS) (n : Nat) : Int := 1 + (if ρ.2 1 0 n = 1 then pts (ρ.2 4 0 n) 64 else pts (rEnt ρ n) 21)
def sm (p : Nat → Prop) [DecidablePred p] (f : Nat → Int) : Nat → Nat → Int
  | _, 0 => 0
  | k, m + 1 => (if p k then f k else 0) + sm p f (k + 1) m
def TreeOk (ρ : RS) : Prop := ∀ n : Nat, n < 256 → (ρ.2 1 0 n = 0 ∨ ρ.2 1 0 n = 1 ∨ ρ.2 1 0 n = 2) ∧ 0 ≤ ρ.2 2 0 n ∧ ρ.2 2 0 n < 256 ∧ 0 ≤ ρ.2 3 0 n ∧ ρ.2 3 0 n ≤ 30000 ∧ 0 ≤ ρ.2 4 0 n ∧ ρ.2 4 0 n ≤ 512 ∧ 0 ≤ ρ.2 5 0 n ∧ ρ.2 5 0 n ≤ 100000
theorem nb_ok {ρ : RS} (hT : TreeOk ρ) {n : Nat} (hn : n < 256) : 1 ≤ nb ρ n ∧ nb ρ n ≤ 14 := by
  have h1 := hT n hn
  have h2 : rEnt ρ n ≤ 255 := cnt_le _ _ _
  unfold nb pts
  split <;> omega
theorem sm_ok {p : Nat → Prop} [DecidablePred p] {f : Nat → Int} (hf : ∀ n, n < 256 → 1 ≤ f n ∧ f n ≤ 14) : ∀ m k : Nat, k + m ≤ 256 → 0 ≤ sm p f k m ∧ sm p f k m ≤ 14 * m
  | 0, _, _ => ⟨Int.le_refl _, Int.le_refl _⟩
  | m + 1, k, hk => by
    have h1 := sm_ok (p := p) hf m (k + 1) (by omega)
    have h2 := hf k (by omega)
    show 0 ≤ (if p k then f k else 0) + sm p f (k + 1) m ∧ (if p k then f k else 0) + sm p f (k + 1) m ≤ _
    split <;> omega
theorem lsB_ok {ρ : RS} {l : Int} : ∀ (m k : Nat) (cur : Int), -1 ≤ cur → cur < k → -1 ≤ lsB ρ l k m cur ∧ lsB ρ l k m cur < ((k + m : Nat) : Int)
  | 0, k, cur, h1, h2 => ⟨h1, h2⟩
  | m + 1, k, cur, h1, h2 => by
    have := lsB_ok (ρ := ρ) (l := l) m (k + 1) (if ρ.2 10 0 k < l then k else cur) (by split <;> omega) (by split <;> omega)
    show -1 ≤ lsB ρ l (k + 1) m _ ∧ lsB ρ l (k + 1) m _ < _
    omega
def dMany (ρ : RS) (c : Int) : Nat := cnt (chg ρ c) 0 256
def dBlocks (ρ : RS) (c : Int) : Int := 2 + sm (chg ρ c) (nb ρ) 0 256 + pts (dMany ρ c) 31
theorem dB_ok {ρ : RS} (hT : TreeOk ρ) (c : Int) : 2 ≤ dBlocks ρ c ∧ dBlocks ρ c ≤ 4000 := by
  have h1 := sm_ok (p := chg ρ c) (f := nb ρ) (fun n hn => nb_ok hT hn) 256 0 (Nat.le_refl _)
  have h2 : dMany ρ c ≤ 256 := cnt_le _ _ _
  unfold dBlocks pts
  omega
section Rr13
variable {b L : Nat} {xs : Nat → Int32} {m0 : Nat} {h : AH} {ρ : RS}
set_option maxRecDepth 50000 in
theorem r_dump_1 (hb : b < m0) (hg : Rg ρ) (d : Nat) (hd : 3 ≤ d) {l : Int} (l1 : -2147483648 ≤ l) (l2 : l ≤ 2147483647) (hc : l < 0 ∨ 9 < l) : Wp b L xs d mi_122 0 (ent (mL mi_122) [.ref m0, vI l]) [] (RH m0 h ρ) (Rt (RH m0 h (upF ρ 0 1)) (vI 0)) := by
  by_cases q : l < 0
  · refine w_aload_n rfl rfl ?_
    refine w_iload_n rfl rfl ?_
    refine w_iflt_t rfl (by first | omega | exact (hg.2 _ _ _).1 | exact (hg.1 _).1 | (simp only [Int.toNat_natCast, upF_2] at *; omega)) (by first | omega | exact (hg.2 _ _ _).2 | exact (hg.1 _).2 | (simp only [Int.toNat_natCast, upF_2] at *; omega)) (by first | omega | (simp only [Int.toNat_natCast, upF_2] at *; omega)) ?_
    refine w_iconst rfl ?_
    refine w_goto rfl ?_
    refine w_iconst rfl ?_
    refine w_cvV rfl (by decide) (by first | omega | (simp only [Int.toNat_natCast, upF_2] at *; omega)) rfl RH_obj mt_112 (Nat.le_of_ble_eq_true rfl) (Nat.le_of_ble_eq_true rfl) (r_fails1 hb (by assumption) _) ?_
    refine w_ifeq_f rfl (by first | omega | exact (hg.2 _ _ _).1 | exact (hg.1 _).1 | (simp only [Int.toNat_natCast, upF_2] at *; omega)) (by first | omega | exact (hg.2 _ _ _).2 | exact (hg.1 _).2 | (simp only [Int.toNat_natCast, upF_2] at *; omega)) (by first | omega | (simp only [Int.toNat_natCast, upF_2] at *; omega)) ?_
    refine w_iconst rfl ?_
    refine w_ireturn rfl rfl ?_
    exact ⟨rfl, rfl⟩
  refine w_aload_n rfl rfl ?_
  refine w_iload_n rfl rfl ?_
  refine w_iflt_f rfl (by first | omega | exact (hg.2 _ _ _).1 | exact (hg.1 _).1 | (simp only [Int.toNat_natCast, upF_2] at *; omega)) (by first | omega | exact (hg.2 _ _ _).2 | exact (hg.1 _).2 | (simp only [Int.toNat_natCast, upF_2] at *; omega)) (by first | omega | (simp only [Int.toNat_natCast, upF_2] at *; omega)) ?_
  refine w_iload_n rfl rfl ?_
  refine w_bipush rfl rfl ?_
  refine w_icle_f rfl (by first | omega | exact (hg.2 _ _ _).1 | exact (hg.1 _).1 | (simp only [Int.toNat_natCast, upF_2] at *; omega)) (by first | omega | exact (hg.2 _ _ _).2 | exact (hg.1 _).2 | (simp only [Int.toNat_natCast, upF_2] at *; omega)) (by first | omega | exact (hg.2 _ _ _).1 | exact (hg.1 _).1 | (simp only [Int.toNat_natCast, upF_2] at *; omega)) (by first | omega | exact (hg.2 _ _ _).2 | exact (hg.1 _).2 | (simp only [Int.toNat_natCast, upF_2] at *; omega)) (by first | omega | (simp only [Int.toNat_natCast, upF_2] at *; omega)) ?_
  refine w_iconst rfl ?_
  refine w_goto rfl ?_
  refine w_iconst rfl ?_
  refine w_cvV rfl (by decide) (by first | omega | (simp only [Int.toNat_natCast, upF_2] at *; omega)) rfl RH_obj mt_112 (Nat.le_of_ble_eq_true rfl) (Nat.le_of_ble_eq_true rfl) (r_fails1 hb (by assumption) _) ?_
  refine w_ifeq_f rfl (by first | omega | exact (hg.2 _ _ _).1 | exact (hg.1 _).1 | (simp only [Int.toNat_natCast, upF_2] at *; omega)) (by first | omega | exact (hg.2 _ _ _).2 | exact (hg.1 _).2 | (simp only [Int.toNat_natCast, upF_2] at *; omega)) (by first | omega | (simp only [Int.toNat_natCast, upF_2] at *; omega)) ?_
  refine w_iconst rfl ?_
  refine w_ireturn rfl rfl ?_
  exact ⟨rfl, rfl⟩
set_option maxRecDepth 50000 in
theorem r_dump_l1 (hb : b < m0) (hg : Rg ρ) {Q : AH → RO → Prop} (d : Nat) {l c : Int} (l1 : -2147483648 ≤ l) (l2 : l ≤ 2147483647) {e : Nat} (he : ρ.1 16 = (e : Int)) (he2 : e ≤ 100) (kk : Wp b L xs d mi_122 64 [some (.ref m0), some (vI l), some (vI c), some (vI 0), some (vI 2), some (vI e)] [] (RH m0 h ρ) Q) : ∀ (m k : Nat) (cur : Int), k + m = e → lsB ρ l k m cur = c → Wp b L xs d mi_122 35 [some (.ref m0), some (vI l), some (vI cur), some (vI 0), some (vI 2), some (vI k)] [] (RH m0 h ρ) Q := by
  intro m
  induction m with
  | zero =>
    intro k cur hk hc
    obtain rfl : k = e := hk
    obtain rfl : cur = c := hc
    refine w_iload rfl rfl ?_
    refine w_aload_n rfl rfl ?_
    refine m_get rfl rfl ?_
    rw [he]
    refine w_icge_t rfl (by first | omega | exact (hg.2 _ _ _).1 | exact (hg.1 _).1 | (simp only [Int.toNat_natCast, upF_2] at *; omega)) (by first | omega | exact (hg.2 _ _ _).2 | exact (hg.1 _).2 | (simp only [Int.toNat_natCast, upF_2] at *; omega)) (by first | omega | exact (hg.2 _ _ _).1 | exact (hg.1 _).1 | (simp only [Int.toNat_natCast, upF_2] at *; omega)) (by first | omega | exact (hg.2 _ _ _).2 | exact (hg.1 _).2 | (simp only [Int.toNat_natCast, upF_2] at *; omega)) (by first | omega | (simp only [Int.toNat_natCast, upF_2] at *; omega)) ?_
    exact kk
  | succ m ih =>
    intro k cur hk hc
    have hc : lsB ρ l (k + 1) m (if ρ.2 10 0 k < l then k else cur) = c := hc
    refine w_iload rfl rfl ?_
    refine w_aload_n rfl rfl ?_
    refine m_get rfl rfl ?_
    rw [he]
    refine w_icge_f rfl (by first | omega | exact (hg.2 _ _ _).1 | exact (hg.1 _).1 | (simp only [Int.toNat_natCast, upF_2] at *; omega)) (by first | omega | exact (hg.2 _ _ _).2 | exact (hg.1 _).2 | (simp only [Int.toNat_natCast, upF_2] at *; omega)) (by first | omega | exact (hg.2 _ _ _).1 | exact (hg.1 _).1 | (simp only [Int.toNat_natCast, upF_2] at *; omega)) (by first | omega | exact (hg.2 _ _ _).2 | exact (hg.1 _).2 | (simp only [Int.toNat_natCast, upF_2] at *; omega)) (by first | omega | (simp only [Int.toNat_natCast, upF_2] at *; omega)) ?_
    refine w_aload_n rfl rfl ?_
    refine m_get rfl rfl ?_
    refine w_iload rfl rfl ?_
    refine m_iaload rfl hb rl_10 (by first | omega | (simp only [Int.toNat_natCast, upF_2] at *; omega)) (by first | omega | (simp only [Int.toNat_natCast, upF_2] at *; omega)) ?_
    refine w_iload_n rfl rfl ?_
    refine w_icge rfl (by first | omega | exact (hg.2 _ _ _).1 | exact (hg.1 _).1 | (simp only [Int.toNat_natCast, upF_2] at *; omega)) (by first | omega | exact (hg.2 _ _ _).2 | exact (hg.1 _).2 | (simp only [Int.toNat_natCast, upF_2] at *; omega)) (by first | omega | exact (hg.2 _ _ _).1 | exact (hg.1 _).1 | (simp only [Int.toNat_natCast, upF_2] at *; omega)) (by first | omega | exact (hg.2 _ _ _).2 | exact (hg.1 _).2 | (simp only [Int.toNat_natCast, upF_2] at *; omega)) (fun c1 => ?_) (fun c1 => ?_)
    · refine w_iinc rfl rfl (by decide) ?_
      refine w_goto rfl ?_
      rw [if_neg (by rw [Int.toNat_natCast] at c1; omega)] at hc
      exact ih (k + 1) cur (by omega) hc
    · refine w_iload rfl rfl ?_
      refine w_istore_n rfl (by decide) ?_
      refine w_iinc rfl rfl (by decide) ?_
      refine w_goto rfl ?_
      rw [if_pos (by rw [Int.toNat_natCast] at c1; omega)] at hc
      exact ih (k + 1) k (by omega) hc
set_option maxRecDepth 50000 in
theorem r_chg1 (hb : b < m0) (hg : Rg ρ) (d : Nat) {n : Nat} {c : Int} (hn : n < 256) (c1 : -1 ≤ c) (c2 : c < 100) (hc : chg ρ c n) : Wp b L xs d mi_123 0 (ent (mL mi_123) [.ref m0, vI n, vI c]) [] (RH m0 h ρ) (Rt (RH m0 h ρ) (vI 1)) := by
  have := r_chg (b := b) (L := L) (xs := xs) (h := h) hb hg d (n := (n : Int)) (c := c) (by omega) (by omega) c1 c2
  rw [Int.toNat_natCast, if_pos hc] at this
  exact this
set_option maxRecDepth 50000 in
theorem r_chg0 (hb : b < m0) (hg : Rg ρ) (d : Nat) {n : Nat} {c : Int} (hn : n < 256) (c1 : -1 ≤ c) (c2 : c < 100) (hc : ¬ chg ρ c n) : Wp b L xs d mi_123 0 (ent (mL mi_123) [.ref m0, vI n, vI c]) [] (RH m0 h ρ) (Rt (RH m0 h ρ) (vI 0)) := by
  have := r_chg (b := b) (L := L) (xs := xs) (h := h) hb hg d (n := (n : Int)) (c := c) (by omega) (by omega) c1 c2
  rw [Int.toNat_natCast, if_neg hc] at this
  exact this
set_option maxRecDepth 50000 in
theorem r_dump_l2 (hb : b < m0) (hg : Rg ρ) (hT : TreeOk ρ) {Q : AH → RO → Prop} (d : Nat) (hd : 1 ≤ d) {l c : Int} (c1 : -1 ≤ c) (c2 : c < 100) {M : Nat} {B : Int} (kk : Wp b L xs d mi_122 138 [some (.ref m0), some (vI l), some (vI c), some (vI M), some (vI B), some (vI 256)] [] (RH m0 h ρ) Q) : ∀ (m k a : Nat) (y : Int), k + m = 256 → a + cnt (chg ρ c) k m = M → y + sm (chg ρ c) (nb ρ) k m = B → Wp b L xs d mi_122 67 [some (.ref m0), some (vI l), some (vI c), some (vI a), some (vI y), some (vI k)] [] (RH m0 h ρ) Q := by
  intro m
  induction m with
  | zero =>
    intro k a y hk ha hy
    obtain rfl : k = 256 := hk
    obtain rfl : a = M := ha
    obtain rfl : y = B := by
      have hy : y + 0 = B := hy
      omega
    refine w_iload rfl rfl ?_
    refine w_sipush rfl rfl ?_
    refine w_icge_t rfl (by first | omega | exact (hg.2 _ _ _).1 | exact (hg.1 _).1 | (simp only [Int.toNat_natCast, upF_2] at *; omega)) (by first | omega | exact (hg.2 _ _ _).2 | exact (hg.1 _).2 | (simp only [Int.toNat_natCast, upF_2] at *; omega)) (by first | omega | exact (hg.2 _ _ _).1 | exact (hg.1 _).1 | (simp only [Int.toNat_natCast, upF_2] at *; omega)) (by first | omega | exact (hg.2 _ _ _).2 | exact (hg.1 _).2 | (simp only [Int.toNat_natCast, upF_2] at *; omega)) (by first | omega | (simp only [Int.toNat_natCast, upF_2] at *; omega)) ?_
    exact kk
  | succ m ih =>
    intro k a y hk ha hy
    have ha : a + ((if chg ρ c k then 1 else 0) + cnt (chg ρ c) (k + 1) m) = M := ha
    have hy : y + ((if chg ρ c k then nb ρ k else 0) + sm (chg ρ c) (nb ρ) (k + 1) m) = B := hy
    have hk2 := hT k (by omega)
    have hk3 : rEnt ρ k ≤ 255 := cnt_le _ _ _
    by_cases hc : chg ρ c k
    · rw [if_pos hc] at ha hy
      rw [show nb ρ k = 1 + (if ρ.2 1 0 k = 1 then pts (ρ.2 4 0 k) 64 else pts (rEnt ρ k) 21) from rfl] at hy
      by_cases q : ρ.2 1 0 k = 1
      · rw [if_pos q] at hy
        refine w_iload rfl rfl ?_
        refine w_sipush rfl rfl ?_
        refine w_icge_f rfl (by first | omega | exact (hg.2 _ _ _).1 | exact (hg.1 _).1 | (simp only [Int.toNat_natCast, upF_2] at *; omega)) (by first | omega | exact (hg.2 _ _ _).2 | exact (hg.1 _).2 | (simp only [Int.toNat_natCast, upF_2] at *; omega)) (by first | omega | exact (hg.2 _ _ _).1 | exact (hg.1 _).1 | (simp only [Int.toNat_natCast, upF_2] at *; omega)) (by first | omega | exact (hg.2 _ _ _).2 | exact (hg.1 _).2 | (simp only [Int.toNat_natCast, upF_2] at *; omega)) (by first | omega | (simp only [Int.toNat_natCast, upF_2] at *; omega)) ?_
        refine w_aload_n rfl rfl ?_
        refine w_iload rfl rfl ?_
        refine w_iload_n rfl rfl ?_
        refine w_cvV rfl (by decide) (by first | omega | (simp only [Int.toNat_natCast, upF_2] at *; omega)) rfl RH_obj mt_123 (Nat.le_of_ble_eq_true rfl) (Nat.le_of_ble_eq_true rfl) (r_chg1 hb hg _ (by omega) c1 c2 hc) ?_
        refine w_ifeq_f rfl (by first | omega | exact (hg.2 _ _ _).1 | exact (hg.1 _).1 | (simp only [Int.toNat_natCast, upF_2] at *; omega)) (by first | omega | exact (hg.2 _ _ _).2 | exact (hg.1 _).2 | (simp only [Int.toNat_natCast, upF_2] at *; omega)) (by first | omega | (simp only [Int.toNat_natCast, upF_2] at *; omega)) ?_
        refine w_iinc rfl rfl (by decide) ?_
        refine w_iload rfl rfl ?_
        refine w_iconst rfl ?_
        refine w_aload_n rfl rfl ?_
        refine m_get rfl rfl ?_
        refine w_iload rfl rfl ?_
        refine m_iaload rfl hb rl_1 (by first | omega | (simp only [Int.toNat_natCast, upF_2] at *; omega)) (by first | omega | (simp only [Int.toNat_natCast, upF_2] at *; omega)) ?_
        refine w_iconst rfl ?_
        refine w_icne_f rfl (by first | omega | exact (hg.2 _ _ _).1 | exact (hg.1 _).1 | (simp only [Int.toNat_natCast, upF_2] at *; omega)) (by first | omega | exact (hg.2 _ _ _).2 | exact (hg.1 _).2 | (simp only [Int.toNat_natCast, upF_2] at *; omega)) (by first | omega | exact (hg.2 _ _ _).1 | exact (hg.1 _).1 | (simp only [Int.toNat_natCast, upF_2] at *; omega)) (by first | omega | exact (hg.2 _ _ _).2 | exact (hg.1 _).2 | (simp only [Int.toNat_natCast, upF_2] at *; omega)) (by first | omega | (simp only [Int.toNat_natCast, upF_2] at *; omega)) ?_
        refine w_aload_n rfl rfl ?_
        refine m_get rfl rfl ?_
        refine w_iload rfl rfl ?_
        refine m_iaload rfl hb rl_4 (by first | omega | (simp only [Int.toNat_natCast, upF_2] at *; omega)) (by first | omega | (simp only [Int.toNat_natCast, upF_2] at *; omega)) ?_
        refine w_bipush rfl rfl ?_
        refine w_csV rfl (by decide) (by first | omega | (simp only [Int.toNat_natCast, upF_2] at *; omega)) rfl mt_124 (Nat.le_of_ble_eq_true rfl) (Nat.le_of_ble_eq_true rfl) (r_parts _ (by simp only [Int.toNat_natCast]; omega) (by simp only [Int.toNat_natCast]; omega) (by omega) (by omega)) ?_
        refine w_goto rfl ?_
        refine w_iadd rfl ?_
        refine w_iadd rfl ?_
        refine w_istore rfl (by decide) ?_
        refine w_iinc rfl rfl (by decide) ?_
        refine w_goto rfl ?_
        exact ih (k + 1) (a + 1) _ (by omega) (by omega) (by simp only [Int.toNat_natCast]; omega)
      · rw [if_neg q] at hy
        refine w_iload rfl rfl ?_
        refine w_sipush rfl rfl ?_
        refine w_icge_f rfl (by first | omega | exact (hg.2 _ _ _).1 | exact (hg.1 _).1 | (simp only [Int.toNat_natCast, upF_2] at *; omega)) (by first | omega | exact (hg.2 _ _ _).2 | exact (hg.1 _).2 | (simp only [Int.toNat_natCast, upF_2] at *; omega)) (by first | omega | exact (hg.2 _ _ _).1 | exact (hg.1 _).1 | (simp only [Int.toNat_natCast, upF_2] at *; omega)) (by first | omega | exact (hg.2 _ _ _).2 | exact (hg.1 _).2 | (simp only [Int.toNat_natCast, upF_2] at *; omega)) (by first | omega | (simp only [Int.toNat_natCast, upF_2] at *; omega)) ?_
        refine w_aload_n rfl rfl ?_
        refine w_iload rfl rfl ?_
        refine w_iload_n rfl rfl ?_
        refine w_cvV rfl (by decide) (by first | omega | (simp only [Int.toNat_natCast, upF_2] at *; omega)) rfl RH_obj mt_123 (Nat.le_of_ble_eq_true rfl) (Nat.le_of_ble_eq_true rfl) (r_chg1 hb hg _ (by omega) c1 c2 hc) ?_
        refine w_ifeq_f rfl (by first | omega | exact (hg.2 _ _ _).1 | exact (hg.1 _).1 | (simp only [Int.toNat_natCast, upF_2] at *; omega)) (by first | omega | exact (hg.2 _ _ _).2 | exact (hg.1 _).2 | (simp only [Int.toNat_natCast, upF_2] at *; omega)) (by first | omega | (simp only [Int.toNat_natCast, upF_2] at *; omega)) ?_
        refine w_iinc rfl rfl (by decide) ?_
        refine w_iload rfl rfl ?_
        refine w_iconst rfl ?_
        refine w_aload_n rfl rfl ?_
        refine m_get rfl rfl ?_
        refine w_iload rfl rfl ?_
        refine m_iaload rfl hb rl_1 (by first | omega | (simp only [Int.toNat_natCast, upF_2] at *; omega)) (by first | omega | (simp only [Int.toNat_natCast, upF_2] at *; omega)) ?_
        refine w_iconst rfl ?_
        refine w_icne_t rfl (by first | omega | exact (hg.2 _ _ _).1 | exact (hg.1 _).1 | (simp only [Int.toNat_natCast, upF_2] at *; omega)) (by first | omega | exact (hg.2 _ _ _).2 | exact (hg.1 _).2 | (simp only [Int.toNat_natCast, upF_2] at *; omega)) (by first | omega | exact (hg.2 _ _ _).1 | exact (hg.1 _).1 | (simp only [Int.toNat_natCast, upF_2] at *; omega)) (by first | omega | exact (hg.2 _ _ _).2 | exact (hg.1 _).2 | (simp only [Int.toNat_natCast, upF_2] at *; omega)) (by first | omega | (simp only [Int.toNat_natCast, upF_2] at *; omega)) ?_
        refine w_aload_n rfl rfl ?_
        refine w_iload rfl rfl ?_
        refine w_cvV rfl (by decide) (by first | omega | (simp only [Int.toNat_natCast, upF_2] at *; omega)) rfl RH_obj mt_121 (Nat.le_of_ble_eq_true rfl) (Nat.le_of_ble_eq_true rfl) (r_ent hb hg _ (by omega) (by omega)) ?_
        refine w_bipush rfl rfl ?_
        refine w_csV rfl (by decide) (by first | omega | (simp only [Int.toNat_natCast, upF_2] at *; omega)) rfl mt_124 (Nat.le_of_ble_eq_true rfl) (Nat.le_of_ble_eq_true rfl) (r_parts _ (by omega) (by omega) (by omega) (by omega)) ?_
        refine w_iadd rfl ?_
        refine w_iadd rfl ?_
        refine w_istore rfl (by decide) ?_
        refine w_iinc rfl rfl (by decide) ?_
        refine w_goto rfl ?_
        exact ih (k + 1) (a + 1) _ (by omega) (by omega) (by omega)
    · rw [if_neg hc] at ha hy
      refine w_iload rfl rfl ?_
      refine w_sipush rfl rfl ?_
      refine w_icge_f rfl (by first | omega | exact (hg.2 _ _ _).1 | exact (hg.1 _).1 | (simp only [Int.toNat_natCast, upF_2] at *; omega)) (by first | omega | exact (hg.2 _ _ _).2 | exact (hg.1 _).2 | (simp only [Int.toNat_natCast, upF_2] at *; omega)) (by first | omega | exact (hg.2 _ _ _).1 | exact (hg.1 _).1 | (simp only [Int.toNat_natCast, upF_2] at *; omega)) (by first | omega | exact (hg.2 _ _ _).2 | exact (hg.1 _).2 | (simp only [Int.toNat_natCast, upF_2] at *; omega)) (by first | omega | (simp only [Int.toNat_natCast, upF_2] at *; omega)) ?_
      refine w_aload_n rfl rfl ?_
      refine w_iload rfl rfl ?_
      refine w_iload_n rfl rfl ?_
      refine w_cvV rfl (by decide) (by first | omega | (simp only [Int.toNat_natCast, upF_2] at *; omega)) rfl RH_obj mt_123 (Nat.le_of_ble_eq_true rfl) (Nat.le_of_ble_eq_true rfl) (r_chg0 hb hg _ (by omega) c1 c2 hc) ?_
      refine w_ifeq_t rfl (by first | omega | exact (hg.2 _ _ _).1 | exact (hg.1 _).1 | (simp only [Int.toNat_natCast, upF_2] at *; omega)) (by first | omega | exact (hg.2 _ _ _).2 | exact (hg.1 _).2 | (simp only [Int.toNat_natCast, upF_2] at *; omega)) (by first | omega | (simp only [Int.toNat_natCast, upF_2] at *; omega)) ?_
      refine w_iinc rfl rfl (by decide) ?_
      refine w_goto rfl ?_
      exact ih (k + 1) a y (by omega) (by omega) (by omega)
set_option maxRecDepth 50000 in
theorem r_dump_pre (hb : b < m0) (hg : Rg ρ) (hT : TreeOk ρ) {Q : AH → RO → Prop} (d : Nat) (hd : 3 ≤ d) {l c : Int} (l1 : 0 ≤ l) (l2 : l ≤ 9) {e : Nat} (he : ρ.1 16 = (e : Int)) (he2 : e ≤ 100) (hc : lsB ρ l 0 e (-1) = c) (kk : Wp b L xs d mi_122 149 [some (.ref m0), some (vI l), some (vI c), some (vI (dMany ρ c)), some (vI (dBlocks ρ c)), some (vI 256)] [] (RH m0 h (upF ρ 0 0)) Q) : Wp b L xs d mi_122 0 (ent (mL mi_122) [.ref m0, vI l]) [] (RH m0 h ρ) Q := by
  have hg0 : Rg (upF ρ 0 0) := hg.upF 0 (by decide) (by decide)
  have hm : dMany ρ c ≤ 256 := cnt_le _ _ _
  have c12 := lsB_ok (ρ := ρ) (l := l) e 0 (-1) (by omega) (by omega)
  rw [hc] at c12
  have e0 : ∀ (m k : Nat) (cur : Int), lsB (upF ρ 0 0) l k m cur = lsB ρ l k m cur := by
    intro m
    induction m with
    | zero => intro k cur; rfl
    | succ m ih => intro k cur; exact ih _ _
  have e1 : ∀ (m k : Nat), sm (chg (upF ρ 0 0) c) (nb (upF ρ 0 0)) k m = sm (chg ρ c) (nb ρ) k m := by
    intro m
    induction m with
    | zero => intro k; rfl
    | succ m ih =>
      intro k
      show (if chg ρ c k then nb ρ k else 0) + sm (chg (upF ρ 0 0) c) (nb (upF ρ 0 0)) (k + 1) m = (if chg ρ c k then nb ρ k else 0) + sm (chg ρ c) (nb ρ) (k + 1) m
      rw [ih]
  have e2 : ∀ (m k : Nat), cnt (chg (upF ρ 0 0) c) k m = cnt (chg ρ c) k m := by
    intro m
    induction m with
    | zero => intro k; rfl
    | succ m ih =>
      intro k
      show (if chg ρ c k then 1 else 0) + cnt (chg (upF ρ 0 0) c) (k + 1) m = (if chg ρ c k then 1 else 0) + cnt (chg ρ c) (k + 1) m
      rw [ih]
  refine w_aload_n rfl rfl ?_
  refine w_iload_n rfl rfl ?_
  refine w_iflt_f rfl (by first | omega | exact (hg.2 _ _ _).1 | exact (hg.1 _).1 | (simp only [Int.toNat_natCast, upF_2] at *; omega)) (by first | omega | exact (hg.2 _ _ _).2 | exact (hg.1 _).2 | (simp only [Int.toNat_natCast, upF_2] at *; omega)) (by first | omega | (simp only [Int.toNat_natCast, upF_2] at *; omega)) ?_
  refine w_iload_n rfl rfl ?_
  refine w_bipush rfl rfl ?_
  refine w_icle_t rfl (by first | omega | exact (hg.2 _ _ _).1 | exact (hg.1 _).1 | (simp only [Int.toNat_natCast, upF_2] at *; omega)) (by first | omega | exact (hg.2 _ _ _).2 | exact (hg.1 _).2 | (simp only [Int.toNat_natCast, upF_2] at *; omega)) (by first | omega | exact (hg.2 _ _ _).1 | exact (hg.1 _).1 | (simp only [Int.toNat_natCast, upF_2] at *; omega)) (by first | omega | exact (hg.2 _ _ _).2 | exact (hg.1 _).2 | (simp only [Int.toNat_natCast, upF_2] at *; omega)) (by first | omega | (simp only [Int.toNat_natCast, upF_2] at *; omega)) ?_
  refine w_iconst rfl ?_
  refine w_iconst rfl ?_
  refine w_cvV rfl (by decide) (by first | omega | (simp only [Int.toNat_natCast, upF_2] at *; omega)) rfl RH_obj mt_112 (Nat.le_of_ble_eq_true rfl) (Nat.le_of_ble_eq_true rfl) (r_fails0 hb (by assumption) _) ?_
  refine w_ifeq_t rfl (by first | omega | exact (hg.2 _ _ _).1 | exact (hg.1 _).1 | (simp only [Int.toNat_natCast, upF_2] at *; omega)) (by first | omega | exact (hg.2 _ _ _).2 | exact (hg.1 _).2 | (simp only [Int.toNat_natCast, upF_2] at *; omega)) (by first | omega | (simp only [Int.toNat_natCast, upF_2] at *; omega)) ?_
  refine w_iconst rfl ?_
  refine w_istore_n rfl (by decide) ?_
  refine w_iconst rfl ?_
  refine w_istore_n rfl (by decide) ?_
  refine w_iconst rfl ?_
  refine w_istore rfl (by decide) ?_
  refine w_iconst rfl ?_
  refine w_istore rfl (by decide) ?_
  refine r_dump_l1 (ρ := upF ρ 0 0) (c := c) hb hg0 d (by omega) (by omega) he he2 ?_ e 0 (-1) (Nat.zero_add _) (by rw [e0]; exact hc)
  refine w_iconst rfl ?_
  refine w_istore rfl (by decide) ?_
  refine r_dump_l2 (ρ := upF ρ 0 0) (c := c) hb hg0 hT d (by omega) (M := dMany ρ c) (B := 2 + sm (chg ρ c) (nb ρ) 0 256) (by omega) (by omega) ?_ 256 0 0 2 rfl (by rw [e2, Nat.zero_add]; rfl) (by rw [e1])
  refine w_iload rfl rfl ?_
  refine w_iload_n rfl rfl ?_
  refine w_bipush rfl rfl ?_
  refine w_csV rfl (by decide) (by first | omega | (simp only [Int.toNat_natCast, upF_2] at *; omega)) rfl mt_124 (Nat.le_of_ble_eq_true rfl) (Nat.le_of_ble_eq_true rfl) (r_parts _ (by omega) (by omega) (by omega) (by omega)) ?_
  refine w_iadd rfl ?_
  refine w_istore rfl (by decide) ?_
  exact kk
set_option maxRecDepth 50000 in
theorem r_dump_2 (hb : b < m0) (hg : Rg ρ) (hT : TreeOk ρ) (d : Nat) (hd : 3 ≤ d) {l c : Int} (l1 : 0 ≤ l) (l2 : l ≤ 9) {e : Nat} (he : ρ.1 16 = (e : Int)) (he2 : e ≤ 100) (hc : lsB ρ l 0 e (-1) = c) (k1 : 4 ≤ ρ.1 8) (k2 : ρ.1 8 ≤ 1000) (w1 : 0 ≤ ρ.1 9) (w2 : ρ.1 9 ≤ 4000) (hx : e = 100 ∨ 4000 < ρ.1 9 + dBlocks ρ c + pts (ρ.1 9 + dBlocks ρ c) (ρ.1 8 - 1)) : Wp b L xs d mi_122 0 (ent (mL mi_122) [.ref m0, vI l]) [] (RH m0 h ρ) (Rt (RH m0 h (upF ρ 0 2)) (vI 0)) := by
  refine r_dump_pre hb hg hT d hd l1 l2 he he2 hc ?_
  have hg0 : Rg (upF ρ 0 0) := hg.upF 0 (by decide) (by decide)
  have e16 : (upF ρ 0 0).1 16 = (e : Int) := he
  have e8 : (upF ρ 0 0).1 8 = ρ.1 8 := rfl
  have e9 : (upF ρ 0 0).1 9 = ρ.1 9 := rfl
  have hB := dB_ok hT c
  have hP : 0 ≤ pts (ρ.1 9 + dBlocks ρ c) (ρ.1 8 - 1) := Int.ediv_nonneg (by omega) (by omega)
  have hP2 : pts (ρ.1 9 + dBlocks ρ c) (ρ.1 8 - 1) ≤ 10000 := by
    unfold pts
    exact Int.le_trans (Int.ediv_le_self _ (by omega)) (by omega)
  by_cases q : e = 100
  · refine w_aload_n rfl rfl ?_
    refine w_aload_n rfl rfl ?_
    refine m_get rfl rfl ?_
    rw [e16]
    refine w_bipush rfl rfl ?_
    refine w_iceq_t rfl (by first | omega | exact (hg.2 _ _ _).1 | exact (hg.1 _).1 | (simp only [Int.toNat_natCast, upF_2] at *; omega)) (by first | omega | exact (hg.2 _ _ _).2 | exact (hg.1 _).2 | (simp only [Int.toNat_natCast, upF_2] at *; omega)) (by first | omega | exact (hg.2 _ _ _).1 | exact (hg.1 _).1 | (simp only [Int.toNat_natCast, upF_2] at *; omega)) (by first | omega | exact (hg.2 _ _ _).2 | exact (hg.1 _).2 | (simp only [Int.toNat_natCast, upF_2] at *; omega)) (by first | omega | (simp only [Int.toNat_natCast, upF_2] at *; omega)) ?_
    refine w_iconst rfl ?_
    refine w_goto rfl ?_
    refine w_iconst rfl ?_
    refine w_cvV rfl (by decide) (by first | omega | (simp only [Int.toNat_natCast, upF_2] at *; omega)) rfl RH_obj mt_112 (Nat.le_of_ble_eq_true rfl) (Nat.le_of_ble_eq_true rfl) (r_fails1 hb (by assumption) _) ?_
    rw [upF_upF]
    refine w_ifeq_f rfl (by first | omega | exact (hg.2 _ _ _).1 | exact (hg.1 _).1 | (simp only [Int.toNat_natCast, upF_2] at *; omega)) (by first | omega | exact (hg.2 _ _ _).2 | exact (hg.1 _).2 | (simp only [Int.toNat_natCast, upF_2] at *; omega)) (by first | omega | (simp only [Int.toNat_natCast, upF_2] at *; omega)) ?_
    refine w_iconst rfl ?_
    refine w_ireturn rfl rfl ?_
    exact ⟨rfl, rfl⟩
  refine w_aload_n rfl rfl ?_
  refine w_aload_n rfl rfl ?_
  refine m_get rfl rfl ?_
  rw [e16]
  refine w_bipush rfl rfl ?_
  refine w_iceq_f rfl (by first | omega | exact (hg.2 _ _ _).1 | exact (hg.1 _).1 | (simp only [Int.toNat_natCast, upF_2] at *; omega)) (by first | omega | exact (hg.2 _ _ _).2 | exact (hg.1 _).2 | (simp only [Int.toNat_natCast, upF_2] at *; omega)) (by first | omega | exact (hg.2 _ _ _).1 | exact (hg.1 _).1 | (simp only [Int.toNat_natCast, upF_2] at *; omega)) (by first | omega | exact (hg.2 _ _ _).2 | exact (hg.1 _).2 | (simp only [Int.toNat_natCast, upF_2] at *; omega)) (by first | omega | (simp only [Int.toNat_natCast, upF_2] at *; omega)) ?_
  refine w_aload_n rfl rfl ?_
  refine m_get rfl rfl ?_
  rw [e9]
  refine w_iload rfl rfl ?_
  refine w_iadd rfl ?_
  refine w_aload_n rfl rfl ?_
  refine m_get rfl rfl ?_
  rw [e8]
  refine w_csV rfl (by decide) (by first | omega | (simp only [Int.toNat_natCast, upF_2] at *; omega)) rfl mt_125 (Nat.le_of_ble_eq_true rfl) (Nat.le_of_ble_eq_true rfl) (r_all _ (by omega) (by omega) (by omega) (by omega) (by omega)) ?_
  refine w_sipush rfl rfl ?_
  refine w_icle_f rfl (by first | omega | exact (hg.2 _ _ _).1 | exact (hg.1 _).1 | (simp only [Int.toNat_natCast, upF_2] at *; omega)) (by first | omega | exact (hg.2 _ _ _).2 | exact (hg.1 _).2 | (simp only [Int.toNat_natCast, upF_2] at *; omega)) (by first | omega | exact (hg.2 _ _ _).1 | exact (hg.1 _).1 | (simp only [Int.toNat_natCast, upF_2] at *; omega)) (by first | omega | exact (hg.2 _ _ _).2 | exact (hg.1 _).2 | (simp only [Int.toNat_natCast, upF_2] at *; omega)) (by first | omega | (simp only [Int.toNat_natCast, upF_2] at *; omega)) ?_
  refine w_iconst rfl ?_
  refine w_goto rfl ?_
  refine w_iconst rfl ?_
  refine w_cvV rfl (by decide) (by first | omega | (simp only [Int.toNat_natCast, upF_2] at *; omega)) rfl RH_obj mt_112 (Nat.le_of_ble_eq_true rfl) (Nat.le_of_ble_eq_true rfl) (r_fails1 hb (by assumption) _) ?_
  rw [upF_upF]
  refine w_ifeq_f rfl (by first | omega | exact (hg.2 _ _ _).1 | exact (hg.1 _).1 | (simp only [Int.toNat_natCast, upF_2] at *; omega)) (by first | omega | exact (hg.2 _ _ _).2 | exact (hg.1 _).2 | (simp only [Int.toNat_natCast, upF_2] at *; omega)) (by first | omega | (simp only [Int.toNat_natCast, upF_2] at *; omega)) ?_
  refine w_iconst rfl ?_
  refine w_ireturn rfl rfl ?_
  exact ⟨rfl, rfl⟩
end Rr13
