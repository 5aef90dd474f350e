/-! the reference's blocks: what make(k) and node(d, k) lay -/
def orI (x y : Int) : Int := ((x.toNat ||| y.toNat : Nat) : Int)
def cont (ρ : RS) (r : Nat) : Int := pts (ρ.2 21 0 r) (if ρ.2 18 0 r = 1 then 64 else 21)
def sumC (ρ : RS) : Nat → Nat → Int
  | _, 0 => 0
  | s, m + 1 => 1 + cont ρ s + sumC ρ (s + 1) m
def RecOk (ρ : RS) (r : Nat) : Prop := 0 ≤ ρ.2 17 0 r ∧ ρ.2 17 0 r < 256 ∧ (ρ.2 18 0 r = 1 ∨ ρ.2 18 0 r = 2) ∧ 0 ≤ ρ.2 19 0 r ∧ ρ.2 19 0 r ≤ 30000 ∧ 0 ≤ ρ.2 20 0 r ∧ ρ.2 20 0 r < 256 ∧ 0 ≤ ρ.2 21 0 r ∧ ρ.2 21 0 r ≤ 512 ∧ 0 ≤ ρ.2 22 0 r ∧ ρ.2 22 0 r ≤ 100000 ∧ 0 ≤ ρ.2 23 0 r ∧ (ρ.2 18 0 r = 1 → ρ.2 23 0 r + ρ.2 21 0 r ≤ 256000) ∧ (ρ.2 18 0 r = 2 → ρ.2 23 0 r + ρ.2 21 0 r ≤ 84000 ∧ ρ.2 21 0 r ≤ 255)
def EntOk (ρ : RS) : Prop := ∀ k : Nat, 0 ≤ ρ.2 25 0 k ∧ ρ.2 25 0 k ≤ 30000 ∧ 0 ≤ ρ.2 26 0 k ∧ ρ.2 26 0 k < 256
theorem cont_ok {ρ : RS} {r : Nat} (h : RecOk ρ r) : 0 ≤ cont ρ r ∧ cont ρ r ≤ 13 := by
  obtain ⟨-, -, h3, -, -, -, -, h8, h9, -, -, -, -, h14⟩ := h
  unfold cont pts
  rcases h3 with h3 | h3
  · rw [if_pos h3]
    omega
  · have := (h14 h3).2
    rw [if_neg (by omega)]
    omega
def zB : Nat → Int := fun _ => 0
def hdB (ρ : RS) (e : Nat) : Nat → Int := putK (putK (putK (putK (putK (putK zB 0 72 1) 1 (ρ.2 10 0 e) 1) 2 e 2) 4 (ρ.2 11 0 e) 4) 8 (ρ.2 12 0 e + 1) 2) 10 (ρ.2 14 0 (e + 1) - ρ.2 14 0 e) 2
def mpB (t : Nat → Prop) [DecidablePred t] : (Nat → Int) → Nat → Nat → (Nat → Int)
  | B, _, 0 => B
  | B, k, m + 1 => mpB t (if t k then upB B (1 + k / 8) (orI (B (1 + k / 8)) (2 ^ (7 - k % 8))) else B) (k + 1) m
def ixB (ρ : RS) : (Nat → Int) → Nat → Nat → Nat → (Nat → Int)
  | B, _, _, 0 => B
  | B, f, r, m + 1 => ixB ρ (putK (putK B f (ρ.2 17 0 r) 1) (f + 1) (1 + cont ρ r) 1) (f + 2) (r + 1) m
def fcB (ρ : RS) (r : Nat) : Nat → Int := putK (putK (putK (putK (putK (putK (putK zB 0 78 1) 1 (ρ.2 17 0 r) 1) 2 (ρ.2 18 0 r) 1) 3 (ρ.2 19 0 r) 2) 5 (ρ.2 20 0 r) 1) 6 (ρ.2 21 0 r) 2) 8 (ρ.2 22 0 r) 4
def ocB (g : Nat → Int) : (Nat → Int) → Nat → Nat → Nat → (Nat → Int)
  | B, _, _, 0 => B
  | B, f, k, m + 1 => ocB g (putK B f (g k) 1) (f + 1) (k + 1) m
def enB (g1 g2 : Nat → Int) : (Nat → Int) → Nat → Nat → Nat → (Nat → Int)
  | B, _, _, 0 => B
  | B, f, k, m + 1 => enB g1 g2 (putK (putK B f (g1 k) 2) (f + 2) (g2 k) 1) (f + 3) (k + 1) m
section Rr7
variable {b L : Nat} {xs : Nat → Int32} {m0 : Nat} {h : AH} {ρ : RS}
theorem r_contB (hb : b < m0) (hg : Rg ρ) (d : Nat) (hd : 1 ≤ d) {f : Nat} {B : Nat → Int} {r : Nat} (hr : r < 4000) (ho : RecOk ρ r) : Wp b L xs d mi_135 0 (ent (mL mi_135) [.ref m0, vI r]) [] (RH m0 h (bk ρ f B)) (Rt (RH m0 h (bk ρ f B)) (vI (cont ρ r))) := by
  obtain ⟨-, -, h3, -, -, -, -, h8, h9, -, -, -, -, h14⟩ := ho
  unfold cont
  refine w_aload_n rfl rfl ?_
  refine m_get rfl rfl ?_
  refine w_iload_n rfl rfl ?_
  refine m_iaload rfl hb rl_21 (by first | omega | (simp only [Int.toNat_natCast, upF_2] at *; omega)) (by first | omega | (simp only [Int.toNat_natCast, upF_2] at *; omega)) ?_
  rw [bk_a _ _ _ (by decide), Int.toNat_natCast]
  refine w_aload_n rfl rfl ?_
  refine m_get rfl rfl ?_
  refine w_iload_n rfl rfl ?_
  refine m_iaload rfl hb rl_18 (by first | omega | (simp only [Int.toNat_natCast, upF_2] at *; omega)) (by first | omega | (simp only [Int.toNat_natCast, upF_2] at *; omega)) ?_
  rw [bk_a _ _ _ (by decide), Int.toNat_natCast]
  refine w_iconst rfl ?_
  refine w_icne rfl (by first | omega | exact (hg.2 _ _ _).1 | exact (hg.1 _).1 | (simp only [Int.toNat_natCast, upF_2] at *; omega)) (by first | omega | exact (hg.2 _ _ _).2 | exact (hg.1 _).2 | (simp only [Int.toNat_natCast, upF_2] at *; omega)) (by first | omega | exact (hg.2 _ _ _).1 | exact (hg.1 _).1 | (simp only [Int.toNat_natCast, upF_2] at *; omega)) (by first | omega | exact (hg.2 _ _ _).2 | exact (hg.1 _).2 | (simp only [Int.toNat_natCast, upF_2] at *; omega)) (fun c1 => ?_) (fun c1 => ?_)
  · rw [if_neg c1]
    refine w_bipush rfl rfl ?_
    refine w_csV rfl (by decide) (by first | omega | (simp only [Int.toNat_natCast, upF_2] at *; omega)) rfl mt_124 (Nat.le_of_ble_eq_true rfl) (Nat.le_of_ble_eq_true rfl) (r_parts _ (by omega) (by omega) (by omega) (by omega)) ?_
    refine w_ireturn rfl rfl ?_
    exact ⟨rfl, rfl⟩
  · rw [if_pos (by omega)]
    refine w_bipush rfl rfl ?_
    refine w_goto rfl ?_
    refine w_csV rfl (by decide) (by first | omega | (simp only [Int.toNat_natCast, upF_2] at *; omega)) rfl mt_124 (Nat.le_of_ble_eq_true rfl) (Nat.le_of_ble_eq_true rfl) (r_parts _ (by omega) (by omega) (by omega) (by omega)) ?_
    refine w_ireturn rfl rfl ?_
    exact ⟨rfl, rfl⟩
theorem r_manyB (hb : b < m0) (hg : Rg ρ) (d : Nat) {f : Nat} {B : Nat → Int} {e : Nat} (he : e < 100) : Wp b L xs d mi_133 0 (ent (mL mi_133) [.ref m0, vI e]) [] (RH m0 h (bk ρ f B)) (Rt (RH m0 h (bk ρ f B)) (vI (ρ.2 14 0 (e + 1) - ρ.2 14 0 e))) := by
  have e1 : ((e : Int) + 1).toNat = e + 1 := by omega
  refine w_aload_n rfl rfl ?_
  refine m_get rfl rfl ?_
  refine w_iload_n rfl rfl ?_
  refine w_iconst rfl ?_
  refine w_iadd rfl ?_
  refine m_iaload rfl hb rl_14 (by first | omega | (simp only [Int.toNat_natCast, upF_2] at *; omega)) (by first | omega | (simp only [Int.toNat_natCast, upF_2] at *; omega)) ?_
  rw [bk_a _ _ _ (by decide), e1]
  refine w_aload_n rfl rfl ?_
  refine m_get rfl rfl ?_
  refine w_iload_n rfl rfl ?_
  refine m_iaload rfl hb rl_14 (by first | omega | (simp only [Int.toNat_natCast, upF_2] at *; omega)) (by first | omega | (simp only [Int.toNat_natCast, upF_2] at *; omega)) ?_
  rw [bk_a _ _ _ (by decide), Int.toNat_natCast]
  refine w_isub rfl ?_
  refine w_ireturn rfl rfl ?_
  exact ⟨rfl, rfl⟩
theorem r_idxB (hb : b < m0) (hg : Rg ρ) (d : Nat) (hd : 2 ≤ d) {f : Nat} {B : Nat → Int} {e : Nat} (he : e < 100) (n3 : 0 ≤ ρ.2 14 0 (e + 1) - ρ.2 14 0 e) (n4 : ρ.2 14 0 (e + 1) - ρ.2 14 0 e ≤ 100000) : Wp b L xs d mi_134 0 (ent (mL mi_134) [.ref m0, vI e]) [] (RH m0 h (bk ρ f B)) (Rt (RH m0 h (bk ρ f B)) (vI (pts (ρ.2 14 0 (e + 1) - ρ.2 14 0 e) 31))) := by
  refine w_aload_n rfl rfl ?_
  refine w_iload_n rfl rfl ?_
  refine w_cvV rfl (by decide) (by first | omega | (simp only [Int.toNat_natCast, upF_2] at *; omega)) rfl RH_obj mt_133 (Nat.le_of_ble_eq_true rfl) (Nat.le_of_ble_eq_true rfl) (r_manyB hb hg _ he) ?_
  refine w_bipush rfl rfl ?_
  refine w_csV rfl (by decide) (by first | omega | (simp only [Int.toNat_natCast, upF_2] at *; omega)) rfl mt_124 (Nat.le_of_ble_eq_true rfl) (Nat.le_of_ble_eq_true rfl) (r_parts _ (by omega) (by omega) (by omega) (by omega)) ?_
  refine w_ireturn rfl rfl ?_
  exact ⟨rfl, rfl⟩
theorem r_nd_s (hb : b < m0) (hg : Rg ρ) {Q : AH → RO → Prop} (d : Nat) (hd : 2 ≤ d) {e g : Int} {f r : Nat} {c : Int} {B : Nat → Int} (hr : r < 4000) (hc : 0 ≤ c) (hc2 : c ≤ cont ρ r) (kk : Wp b L xs d mi_136 38 [some (.ref m0), some (vI e), some (vI g), some (vI r), some (vI c), none] [] (RH m0 h (bk ρ f B)) Q) : ∀ m s : Nat, s + m = r → (∀ j, s ≤ j → j ≤ r → RecOk ρ j) → 0 ≤ sumC ρ s m + c → sumC ρ s m + c ≤ 100000000 → Wp b L xs d mi_136 10 [some (.ref m0), some (vI e), some (vI g), some (vI s), some (vI (sumC ρ s m + c)), none] [] (RH m0 h (bk ρ f B)) Q := by
  intro m
  induction m with
  | zero =>
    intro s hs ho q1 q2
    obtain rfl : s = r := hs
    have hs := ho s (Nat.le_refl _) (Nat.le_refl _)
    have h1 := cont_ok hs
    have e0 : sumC ρ s 0 + c = c := by
      show (0 : Int) + c = c
      omega
    rw [e0]
    refine w_iload rfl rfl ?_
    refine w_aload_n rfl rfl ?_
    refine w_iload_n rfl rfl ?_
    refine w_cvV rfl (by decide) (by first | omega | (simp only [Int.toNat_natCast, upF_2] at *; omega)) rfl RH_obj mt_135 (Nat.le_of_ble_eq_true rfl) (Nat.le_of_ble_eq_true rfl) (r_contB hb hg _ (by omega) hr hs) ?_
    refine w_icle_t rfl (by first | omega | exact (hg.2 _ _ _).1 | exact (hg.1 _).1 | (simp only [Int.toNat_natCast, upF_2] at *; omega)) (by first | omega | exact (hg.2 _ _ _).2 | exact (hg.1 _).2 | (simp only [Int.toNat_natCast, upF_2] at *; omega)) (by first | omega | exact (hg.2 _ _ _).1 | exact (hg.1 _).1 | (simp only [Int.toNat_natCast, upF_2] at *; omega)) (by first | omega | exact (hg.2 _ _ _).2 | exact (hg.1 _).2 | (simp only [Int.toNat_natCast, upF_2] at *; omega)) (by first | omega | (simp only [Int.toNat_natCast, upF_2] at *; omega)) ?_
    exact kk
  | succ m ih =>
    intro s hs ho q1 q2
    have hs2 := ho s (Nat.le_refl _) (by omega)
    have h1 := cont_ok hs2
    have e0 : sumC ρ s (m + 1) = 1 + cont ρ s + sumC ρ (s + 1) m := rfl
    have sp : ∀ m s, (∀ j, s ≤ j → j < s + m → RecOk ρ j) → 0 ≤ sumC ρ s m := by
      intro m
      induction m with
      | zero => intro s _; exact Int.le_refl _
      | succ m ih =>
        intro s hj
        have h2 := cont_ok (hj s (Nat.le_refl _) (by omega))
        have h3 := ih (s + 1) (fun j a b => hj j (by omega) (by omega))
        show 0 ≤ 1 + cont ρ s + sumC ρ (s + 1) m
        omega
    have s1 := sp m (s + 1) (fun j a b => ho j (by omega) (by omega))
    rw [e0] at q1 q2 ⊢
    refine w_iload rfl rfl ?_
    refine w_aload_n rfl rfl ?_
    refine w_iload_n rfl rfl ?_
    refine w_cvV rfl (by decide) (by first | omega | (simp only [Int.toNat_natCast, upF_2] at *; omega)) rfl RH_obj mt_135 (Nat.le_of_ble_eq_true rfl) (Nat.le_of_ble_eq_true rfl) (r_contB hb hg _ (by omega) (by omega) hs2) ?_
    refine w_icle_f rfl (by first | omega | exact (hg.2 _ _ _).1 | exact (hg.1 _).1 | (simp only [Int.toNat_natCast, upF_2] at *; omega)) (by first | omega | exact (hg.2 _ _ _).2 | exact (hg.1 _).2 | (simp only [Int.toNat_natCast, upF_2] at *; omega)) (by first | omega | exact (hg.2 _ _ _).1 | exact (hg.1 _).1 | (simp only [Int.toNat_natCast, upF_2] at *; omega)) (by first | omega | exact (hg.2 _ _ _).2 | exact (hg.1 _).2 | (simp only [Int.toNat_natCast, upF_2] at *; omega)) (by first | omega | (simp only [Int.toNat_natCast, upF_2] at *; omega)) ?_
    refine w_iload rfl rfl ?_
    refine w_iconst rfl ?_
    refine w_aload_n rfl rfl ?_
    refine w_iload_n rfl rfl ?_
    refine w_iinc rfl rfl (by decide) ?_
    refine w_cvV rfl (by decide) (by first | omega | (simp only [Int.toNat_natCast, upF_2] at *; omega)) rfl RH_obj mt_135 (Nat.le_of_ble_eq_true rfl) (Nat.le_of_ble_eq_true rfl) (r_contB hb hg _ (by omega) (by omega) hs2) ?_
    refine w_iadd rfl ?_
    refine w_isub rfl ?_
    refine w_istore rfl (by decide) ?_
    refine w_goto rfl ?_
    rw [show 1 + cont ρ s + sumC ρ (s + 1) m + c - (1 + cont ρ s) = sumC ρ (s + 1) m + c by omega]
    exact ih (s + 1) (by omega) (fun j a b => ho j (by omega) b) (by omega) (by omega)
theorem r_nd_f (hb : b < m0) (hg : Rg ρ) (d : Nat) (hd : 2 ≤ d) {e g : Int} {r : Nat} (hr : r < 4000) (ho : RecOk ρ r) : Wp b L xs d mi_136 38 [some (.ref m0), some (vI e), some (vI g), some (vI r), some (vI 0), none] [] (RH m0 h (bk ρ 0 zB)) (Rn (RH m0 h (bk ρ 12 (fcB ρ r)))) := by
  obtain ⟨o1, o2, o3, o4, o5, o6, o7, o8, o9, o10, o11, o12, o13, o14⟩ := ho
  refine w_iload rfl rfl ?_
  refine w_ifne_f rfl (by first | omega | exact (hg.2 _ _ _).1 | exact (hg.1 _).1 | (simp only [Int.toNat_natCast, upF_2] at *; omega)) (by first | omega | exact (hg.2 _ _ _).2 | exact (hg.1 _).2 | (simp only [Int.toNat_natCast, upF_2] at *; omega)) (by first | omega | (simp only [Int.toNat_natCast, upF_2] at *; omega)) ?_
  refine w_aload_n rfl rfl ?_
  refine w_bipush rfl rfl ?_
  refine w_iconst rfl ?_
  refine w_cvN rfl (by decide) (by first | omega | (simp only [Int.toNat_natCast, upF_2] at *; omega)) rfl RH_obj mt_131 (Nat.le_of_ble_eq_true rfl) (Nat.le_of_ble_eq_true rfl) (r_put hb _ (by omega) (by omega) 1 (by decide) (by omega)) ?_
  refine w_aload_n rfl rfl ?_
  refine w_aload_n rfl rfl ?_
  refine m_get rfl rfl ?_
  refine w_iload_n rfl rfl ?_
  refine m_iaload rfl hb rl_17 (by first | omega | (simp only [Int.toNat_natCast, upF_2] at *; omega)) (by first | omega | (simp only [Int.toNat_natCast, upF_2] at *; omega)) ?_
  rw [bk_a _ _ _ (by decide), Int.toNat_natCast]
  refine w_iconst rfl ?_
  refine w_cvN rfl (by decide) (by first | omega | (simp only [Int.toNat_natCast, upF_2] at *; omega)) rfl RH_obj mt_131 (Nat.le_of_ble_eq_true rfl) (Nat.le_of_ble_eq_true rfl) (r_put hb _ (by omega) (by omega) 1 (by decide) (by omega)) ?_
  refine w_aload_n rfl rfl ?_
  refine w_aload_n rfl rfl ?_
  refine m_get rfl rfl ?_
  refine w_iload_n rfl rfl ?_
  refine m_iaload rfl hb rl_18 (by first | omega | (simp only [Int.toNat_natCast, upF_2] at *; omega)) (by first | omega | (simp only [Int.toNat_natCast, upF_2] at *; omega)) ?_
  rw [bk_a _ _ _ (by decide), Int.toNat_natCast]
  refine w_iconst rfl ?_
  refine w_cvN rfl (by decide) (by first | omega | (simp only [Int.toNat_natCast, upF_2] at *; omega)) rfl RH_obj mt_131 (Nat.le_of_ble_eq_true rfl) (Nat.le_of_ble_eq_true rfl) (r_put hb _ (by omega) (by omega) 1 (by decide) (by omega)) ?_
  refine w_aload_n rfl rfl ?_
  refine w_aload_n rfl rfl ?_
  refine m_get rfl rfl ?_
  refine w_iload_n rfl rfl ?_
  refine m_iaload rfl hb rl_19 (by first | omega | (simp only [Int.toNat_natCast, upF_2] at *; omega)) (by first | omega | (simp only [Int.toNat_natCast, upF_2] at *; omega)) ?_
  rw [bk_a _ _ _ (by decide), Int.toNat_natCast]
  refine w_iconst rfl ?_
  refine w_cvN rfl (by decide) (by first | omega | (simp only [Int.toNat_natCast, upF_2] at *; omega)) rfl RH_obj mt_131 (Nat.le_of_ble_eq_true rfl) (Nat.le_of_ble_eq_true rfl) (r_put hb _ (by omega) (by omega) 2 (by decide) (by omega)) ?_
  refine w_aload_n rfl rfl ?_
  refine w_aload_n rfl rfl ?_
  refine m_get rfl rfl ?_
  refine w_iload_n rfl rfl ?_
  refine m_iaload rfl hb rl_20 (by first | omega | (simp only [Int.toNat_natCast, upF_2] at *; omega)) (by first | omega | (simp only [Int.toNat_natCast, upF_2] at *; omega)) ?_
  rw [bk_a _ _ _ (by decide), Int.toNat_natCast]
  refine w_iconst rfl ?_
  refine w_cvN rfl (by decide) (by first | omega | (simp only [Int.toNat_natCast, upF_2] at *; omega)) rfl RH_obj mt_131 (Nat.le_of_ble_eq_true rfl) (Nat.le_of_ble_eq_true rfl) (r_put hb _ (by omega) (by omega) 1 (by decide) (by omega)) ?_
  refine w_aload_n rfl rfl ?_
  refine w_aload_n rfl rfl ?_
  refine m_get rfl rfl ?_
  refine w_iload_n rfl rfl ?_
  refine m_iaload rfl hb rl_21 (by first | omega | (simp only [Int.toNat_natCast, upF_2] at *; omega)) (by first | omega | (simp only [Int.toNat_natCast, upF_2] at *; omega)) ?_
  rw [bk_a _ _ _ (by decide), Int.toNat_natCast]
  refine w_iconst rfl ?_
  refine w_cvN rfl (by decide) (by first | omega | (simp only [Int.toNat_natCast, upF_2] at *; omega)) rfl RH_obj mt_131 (Nat.le_of_ble_eq_true rfl) (Nat.le_of_ble_eq_true rfl) (r_put hb _ (by omega) (by omega) 2 (by decide) (by omega)) ?_
  refine w_aload_n rfl rfl ?_
  refine w_aload_n rfl rfl ?_
  refine m_get rfl rfl ?_
  refine w_iload_n rfl rfl ?_
  refine m_iaload rfl hb rl_22 (by first | omega | (simp only [Int.toNat_natCast, upF_2] at *; omega)) (by first | omega | (simp only [Int.toNat_natCast, upF_2] at *; omega)) ?_
  rw [bk_a _ _ _ (by decide), Int.toNat_natCast]
  refine w_iconst rfl ?_
  refine w_cvN rfl (by decide) (by first | omega | (simp only [Int.toNat_natCast, upF_2] at *; omega)) rfl RH_obj mt_131 (Nat.le_of_ble_eq_true rfl) (Nat.le_of_ble_eq_true rfl) (r_put hb _ (by omega) (by omega) 4 (by decide) (by omega)) ?_
  refine w_goto rfl ?_
  refine w_return rfl rfl ?_
  exact ⟨rfl, rfl⟩
theorem r_nd_ol (hb : b < m0) (hg : Rg ρ) (d : Nat) (hd : 2 ≤ d) {e g c : Int} {r q : Nat} (hr : r < 4000) (ho : RecOk ρ r) (hk : ρ.2 18 0 r = 1) (c1 : 1 ≤ c) (c2 : c ≤ 100) (hq : (q : Int) = min (ρ.2 21 0 r) (64 * c)) : ∀ (m k f : Nat) (B : Nat → Int), k + m = q → f + m ≤ 64 → Wp b L xs d mi_136 138 [some (.ref m0), some (vI e), some (vI g), some (vI r), some (vI c), some (vI k)] [] (RH m0 h (bk ρ f B)) (Rn (RH m0 h (bk ρ (f + m) (ocB (fun i => ρ.2 24 0 ((ρ.2 23 0 r).toNat + i) % 256) B f k m)))) := by
  obtain ⟨o1, o2, o3, o4, o5, o6, o7, o8, o9, o10, o11, o12, o13, o14⟩ := ho
  have o15 := o13 hk
  intro m
  induction m with
  | zero =>
    intro k f B hm hf
    by_cases q1 : ρ.2 21 0 r ≤ k
    · refine w_iload rfl rfl ?_
      refine w_aload_n rfl rfl ?_
      refine m_get rfl rfl ?_
      refine w_iload_n rfl rfl ?_
      refine m_iaload rfl hb rl_21 (by first | omega | (simp only [Int.toNat_natCast, upF_2] at *; omega)) (by first | omega | (simp only [Int.toNat_natCast, upF_2] at *; omega)) ?_
      rw [bk_a _ _ _ (by decide), Int.toNat_natCast]
      refine w_icge_t rfl (by first | omega | exact (hg.2 _ _ _).1 | exact (hg.1 _).1 | (simp only [Int.toNat_natCast, upF_2] at *; omega)) (by first | omega | exact (hg.2 _ _ _).2 | exact (hg.1 _).2 | (simp only [Int.toNat_natCast, upF_2] at *; omega)) (by first | omega | exact (hg.2 _ _ _).1 | exact (hg.1 _).1 | (simp only [Int.toNat_natCast, upF_2] at *; omega)) (by first | omega | exact (hg.2 _ _ _).2 | exact (hg.1 _).2 | (simp only [Int.toNat_natCast, upF_2] at *; omega)) (by first | omega | (simp only [Int.toNat_natCast, upF_2] at *; omega)) ?_
      refine w_goto rfl ?_
      refine w_return rfl rfl ?_
      exact ⟨rfl, rfl⟩
    refine w_iload rfl rfl ?_
    refine w_aload_n rfl rfl ?_
    refine m_get rfl rfl ?_
    refine w_iload_n rfl rfl ?_
    refine m_iaload rfl hb rl_21 (by first | omega | (simp only [Int.toNat_natCast, upF_2] at *; omega)) (by first | omega | (simp only [Int.toNat_natCast, upF_2] at *; omega)) ?_
    rw [bk_a _ _ _ (by decide), Int.toNat_natCast]
    refine w_icge_f rfl (by first | omega | exact (hg.2 _ _ _).1 | exact (hg.1 _).1 | (simp only [Int.toNat_natCast, upF_2] at *; omega)) (by first | omega | exact (hg.2 _ _ _).2 | exact (hg.1 _).2 | (simp only [Int.toNat_natCast, upF_2] at *; omega)) (by first | omega | exact (hg.2 _ _ _).1 | exact (hg.1 _).1 | (simp only [Int.toNat_natCast, upF_2] at *; omega)) (by first | omega | exact (hg.2 _ _ _).2 | exact (hg.1 _).2 | (simp only [Int.toNat_natCast, upF_2] at *; omega)) (by first | omega | (simp only [Int.toNat_natCast, upF_2] at *; omega)) ?_
    refine w_iload rfl rfl ?_
    refine w_bipush rfl rfl ?_
    refine w_iload rfl rfl ?_
    refine w_imul rfl ?_
    refine w_icge_t rfl (by first | omega | exact (hg.2 _ _ _).1 | exact (hg.1 _).1 | (simp only [Int.toNat_natCast, upF_2] at *; omega)) (by first | omega | exact (hg.2 _ _ _).2 | exact (hg.1 _).2 | (simp only [Int.toNat_natCast, upF_2] at *; omega)) (by first | omega | exact (hg.2 _ _ _).1 | exact (hg.1 _).1 | (simp only [Int.toNat_natCast, upF_2] at *; omega)) (by first | omega | exact (hg.2 _ _ _).2 | exact (hg.1 _).2 | (simp only [Int.toNat_natCast, upF_2] at *; omega)) (by first | omega | (simp only [Int.toNat_natCast, upF_2] at *; omega)) ?_
    refine w_goto rfl ?_
    refine w_return rfl rfl ?_
    exact ⟨rfl, rfl⟩
  | succ m ih =>
    intro k f B hm hf
    have e1 : (ρ.2 23 0 r + (k : Int)).toNat = (ρ.2 23 0 r).toNat + k := by omega
    refine w_iload rfl rfl ?_
    refine w_aload_n rfl rfl ?_
    refine m_get rfl rfl ?_
    refine w_iload_n rfl rfl ?_
    refine m_iaload rfl hb rl_21 (by first | omega | (simp only [Int.toNat_natCast, upF_2] at *; omega)) (by first | omega | (simp only [Int.toNat_natCast, upF_2] at *; omega)) ?_
    rw [bk_a _ _ _ (by decide), Int.toNat_natCast]
    refine w_icge_f rfl (by first | omega | exact (hg.2 _ _ _).1 | exact (hg.1 _).1 | (simp only [Int.toNat_natCast, upF_2] at *; omega)) (by first | omega | exact (hg.2 _ _ _).2 | exact (hg.1 _).2 | (simp only [Int.toNat_natCast, upF_2] at *; omega)) (by first | omega | exact (hg.2 _ _ _).1 | exact (hg.1 _).1 | (simp only [Int.toNat_natCast, upF_2] at *; omega)) (by first | omega | exact (hg.2 _ _ _).2 | exact (hg.1 _).2 | (simp only [Int.toNat_natCast, upF_2] at *; omega)) (by first | omega | (simp only [Int.toNat_natCast, upF_2] at *; omega)) ?_
    refine w_iload rfl rfl ?_
    refine w_bipush rfl rfl ?_
    refine w_iload rfl rfl ?_
    refine w_imul rfl ?_
    refine w_icge_f rfl (by first | omega | exact (hg.2 _ _ _).1 | exact (hg.1 _).1 | (simp only [Int.toNat_natCast, upF_2] at *; omega)) (by first | omega | exact (hg.2 _ _ _).2 | exact (hg.1 _).2 | (simp only [Int.toNat_natCast, upF_2] at *; omega)) (by first | omega | exact (hg.2 _ _ _).1 | exact (hg.1 _).1 | (simp only [Int.toNat_natCast, upF_2] at *; omega)) (by first | omega | exact (hg.2 _ _ _).2 | exact (hg.1 _).2 | (simp only [Int.toNat_natCast, upF_2] at *; omega)) (by first | omega | (simp only [Int.toNat_natCast, upF_2] at *; omega)) ?_
    refine w_aload_n rfl rfl ?_
    refine w_aload_n rfl rfl ?_
    refine m_get rfl rfl ?_
    refine w_aload_n rfl rfl ?_
    refine m_get rfl rfl ?_
    refine w_iload_n rfl rfl ?_
    refine m_iaload rfl hb rl_23 (by first | omega | (simp only [Int.toNat_natCast, upF_2] at *; omega)) (by first | omega | (simp only [Int.toNat_natCast, upF_2] at *; omega)) ?_
    rw [bk_a _ _ _ (by decide), Int.toNat_natCast]
    refine w_iload rfl rfl ?_
    refine w_iadd rfl ?_
    refine m_baload rfl rl_24 (by first | omega | (simp only [Int.toNat_natCast, upF_2] at *; omega)) (by first | omega | (simp only [Int.toNat_natCast, upF_2] at *; omega)) ?_
    rw [bk_a _ _ _ (by decide), e1]
    refine w_sipush rfl rfl ?_
    refine w_and255 rfl ?_
    rw [sb_mod]
    refine w_iconst rfl ?_
    refine w_cvN rfl (by decide) (by first | omega | (simp only [Int.toNat_natCast, upF_2] at *; omega)) rfl RH_obj mt_131 (Nat.le_of_ble_eq_true rfl) (Nat.le_of_ble_eq_true rfl) (r_put hb _ (by omega) (by omega) 1 (by decide) (by omega)) ?_
    refine w_iinc rfl rfl (by decide) ?_
    refine w_goto rfl ?_
    have := ih (k + 1) (f + 1) (putK B f (ρ.2 24 0 ((ρ.2 23 0 r).toNat + k) % 256) 1) (by omega) (by omega)
    rw [show f + 1 + m = f + (m + 1) by omega] at this
    exact this
theorem r_nd_o (hb : b < m0) (hg : Rg ρ) (d : Nat) (hd : 2 ≤ d) {e g : Int} {r c : Nat} (hr : r < 4000) (ho : RecOk ρ r) (hk : ρ.2 18 0 r = 1) (c1 : 1 ≤ c) (c2 : c ≤ cont ρ r) : Wp b L xs d mi_136 38 [some (.ref m0), some (vI e), some (vI g), some (vI r), some (vI c), none] [] (RH m0 h (bk ρ 0 zB)) (Rn (RH m0 h (bk ρ (min (ρ.2 21 0 r).toNat (64 * c) - 64 * (c - 1)) (ocB (fun i => ρ.2 24 0 ((ρ.2 23 0 r).toNat + i) % 256) zB 0 (64 * (c - 1)) (min (ρ.2 21 0 r).toNat (64 * c) - 64 * (c - 1)))))) := by
  have h13 := (cont_ok ho).2
  have hc3 := c2
  unfold cont pts at hc3
  rw [if_pos hk] at hc3
  have e5 : (64 : Int) * ((c : Int) - 1) = ((64 * (c - 1) : Nat) : Int) := by omega
  have o8 := ho.2.2.2.2.2.2.2.1
  refine w_iload rfl rfl ?_
  refine w_ifne_t rfl (by first | omega | exact (hg.2 _ _ _).1 | exact (hg.1 _).1 | (simp only [Int.toNat_natCast, upF_2] at *; omega)) (by first | omega | exact (hg.2 _ _ _).2 | exact (hg.1 _).2 | (simp only [Int.toNat_natCast, upF_2] at *; omega)) (by first | omega | (simp only [Int.toNat_natCast, upF_2] at *; omega)) ?_
  refine w_aload_n rfl rfl ?_
  refine m_get rfl rfl ?_
  refine w_iload_n rfl rfl ?_
  refine m_iaload rfl hb rl_18 (by first | omega | (simp only [Int.toNat_natCast, upF_2] at *; omega)) (by first | omega | (simp only [Int.toNat_natCast, upF_2] at *; omega)) ?_
  rw [bk_a _ _ _ (by decide), Int.toNat_natCast]
  refine w_iconst rfl ?_
  refine w_icne_f rfl (by first | omega | exact (hg.2 _ _ _).1 | exact (hg.1 _).1 | (simp only [Int.toNat_natCast, upF_2] at *; omega)) (by first | omega | exact (hg.2 _ _ _).2 | exact (hg.1 _).2 | (simp only [Int.toNat_natCast, upF_2] at *; omega)) (by first | omega | exact (hg.2 _ _ _).1 | exact (hg.1 _).1 | (simp only [Int.toNat_natCast, upF_2] at *; omega)) (by first | omega | exact (hg.2 _ _ _).2 | exact (hg.1 _).2 | (simp only [Int.toNat_natCast, upF_2] at *; omega)) (by first | omega | (simp only [Int.toNat_natCast, upF_2] at *; omega)) ?_
  refine w_bipush rfl rfl ?_
  refine w_iload rfl rfl ?_
  refine w_iconst rfl ?_
  refine w_isub rfl ?_
  refine w_imul rfl ?_
  refine w_istore rfl (by decide) ?_
  rw [e5]
  have := r_nd_ol (L := L) (xs := xs) (h := h) hb hg d hd (e := e) (g := g) (c := (c : Int)) (q := min (ρ.2 21 0 r).toNat (64 * c)) hr ho hk (by omega) (by omega) (by omega) (min (ρ.2 21 0 r).toNat (64 * c) - 64 * (c - 1)) (64 * (c - 1)) 0 zB (by omega) (by omega)
  rw [Nat.zero_add] at this
  exact this
theorem r_nd_el (hb : b < m0) (hg : Rg ρ) (hE : EntOk ρ) (d : Nat) (hd : 2 ≤ d) {e g c : Int} {r q : Nat} (hr : r < 4000) (ho : RecOk ρ r) (hk : ρ.2 18 0 r = 2) (c1 : 1 ≤ c) (c2 : c ≤ 100) (hq : (q : Int) = min (ρ.2 21 0 r) (21 * c)) : ∀ (m k f : Nat) (B : Nat → Int), k + m = q → f + 3 * m ≤ 64 → Wp b L xs d mi_136 200 [some (.ref m0), some (vI e), some (vI g), some (vI r), some (vI c), some (vI k)] [] (RH m0 h (bk ρ f B)) (Rn (RH m0 h (bk ρ (f + 3 * m) (enB (fun i => ρ.2 25 0 ((ρ.2 23 0 r).toNat + i)) (fun i => ρ.2 26 0 ((ρ.2 23 0 r).toNat + i)) B f k m)))) := by
  obtain ⟨o1, o2, o3, o4, o5, o6, o7, o8, o9, o10, o11, o12, o13, o14⟩ := ho
  have o15 := (o14 hk).1
  intro m
  induction m with
  | zero =>
    intro k f B hm hf
    by_cases q1 : ρ.2 21 0 r ≤ k
    · refine w_iload rfl rfl ?_
      refine w_aload_n rfl rfl ?_
      refine m_get rfl rfl ?_
      refine w_iload_n rfl rfl ?_
      refine m_iaload rfl hb rl_21 (by first | omega | (simp only [Int.toNat_natCast, upF_2] at *; omega)) (by first | omega | (simp only [Int.toNat_natCast, upF_2] at *; omega)) ?_
      rw [bk_a _ _ _ (by decide), Int.toNat_natCast]
      refine w_icge_t rfl (by first | omega | exact (hg.2 _ _ _).1 | exact (hg.1 _).1 | (simp only [Int.toNat_natCast, upF_2] at *; omega)) (by first | omega | exact (hg.2 _ _ _).2 | exact (hg.1 _).2 | (simp only [Int.toNat_natCast, upF_2] at *; omega)) (by first | omega | exact (hg.2 _ _ _).1 | exact (hg.1 _).1 | (simp only [Int.toNat_natCast, upF_2] at *; omega)) (by first | omega | exact (hg.2 _ _ _).2 | exact (hg.1 _).2 | (simp only [Int.toNat_natCast, upF_2] at *; omega)) (by first | omega | (simp only [Int.toNat_natCast, upF_2] at *; omega)) ?_
      refine w_return rfl rfl ?_
      exact ⟨rfl, rfl⟩
    refine w_iload rfl rfl ?_
    refine w_aload_n rfl rfl ?_
    refine m_get rfl rfl ?_
    refine w_iload_n rfl rfl ?_
    refine m_iaload rfl hb rl_21 (by first | omega | (simp only [Int.toNat_natCast, upF_2] at *; omega)) (by first | omega | (simp only [Int.toNat_natCast, upF_2] at *; omega)) ?_
    rw [bk_a _ _ _ (by decide), Int.toNat_natCast]
    refine w_icge_f rfl (by first | omega | exact (hg.2 _ _ _).1 | exact (hg.1 _).1 | (simp only [Int.toNat_natCast, upF_2] at *; omega)) (by first | omega | exact (hg.2 _ _ _).2 | exact (hg.1 _).2 | (simp only [Int.toNat_natCast, upF_2] at *; omega)) (by first | omega | exact (hg.2 _ _ _).1 | exact (hg.1 _).1 | (simp only [Int.toNat_natCast, upF_2] at *; omega)) (by first | omega | exact (hg.2 _ _ _).2 | exact (hg.1 _).2 | (simp only [Int.toNat_natCast, upF_2] at *; omega)) (by first | omega | (simp only [Int.toNat_natCast, upF_2] at *; omega)) ?_
    refine w_iload rfl rfl ?_
    refine w_bipush rfl rfl ?_
    refine w_iload rfl rfl ?_
    refine w_imul rfl ?_
    refine w_icge_t rfl (by first | omega | exact (hg.2 _ _ _).1 | exact (hg.1 _).1 | (simp only [Int.toNat_natCast, upF_2] at *; omega)) (by first | omega | exact (hg.2 _ _ _).2 | exact (hg.1 _).2 | (simp only [Int.toNat_natCast, upF_2] at *; omega)) (by first | omega | exact (hg.2 _ _ _).1 | exact (hg.1 _).1 | (simp only [Int.toNat_natCast, upF_2] at *; omega)) (by first | omega | exact (hg.2 _ _ _).2 | exact (hg.1 _).2 | (simp only [Int.toNat_natCast, upF_2] at *; omega)) (by first | omega | (simp only [Int.toNat_natCast, upF_2] at *; omega)) ?_
    refine w_return rfl rfl ?_
    exact ⟨rfl, rfl⟩
  | succ m ih =>
    intro k f B hm hf
    have e1 : (ρ.2 23 0 r + (k : Int)).toNat = (ρ.2 23 0 r).toNat + k := by omega
    have e2 := hE ((ρ.2 23 0 r).toNat + k)
    refine w_iload rfl rfl ?_
    refine w_aload_n rfl rfl ?_
    refine m_get rfl rfl ?_
    refine w_iload_n rfl rfl ?_
    refine m_iaload rfl hb rl_21 (by first | omega | (simp only [Int.toNat_natCast, upF_2] at *; omega)) (by first | omega | (simp only [Int.toNat_natCast, upF_2] at *; omega)) ?_
    rw [bk_a _ _ _ (by decide), Int.toNat_natCast]
    refine w_icge_f rfl (by first | omega | exact (hg.2 _ _ _).1 | exact (hg.1 _).1 | (simp only [Int.toNat_natCast, upF_2] at *; omega)) (by first | omega | exact (hg.2 _ _ _).2 | exact (hg.1 _).2 | (simp only [Int.toNat_natCast, upF_2] at *; omega)) (by first | omega | exact (hg.2 _ _ _).1 | exact (hg.1 _).1 | (simp only [Int.toNat_natCast, upF_2] at *; omega)) (by first | omega | exact (hg.2 _ _ _).2 | exact (hg.1 _).2 | (simp only [Int.toNat_natCast, upF_2] at *; omega)) (by first | omega | (simp only [Int.toNat_natCast, upF_2] at *; omega)) ?_
    refine w_iload rfl rfl ?_
    refine w_bipush rfl rfl ?_
    refine w_iload rfl rfl ?_
    refine w_imul rfl ?_
    refine w_icge_f rfl (by first | omega | exact (hg.2 _ _ _).1 | exact (hg.1 _).1 | (simp only [Int.toNat_natCast, upF_2] at *; omega)) (by first | omega | exact (hg.2 _ _ _).2 | exact (hg.1 _).2 | (simp only [Int.toNat_natCast, upF_2] at *; omega)) (by first | omega | exact (hg.2 _ _ _).1 | exact (hg.1 _).1 | (simp only [Int.toNat_natCast, upF_2] at *; omega)) (by first | omega | exact (hg.2 _ _ _).2 | exact (hg.1 _).2 | (simp only [Int.toNat_natCast, upF_2] at *; omega)) (by first | omega | (simp only [Int.toNat_natCast, upF_2] at *; omega)) ?_
    refine w_aload_n rfl rfl ?_
    refine w_aload_n rfl rfl ?_
    refine m_get rfl rfl ?_
    refine w_aload_n rfl rfl ?_
    refine m_get rfl rfl ?_
    refine w_iload_n rfl rfl ?_
    refine m_iaload rfl hb rl_23 (by first | omega | (simp only [Int.toNat_natCast, upF_2] at *; omega)) (by first | omega | (simp only [Int.toNat_natCast, upF_2] at *; omega)) ?_
    rw [bk_a _ _ _ (by decide), Int.toNat_natCast]
    refine w_iload rfl rfl ?_
    refine w_iadd rfl ?_
    refine m_iaload rfl hb rl_25 (by first | omega | (simp only [Int.toNat_natCast, upF_2] at *; omega)) (by first | omega | (simp only [Int.toNat_natCast, upF_2] at *; omega)) ?_
    rw [bk_a _ _ _ (by decide), e1]
    refine w_iconst rfl ?_
    refine w_cvN rfl (by decide) (by first | omega | (simp only [Int.toNat_natCast, upF_2] at *; omega)) rfl RH_obj mt_131 (Nat.le_of_ble_eq_true rfl) (Nat.le_of_ble_eq_true rfl) (r_put hb _ (by omega) (by omega) 2 (by decide) (by omega)) ?_
    refine w_aload_n rfl rfl ?_
    refine w_aload_n rfl rfl ?_
    refine m_get rfl rfl ?_
    refine w_aload_n rfl rfl ?_
    refine m_get rfl rfl ?_
    refine w_iload_n rfl rfl ?_
    refine m_iaload rfl hb rl_23 (by first | omega | (simp only [Int.toNat_natCast, upF_2] at *; omega)) (by first | omega | (simp only [Int.toNat_natCast, upF_2] at *; omega)) ?_
    rw [bk_a _ _ _ (by decide), Int.toNat_natCast]
    refine w_iload rfl rfl ?_
    refine w_iadd rfl ?_
    refine m_iaload rfl hb rl_26 (by first | omega | (simp only [Int.toNat_natCast, upF_2] at *; omega)) (by first | omega | (simp only [Int.toNat_natCast, upF_2] at *; omega)) ?_
    rw [bk_a _ _ _ (by decide), e1]
    refine w_iconst rfl ?_
    refine w_cvN rfl (by decide) (by first | omega | (simp only [Int.toNat_natCast, upF_2] at *; omega)) rfl RH_obj mt_131 (Nat.le_of_ble_eq_true rfl) (Nat.le_of_ble_eq_true rfl) (r_put hb _ (by omega) (by omega) 1 (by decide) (by omega)) ?_
    refine w_iinc rfl rfl (by decide) ?_
    refine w_goto rfl ?_
    have := ih (k + 1) (f + 3) (putK (putK B f (ρ.2 25 0 ((ρ.2 23 0 r).toNat + k)) 2) (f + 2) (ρ.2 26 0 ((ρ.2 23 0 r).toNat + k)) 1) (by omega) (by omega)
    rw [show f + 3 + 3 * m = f + 3 * (m + 1) by omega] at this
    exact this
theorem r_nd_e (hb : b < m0) (hg : Rg ρ) (hE : EntOk ρ) (d : Nat) (hd : 2 ≤ d) {e g : Int} {r c : Nat} (hr : r < 4000) (ho : RecOk ρ r) (hk : ρ.2 18 0 r = 2) (c1 : 1 ≤ c) (c2 : c ≤ cont ρ r) : Wp b L xs d mi_136 38 [some (.ref m0), some (vI e), some (vI g), some (vI r), some (vI c), none] [] (RH m0 h (bk ρ 0 zB)) (Rn (RH m0 h (bk ρ (3 * (min (ρ.2 21 0 r).toNat (21 * c) - 21 * (c - 1))) (enB (fun i => ρ.2 25 0 ((ρ.2 23 0 r).toNat + i)) (fun i => ρ.2 26 0 ((ρ.2 23 0 r).toNat + i)) zB 0 (21 * (c - 1)) (min (ρ.2 21 0 r).toNat (21 * c) - 21 * (c - 1)))))) := by
  have h13 := (cont_ok ho).2
  have hc3 := c2
  unfold cont pts at hc3
  rw [if_neg (by omega)] at hc3
  have e5 : (21 : Int) * ((c : Int) - 1) = ((21 * (c - 1) : Nat) : Int) := by omega
  have o8 := ho.2.2.2.2.2.2.2.1
  refine w_iload rfl rfl ?_
  refine w_ifne_t rfl (by first | omega | exact (hg.2 _ _ _).1 | exact (hg.1 _).1 | (simp only [Int.toNat_natCast, upF_2] at *; omega)) (by first | omega | exact (hg.2 _ _ _).2 | exact (hg.1 _).2 | (simp only [Int.toNat_natCast, upF_2] at *; omega)) (by first | omega | (simp only [Int.toNat_natCast, upF_2] at *; omega)) ?_
  refine w_aload_n rfl rfl ?_
  refine m_get rfl rfl ?_
  refine w_iload_n rfl rfl ?_
  refine m_iaload rfl hb rl_18 (by first | omega | (simp only [Int.toNat_natCast, upF_2] at *; omega)) (by first | omega | (simp only [Int.toNat_natCast, upF_2] at *; omega)) ?_
  rw [bk_a _ _ _ (by decide), Int.toNat_natCast]
  refine w_iconst rfl ?_
  refine w_icne_t rfl (by first | omega | exact (hg.2 _ _ _).1 | exact (hg.1 _).1 | (simp only [Int.toNat_natCast, upF_2] at *; omega)) (by first | omega | exact (hg.2 _ _ _).2 | exact (hg.1 _).2 | (simp only [Int.toNat_natCast, upF_2] at *; omega)) (by first | omega | exact (hg.2 _ _ _).1 | exact (hg.1 _).1 | (simp only [Int.toNat_natCast, upF_2] at *; omega)) (by first | omega | exact (hg.2 _ _ _).2 | exact (hg.1 _).2 | (simp only [Int.toNat_natCast, upF_2] at *; omega)) (by first | omega | (simp only [Int.toNat_natCast, upF_2] at *; omega)) ?_
  refine w_bipush rfl rfl ?_
  refine w_iload rfl rfl ?_
  refine w_iconst rfl ?_
  refine w_isub rfl ?_
  refine w_imul rfl ?_
  refine w_istore rfl (by decide) ?_
  rw [e5]
  have := r_nd_el (L := L) (xs := xs) (h := h) hb hg hE d hd (e := e) (g := g) (c := (c : Int)) (q := min (ρ.2 21 0 r).toNat (21 * c)) hr ho hk (by omega) (by omega) (by omega) (min (ρ.2 21 0 r).toNat (21 * c) - 21 * (c - 1)) (21 * (c - 1)) 0 zB (by omega) (by omega)
  rw [Nat.zero_add] at this
  exact this
end Rr7
