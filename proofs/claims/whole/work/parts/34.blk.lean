/-! the reference's blocks -/
/-- the block that is made, and how far -/
def bk (ρ : RS) (f : Nat) (B : Nat → Int) : RS := (fun k => if k = 47 then (f : Int) else ρ.1 k, fun j r i => if j = 46 ∧ r = 0 then B i else ρ.2 j r i)
def upB (B : Nat → Int) (i : Nat) (x : Int) : Nat → Int := fun j => if j = i then x else B j
theorem bk_a (ρ : RS) (f : Nat) (B : Nat → Int) {j r i : Nat} (hj : j ≠ 46) : (bk ρ f B).2 j r i = ρ.2 j r i := by
  show (if j = 46 ∧ r = 0 then B i else ρ.2 j r i) = _
  rw [if_neg (fun z => hj z.1)]
theorem bk_f (ρ : RS) (f : Nat) (B : Nat → Int) {k : Nat} (hj : k ≠ 47) : (bk ρ f B).1 k = ρ.1 k := by
  show (if k = 47 then (f : Int) else ρ.1 k) = _
  rw [if_neg hj]
theorem bk_put (ρ : RS) (f : Nat) (B : Nat → Int) (i : Nat) (x : Int) (f' : Int) (hf : f' = ((f + 1 : Nat) : Int)) : upA (upF (bk ρ f B) 47 f') 46 0 i x = bk ρ (f + 1) (upB B i x) := by
  subst hf
  unfold upA upF bk
  apply Prod.ext
  · funext k
    show (if k = 47 then ((f + 1 : Nat) : Int) else if k = 47 then (f : Int) else ρ.1 k) = (if k = 47 then ((f + 1 : Nat) : Int) else ρ.1 k)
    by_cases e : k = 47
    · rw [if_pos e, if_pos e]
    · rw [if_neg e, if_neg e, if_neg e]
  · funext j r k
    show (if j = 46 ∧ r = 0 ∧ k = i then x else if j = 46 ∧ r = 0 then B k else ρ.2 j r k) = (if j = 46 ∧ r = 0 then (if k = i then x else B k) else ρ.2 j r k)
    by_cases e : j = 46 ∧ r = 0
    · rw [if_pos e, if_pos e]
      by_cases e2 : k = i
      · rw [if_pos ⟨e.1, e.2, e2⟩, if_pos e2]
      · rw [if_neg (fun z => e2 z.2.2), if_neg e2]
    · rw [if_neg e, if_neg e, if_neg (fun z => e ⟨z.1, z.2.1⟩)]
theorem bk_st (ρ : RS) (f : Nat) (B : Nat → Int) (i : Nat) (x : Int) : upA (bk ρ f B) 46 0 i x = bk ρ f (upB B i x) := by
  unfold upA bk
  apply Prod.ext
  · rfl
  · funext j r k
    show (if j = 46 ∧ r = 0 ∧ k = i then x else if j = 46 ∧ r = 0 then B k else ρ.2 j r k) = (if j = 46 ∧ r = 0 then (if k = i then x else B k) else ρ.2 j r k)
    by_cases e : j = 46 ∧ r = 0
    · rw [if_pos e, if_pos e]
      by_cases e2 : k = i
      · rw [if_pos ⟨e.1, e.2, e2⟩, if_pos e2]
      · rw [if_neg (fun z => e2 z.2.2), if_neg e2]
    · rw [if_neg e, if_neg e, if_neg (fun z => e ⟨z.1, z.2.1⟩)]
theorem bk_f47 (ρ : RS) (f : Nat) (B : Nat → Int) (x : Nat) : upF (bk ρ f B) 47 (x : Int) = bk ρ x B := by
  unfold upF bk
  apply Prod.ext
  · funext k
    show (if k = 47 then (x : Int) else if k = 47 then (f : Int) else ρ.1 k) = (if k = 47 then (x : Int) else ρ.1 k)
    by_cases e : k = 47
    · rw [if_pos e, if_pos e]
    · rw [if_neg e, if_neg e, if_neg e]
  · rfl
theorem bk_self (ρ : RS) (f : Nat) (hf : ρ.1 47 = (f : Int)) : bk ρ f (ρ.2 46 0) = ρ := by
  unfold bk
  apply Prod.ext
  · funext k
    show (if k = 47 then (f : Int) else ρ.1 k) = _
    by_cases e : k = 47
    · rw [if_pos e, e, hf]
    · rw [if_neg e]
  · funext j r k
    show (if j = 46 ∧ r = 0 then ρ.2 46 0 k else ρ.2 j r k) = _
    by_cases e : j = 46 ∧ r = 0
    · rw [if_pos e, e.1, e.2]
    · rw [if_neg e]
theorem bk_g {ρ : RS} (hg : Rg ρ) (f : Nat) (hf : f ≤ 1000) {B : Nat → Int} (hB : ∀ i, 0 ≤ B i ∧ B i ≤ 255) : Rg (bk ρ f B) := by
  refine ⟨fun k => ?_, fun j r i => ?_⟩
  · show _ ≤ (if k = 47 then (f : Int) else ρ.1 k) ∧ (if k = 47 then (f : Int) else ρ.1 k) ≤ _
    split
    · omega
    · exact hg.1 k
  · show _ ≤ (if j = 46 ∧ r = 0 then B i else ρ.2 j r i) ∧ (if j = 46 ∧ r = 0 then B i else ρ.2 j r i) ≤ _
    split
    · have := hB i; omega
    · exact hg.2 j r i
/-- a number's last k octets, from place f on -/
def putK (B : Nat → Int) (f : Nat) (v : Int) : Nat → Nat → Int
  | 0 => B
  | k + 1 => putK (upB B f (v / 2 ^ (8 * k) % 256)) (f + 1) v k
theorem putK_at (v : Int) : ∀ (k f : Nat) (B : Nat → Int) (i : Nat), putK B f v k i = if f ≤ i ∧ i < f + k then v / 2 ^ (8 * (f + k - 1 - i)) % 256 else B i
  | 0, f, B, i => by
    rw [if_neg (by omega)]
    rfl
  | k + 1, f, B, i => by
    show putK (upB B f (v / 2 ^ (8 * k) % 256)) (f + 1) v k i = _
    rw [putK_at v k (f + 1)]
    by_cases h1 : f + 1 ≤ i ∧ i < f + 1 + k
    · rw [if_pos h1, if_pos ⟨by omega, by omega⟩, show f + 1 + k - 1 - i = f + (k + 1) - 1 - i by omega]
    · rw [if_neg h1]
      unfold upB
      by_cases h2 : i = f
      · rw [if_pos h2, if_pos ⟨by omega, by omega⟩, show f + (k + 1) - 1 - i = k by omega]
      · rw [if_neg h2, if_neg (by omega)]
theorem putK_ok {B : Nat → Int} (hB : ∀ i, 0 ≤ B i ∧ B i ≤ 255) (f : Nat) (v : Int) (k : Nat) : ∀ i, 0 ≤ putK B f v k i ∧ putK B f v k i ≤ 255 := by
  intro i
  rw [putK_at]
  split
  · have h1 := Int.emod_nonneg (v / 2 ^ (8 * (f + k - 1 - i))) (show (256 : Int) ≠ 0 by decide)
    have h2 := Int.emod_lt_of_pos (v / 2 ^ (8 * (f + k - 1 - i))) (show (0 : Int) < 256 by decide)
    omega
  · exact hB i
section Rr6
variable {b L : Nat} {xs : Nat → Int32} {m0 : Nat} {h : AH} {ρ : RS}
theorem r_put_l (hb : b < m0) (d : Nat) {v n : Int} (v1 : 0 ≤ v) (v2 : v ≤ 2147483647) : ∀ (k f : Nat) (B : Nat → Int), k ≤ 4 → f + k ≤ 64 → Wp b L xs d mi_131 4 [some (.ref m0), some (vI v), some (vI n), some (vI ((k : Int) - 1))] [] (RH m0 h (bk ρ f B)) (Rn (RH m0 h (bk ρ (f + k) (putK B f v k)))) := by
  intro k
  induction k with
  | zero =>
    intro f B hk hf
    refine w_iload_n rfl rfl ?_
    refine w_iflt_t rfl (by first | omega | exact (hg.2 _ _ _).1 | exact (hg.1 _).1 | (simp only [Int.toNat_natCast, upF_2] at *; omega)) (by first | omega | exact (hg.2 _ _ _).2 | exact (hg.1 _).2 | (simp only [Int.toNat_natCast, upF_2] at *; omega)) (by first | omega | (simp only [Int.toNat_natCast, upF_2] at *; omega)) ?_
    refine w_return rfl rfl ?_
    exact ⟨rfl, rfl⟩
  | succ k ih =>
    intro f B hk hf
    rw [show ((k + 1 : Nat) : Int) - 1 = (k : Int) by omega]
    have e1 : (8 * (k : Int)).toNat = 8 * k := by omega
    refine w_iload_n rfl rfl ?_
    refine w_iflt_f rfl (by first | omega | exact (hg.2 _ _ _).1 | exact (hg.1 _).1 | (simp only [Int.toNat_natCast, upF_2] at *; omega)) (by first | omega | exact (hg.2 _ _ _).2 | exact (hg.1 _).2 | (simp only [Int.toNat_natCast, upF_2] at *; omega)) (by first | omega | (simp only [Int.toNat_natCast, upF_2] at *; omega)) ?_
    refine w_aload_n rfl rfl ?_
    refine m_get rfl rfl ?_
    refine w_aload_n rfl rfl ?_
    refine w_dupR rfl ?_
    refine m_get rfl rfl ?_
    refine w_dup_x1 rfl ?_
    refine w_iconst rfl ?_
    refine w_iadd rfl ?_
    refine m_put rfl rfl rfl rfl ?_
    refine w_iload_n rfl rfl ?_
    refine w_bipush rfl rfl ?_
    refine w_iload_n rfl rfl ?_
    refine w_imul rfl ?_
    refine w_ishr rfl v1 v2 (by omega) (by omega) ?_
    refine w_sipush rfl rfl ?_
    refine w_and255 rfl ?_
    refine m_iastore (i := (f : Int)) rfl rl_46 (by omega) (by omega) ?_
    rw [e1, Int.toNat_natCast, bk_put ρ f B f _ ((bk ρ f B).1 47 + 1) rfl]
    refine w_iinc rfl rfl (by decide) ?_
    refine w_goto rfl ?_
    have := ih (f + 1) (upB B f (v / 2 ^ (8 * k) % 256)) (by omega) (by omega)
    rw [show f + 1 + k = f + (k + 1) by omega] at this
    exact this
theorem r_put (hb : b < m0) (d : Nat) {v : Int} (v1 : 0 ≤ v) (v2 : v ≤ 2147483647) {f : Nat} {B : Nat → Int} (k : Nat) (hk : k ≤ 4) (hf : f + k ≤ 64) : Wp b L xs d mi_131 0 (ent (mL mi_131) [.ref m0, vI v, vI (k : Int)]) [] (RH m0 h (bk ρ f B)) (Rn (RH m0 h (bk ρ (f + k) (putK B f v k)))) := by
  refine w_iload_n rfl rfl ?_
  refine w_iconst rfl ?_
  refine w_isub rfl ?_
  refine w_istore_n rfl (by decide) ?_
  exact r_put_l hb d v1 v2 k f B hk hf
/-- the block's first k places cleared -/
theorem bk_clr (ρ : RS) (f : Nat) (B : Nat → Int) (k : Nat) : upA (bk ρ f (fun i => if i < k then 0 else B i)) 46 0 k 0 = bk ρ f (fun i => if i < k + 1 then 0 else B i) := by
  rw [bk_st]
  congr 1
  funext i
  unfold upB
  by_cases e : i = k
  · rw [if_pos e, if_pos (by omega)]
  · rw [if_neg e]
    dsimp only
    by_cases e2 : i < k
    · rw [if_pos e2, if_pos (by omega)]
    · rw [if_neg e2, if_neg (by omega)]
theorem r_mk_z {Q : AH → RO → Prop} (d : Nat) {a c w : Int} {f : Nat} {B : Nat → Int} (kk : Wp b L xs d mi_132 21 [some (.ref m0), some (vI a), some (vI 64), none, none, none, none] [] (RH m0 h (bk ρ f (fun i => if i < 64 then 0 else B i))) Q) : ∀ m k : Nat, k + m = 64 → Wp b L xs d mi_132 2 [some (.ref m0), some (vI a), some (vI k), none, none, none, none] [] (RH m0 h (bk ρ f (fun i => if i < k then 0 else B i))) Q := by
  intro m
  induction m with
  | zero =>
    intro k hk
    obtain rfl : k = 64 := hk
    refine w_iload_n rfl rfl ?_
    refine w_bipush rfl rfl ?_
    refine w_icge_t rfl (by first | omega | exact (hg.2 _ _ _).1 | exact (hg.1 _).1 | (simp only [Int.toNat_natCast, upF_2] at *; omega)) (by first | omega | exact (hg.2 _ _ _).2 | exact (hg.1 _).2 | (simp only [Int.toNat_natCast, upF_2] at *; omega)) (by first | omega | exact (hg.2 _ _ _).1 | exact (hg.1 _).1 | (simp only [Int.toNat_natCast, upF_2] at *; omega)) (by first | omega | exact (hg.2 _ _ _).2 | exact (hg.1 _).2 | (simp only [Int.toNat_natCast, upF_2] at *; omega)) (by first | omega | (simp only [Int.toNat_natCast, upF_2] at *; omega)) ?_
    exact kk
  | succ m ih =>
    intro k hk
    refine w_iload_n rfl rfl ?_
    refine w_bipush rfl rfl ?_
    refine w_icge_f rfl (by first | omega | exact (hg.2 _ _ _).1 | exact (hg.1 _).1 | (simp only [Int.toNat_natCast, upF_2] at *; omega)) (by first | omega | exact (hg.2 _ _ _).2 | exact (hg.1 _).2 | (simp only [Int.toNat_natCast, upF_2] at *; omega)) (by first | omega | exact (hg.2 _ _ _).1 | exact (hg.1 _).1 | (simp only [Int.toNat_natCast, upF_2] at *; omega)) (by first | omega | exact (hg.2 _ _ _).2 | exact (hg.1 _).2 | (simp only [Int.toNat_natCast, upF_2] at *; omega)) (by first | omega | (simp only [Int.toNat_natCast, upF_2] at *; omega)) ?_
    refine w_aload_n rfl rfl ?_
    refine m_get rfl rfl ?_
    refine w_iload_n rfl rfl ?_
    refine w_iconst rfl ?_
    refine m_iastore rfl rl_46 (by first | omega | (simp only [Int.toNat_natCast, upF_2] at *; omega)) (by first | omega | (simp only [Int.toNat_natCast, upF_2] at *; omega)) ?_
    refine w_iinc rfl rfl (by decide) ?_
    refine w_goto rfl ?_
    rw [Int.toNat_natCast, bk_clr]
    exact ih (k + 1) (by omega)
theorem r_tp_z {Q : AH → RO → Prop} (d : Nat) {a c w : Int} {f : Nat} {B : Nat → Int} (kk : Wp b L xs d mi_130 111 [some (.ref m0), some (vI a), some (vI c), some (vI w), some (vI 64), none, none] [] (RH m0 h (bk ρ f (fun i => if i < 64 then 0 else B i))) Q) : ∀ m k : Nat, k + m = 64 → Wp b L xs d mi_130 90 [some (.ref m0), some (vI a), some (vI c), some (vI w), some (vI k), none, none] [] (RH m0 h (bk ρ f (fun i => if i < k then 0 else B i))) Q := by
  intro m
  induction m with
  | zero =>
    intro k hk
    obtain rfl : k = 64 := hk
    refine w_iload rfl rfl ?_
    refine w_bipush rfl rfl ?_
    refine w_icge_t rfl (by first | omega | exact (hg.2 _ _ _).1 | exact (hg.1 _).1 | (simp only [Int.toNat_natCast, upF_2] at *; omega)) (by first | omega | exact (hg.2 _ _ _).2 | exact (hg.1 _).2 | (simp only [Int.toNat_natCast, upF_2] at *; omega)) (by first | omega | exact (hg.2 _ _ _).1 | exact (hg.1 _).1 | (simp only [Int.toNat_natCast, upF_2] at *; omega)) (by first | omega | exact (hg.2 _ _ _).2 | exact (hg.1 _).2 | (simp only [Int.toNat_natCast, upF_2] at *; omega)) (by first | omega | (simp only [Int.toNat_natCast, upF_2] at *; omega)) ?_
    exact kk
  | succ m ih =>
    intro k hk
    refine w_iload rfl rfl ?_
    refine w_bipush rfl rfl ?_
    refine w_icge_f rfl (by first | omega | exact (hg.2 _ _ _).1 | exact (hg.1 _).1 | (simp only [Int.toNat_natCast, upF_2] at *; omega)) (by first | omega | exact (hg.2 _ _ _).2 | exact (hg.1 _).2 | (simp only [Int.toNat_natCast, upF_2] at *; omega)) (by first | omega | exact (hg.2 _ _ _).1 | exact (hg.1 _).1 | (simp only [Int.toNat_natCast, upF_2] at *; omega)) (by first | omega | exact (hg.2 _ _ _).2 | exact (hg.1 _).2 | (simp only [Int.toNat_natCast, upF_2] at *; omega)) (by first | omega | (simp only [Int.toNat_natCast, upF_2] at *; omega)) ?_
    refine w_aload_n rfl rfl ?_
    refine m_get rfl rfl ?_
    refine w_iload rfl rfl ?_
    refine w_iconst rfl ?_
    refine m_iastore rfl rl_46 (by first | omega | (simp only [Int.toNat_natCast, upF_2] at *; omega)) (by first | omega | (simp only [Int.toNat_natCast, upF_2] at *; omega)) ?_
    refine w_iinc rfl rfl (by decide) ?_
    refine w_goto rfl ?_
    rw [Int.toNat_natCast, bk_clr]
    exact ih (k + 1) (by omega)
theorem bk_zero {ρ : RS} (hf : 0 ≤ ρ.1 47) : ρ = bk ρ (ρ.1 47).toNat (fun i => if i < 0 then 0 else ρ.2 46 0 i) := by
  have := bk_self ρ (ρ.1 47).toNat (by omega)
  rw [show (fun i => if i < 0 then (0 : Int) else ρ.2 46 0 i) = ρ.2 46 0 from by funext i; rw [if_neg (by omega)], this]
theorem bk_full {B : Nat → Int} (hz : ∀ i, 64 ≤ i → B i = 0) : (fun i => if i < 64 then (0 : Int) else B i) = fun _ => 0 := by
  funext i
  by_cases e : i < 64
  · rw [if_pos e]
  · rw [if_neg e, hz i (by omega)]
theorem r_mk_d (hb : b < m0) (hg : Rg ρ) {Q : AH → RO → Prop} (d : Nat) {a : Int} (a1 : 0 ≤ a) (a2 : a ≤ 2147483647) {f e : Nat} {B : Nat → Int} (he : e < 100) (h1 : ∀ j : Nat, j < e → ρ.2 13 0 (j + 1) ≤ a) (h2 : a < ρ.2 13 0 (e + 1)) (kk : Wp b L xs d mi_132 46 [some (.ref m0), some (vI a), some (vI e), none, none, none, none] [] (RH m0 h (bk ρ f B)) Q) : ∀ m k : Nat, k + m = e → Wp b L xs d mi_132 28 [some (.ref m0), some (vI a), some (vI k), none, none, none, none] [] (RH m0 h (bk ρ f B)) Q := by
  intro m
  induction m with
  | zero =>
    intro k hk
    obtain rfl : k = e := hk
    have e1 : ((k : Int) + 1).toNat = k + 1 := by omega
    refine w_aload_n rfl rfl ?_
    refine m_get rfl rfl ?_
    refine w_iload_n rfl rfl ?_
    refine w_iconst rfl ?_
    refine w_iadd rfl ?_
    refine m_iaload rfl hb rl_13 (by first | omega | (simp only [Int.toNat_natCast, upF_2] at *; omega)) (by first | omega | (simp only [Int.toNat_natCast, upF_2] at *; omega)) ?_
    rw [bk_a _ _ _ (by decide), e1]
    refine w_iload_n rfl rfl ?_
    refine w_icgt_t rfl (by first | omega | exact (hg.2 _ _ _).1 | exact (hg.1 _).1 | (simp only [Int.toNat_natCast, upF_2] at *; omega)) (by first | omega | exact (hg.2 _ _ _).2 | exact (hg.1 _).2 | (simp only [Int.toNat_natCast, upF_2] at *; omega)) (by first | omega | exact (hg.2 _ _ _).1 | exact (hg.1 _).1 | (simp only [Int.toNat_natCast, upF_2] at *; omega)) (by first | omega | exact (hg.2 _ _ _).2 | exact (hg.1 _).2 | (simp only [Int.toNat_natCast, upF_2] at *; omega)) (by first | omega | (simp only [Int.toNat_natCast, upF_2] at *; omega)) ?_
    exact kk
  | succ m ih =>
    intro k hk
    have e1 : ((k : Int) + 1).toNat = k + 1 := by omega
    have e2 := h1 k (by omega)
    refine w_aload_n rfl rfl ?_
    refine m_get rfl rfl ?_
    refine w_iload_n rfl rfl ?_
    refine w_iconst rfl ?_
    refine w_iadd rfl ?_
    refine m_iaload rfl hb rl_13 (by first | omega | (simp only [Int.toNat_natCast, upF_2] at *; omega)) (by first | omega | (simp only [Int.toNat_natCast, upF_2] at *; omega)) ?_
    rw [bk_a _ _ _ (by decide), e1]
    refine w_iload_n rfl rfl ?_
    refine w_icgt_f rfl (by first | omega | exact (hg.2 _ _ _).1 | exact (hg.1 _).1 | (simp only [Int.toNat_natCast, upF_2] at *; omega)) (by first | omega | exact (hg.2 _ _ _).2 | exact (hg.1 _).2 | (simp only [Int.toNat_natCast, upF_2] at *; omega)) (by first | omega | exact (hg.2 _ _ _).1 | exact (hg.1 _).1 | (simp only [Int.toNat_natCast, upF_2] at *; omega)) (by first | omega | exact (hg.2 _ _ _).2 | exact (hg.1 _).2 | (simp only [Int.toNat_natCast, upF_2] at *; omega)) (by first | omega | (simp only [Int.toNat_natCast, upF_2] at *; omega)) ?_
    refine w_iinc rfl rfl (by decide) ?_
    refine w_goto rfl ?_
    exact ih (k + 1) (by omega)
end Rr6
