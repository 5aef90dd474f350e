/-! the reference's records -/
/-- the entries of a directory by their names -/
def Kids (ρ : RS) (n : Nat) (c : Nat → Nat) (q : Nat) : Prop := (∀ i, i < q → 1 ≤ c i ∧ c i < 256 ∧ ρ.2 1 0 (c i) ≠ 0 ∧ ρ.2 2 0 (c i) = n) ∧ (∀ i j, i < j → j < q → ρ.2 3 0 (c i) < ρ.2 3 0 (c j)) ∧ (∀ m : Nat, 1 ≤ m → m < 256 → ρ.2 1 0 m ≠ 0 → ρ.2 2 0 m = n → ∃ i, i < q ∧ m = c i) ∧ (∀ i, i < q → 1 ≤ ρ.2 3 0 (c i))
/-- k octets of a file behind the others -/
def cpO (σ : RS) (n om k : Nat) : RS := (fun i => if i = 28 then ((om + k : Nat) : Int) else σ.1 i, fun j r i => if j = 24 ∧ r = 0 ∧ om ≤ i ∧ i < om + k then σ.2 6 n (i - om) % 256 else σ.2 j r i)
theorem cpO_zero (σ : RS) (n om : Nat) (h : σ.1 28 = (om : Int)) : cpO σ n om 0 = σ := by
  unfold cpO
  apply Prod.ext
  · funext i
    show (if i = 28 then ((om + 0 : Nat) : Int) else σ.1 i) = _
    by_cases e : i = 28
    · rw [if_pos e, e, h]; rfl
    · rw [if_neg e]
  · funext j r i
    show (if j = 24 ∧ r = 0 ∧ om ≤ i ∧ i < om + 0 then _ else _) = _
    rw [if_neg (by omega)]
theorem cpO_succ (σ : RS) (n om k : Nat) (x f : Int) (hx : x = σ.2 6 n k % 256) (hf : f = ((om + k : Nat) : Int) + 1) : upA (upF (cpO σ n om k) 28 f) 24 0 (om + k) x = cpO σ n om (k + 1) := by
  subst hx hf
  unfold cpO upA upF
  apply Prod.ext
  · funext i
    show (if i = 28 then ((om + k : Nat) : Int) + 1 else if i = 28 then ((om + k : Nat) : Int) else σ.1 i) = (if i = 28 then ((om + (k + 1) : Nat) : Int) else σ.1 i)
    by_cases e : i = 28
    · rw [if_pos e, if_pos e]; omega
    · rw [if_neg e, if_neg e, if_neg e]
  · funext j r i
    show (if j = 24 ∧ r = 0 ∧ i = om + k then _ else if j = 24 ∧ r = 0 ∧ om ≤ i ∧ i < om + k then _ else _) = (if j = 24 ∧ r = 0 ∧ om ≤ i ∧ i < om + (k + 1) then _ else _)
    by_cases h1 : j = 24 ∧ r = 0 ∧ i = om + k
    · rw [if_pos h1, if_pos ⟨h1.1, h1.2.1, by omega, by omega⟩, h1.2.2, Nat.add_sub_cancel_left]
    · rw [if_neg h1]
      by_cases h2 : j = 24 ∧ r = 0 ∧ om ≤ i ∧ i < om + k
      · rw [if_pos h2, if_pos ⟨h2.1, h2.2.1, h2.2.2.1, by omega⟩]
      · rw [if_neg h2, if_neg (fun z => ?_)]
        by_cases h3 : i = om + k
        · exact h1 ⟨z.1, z.2.1, h3⟩
        · exact h2 ⟨z.1, z.2.1, z.2.2.1, by omega⟩
/-- k entries of a directory behind the others -/
def enO (σ : RS) (c : Nat → Nat) (em k : Nat) : RS := (fun i => if i = 29 then ((em + k : Nat) : Int) else σ.1 i, fun j r i => if j = 25 ∧ r = 0 ∧ em ≤ i ∧ i < em + k then σ.2 3 0 (c (i - em)) else if j = 26 ∧ r = 0 ∧ em ≤ i ∧ i < em + k then (c (i - em) : Int) else σ.2 j r i)
theorem enO_zero (σ : RS) (c : Nat → Nat) (em : Nat) (h : σ.1 29 = (em : Int)) : enO σ c em 0 = σ := by
  unfold enO
  apply Prod.ext
  · funext i
    show (if i = 29 then ((em + 0 : Nat) : Int) else σ.1 i) = _
    by_cases e : i = 29
    · rw [if_pos e, e, h]; rfl
    · rw [if_neg e]
  · funext j r i
    show (if j = 25 ∧ r = 0 ∧ em ≤ i ∧ i < em + 0 then _ else if j = 26 ∧ r = 0 ∧ em ≤ i ∧ i < em + 0 then _ else _) = _
    rw [if_neg (by omega), if_neg (by omega)]
theorem enO_succ (σ : RS) (c : Nat → Nat) (em k : Nat) (x y f : Int) (hx : x = σ.2 3 0 (c k)) (hy : y = c k) (hf : f = ((em + k : Nat) : Int) + 1) : upA (upF (upA (enO σ c em k) 25 0 (em + k) x) 29 f) 26 0 (em + k) y = enO σ c em (k + 1) := by
  subst hx hy hf
  unfold enO upA upF
  apply Prod.ext
  · funext i
    show (if i = 29 then ((em + k : Nat) : Int) + 1 else if i = 29 then ((em + k : Nat) : Int) else σ.1 i) = (if i = 29 then ((em + (k + 1) : Nat) : Int) else σ.1 i)
    by_cases e : i = 29
    · rw [if_pos e, if_pos e]; omega
    · rw [if_neg e, if_neg e, if_neg e]
  · funext j r i
    show (if j = 26 ∧ r = 0 ∧ i = em + k then ((c k : Nat) : Int) else if j = 25 ∧ r = 0 ∧ i = em + k then σ.2 3 0 (c k) else if j = 25 ∧ r = 0 ∧ em ≤ i ∧ i < em + k then σ.2 3 0 (c (i - em)) else if j = 26 ∧ r = 0 ∧ em ≤ i ∧ i < em + k then (c (i - em) : Int) else σ.2 j r i) = (if j = 25 ∧ r = 0 ∧ em ≤ i ∧ i < em + (k + 1) then σ.2 3 0 (c (i - em)) else if j = 26 ∧ r = 0 ∧ em ≤ i ∧ i < em + (k + 1) then (c (i - em) : Int) else σ.2 j r i)
    by_cases hr : r = 0
    · by_cases hi : i = em + k
      · have e1 : i - em = k := by omega
        by_cases h5 : j = 25
        · rw [if_neg (by omega), if_pos ⟨h5, hr, hi⟩, if_pos ⟨h5, hr, by omega, by omega⟩, e1]
        · by_cases h6 : j = 26
          · rw [if_pos ⟨h6, hr, hi⟩, if_neg (by omega), if_pos ⟨h6, hr, by omega, by omega⟩, e1]
          · rw [if_neg (by omega), if_neg (by omega), if_neg (by omega), if_neg (by omega), if_neg (by omega), if_neg (by omega)]
      · rw [if_neg (by omega), if_neg (by omega)]
        by_cases h2 : em ≤ i ∧ i < em + k
        · by_cases h5 : j = 25
          · rw [if_pos ⟨h5, hr, h2⟩, if_pos ⟨h5, hr, by omega, by omega⟩]
          · rw [if_neg (by omega), if_neg (c := j = 25 ∧ r = 0 ∧ em ≤ i ∧ i < em + (k + 1)) (by omega)]
            by_cases h6 : j = 26
            · rw [if_pos ⟨h6, hr, h2⟩, if_pos ⟨h6, hr, by omega, by omega⟩]
            · rw [if_neg (by omega), if_neg (by omega)]
        · rw [if_neg (by omega), if_neg (by omega), if_neg (by omega), if_neg (by omega)]
    · rw [if_neg (by omega), if_neg (by omega), if_neg (by omega), if_neg (by omega), if_neg (by omega), if_neg (by omega)]
/-- a record's own places -/
def rc1 (ρ : RS) (n : Nat) (sz fr : Int) : RS := upA (upA (upA (upA (upA (upA (upA (upF ρ 27 (ρ.1 27 + 1)) 17 0 (ρ.1 27).toNat n) 18 0 (ρ.1 27).toNat (ρ.2 1 0 n)) 19 0 (ρ.1 27).toNat (ρ.2 3 0 n)) 20 0 (ρ.1 27).toNat (ρ.2 2 0 n)) 22 0 (ρ.1 27).toNat (ρ.2 5 0 n)) 21 0 (ρ.1 27).toNat sz) 23 0 (ρ.1 27).toNat fr
section Rr11
variable {b L : Nat} {xs : Nat → Int32} {m0 : Nat} {h : AH} {ρ σ : RS}
set_option maxRecDepth 50000 in
theorem r_rec_ol (hb : b < m0) (hg : Rg σ) (d : Nat) {n om sz : Nat} {r : Int} (hn : n < 256) (hsz : σ.2 4 0 n = (sz : Int)) (h1 : sz ≤ 512) (h2 : om + sz ≤ 256000) : ∀ m k : Nat, k + m = sz → Wp b L xs d mi_126 101 [some (.ref m0), some (vI n), some (vI r), some (vI k), none, none, none] [] (RH m0 h (cpO σ n om k)) (Rn (RH m0 h (cpO σ n om sz))) := by
  intro m
  induction m with
  | zero =>
    intro k hk
    obtain rfl : k = sz := hk
    refine w_iload_n rfl rfl ?_
    refine w_aload_n rfl rfl ?_
    refine m_get rfl rfl ?_
    refine w_iload_n rfl rfl ?_
    refine m_iaload rfl hb rl_4 (by first | omega | (simp only [Int.toNat_natCast, upF_2] at *; omega)) (by first | omega | (simp only [Int.toNat_natCast, upF_2] at *; omega)) ?_
    rw [show (cpO σ n om k).2 4 0 (n : Int).toNat = (k : Int) from hsz]
    refine w_icge_t rfl (by first | omega | exact (hg.2 _ _ _).1 | exact (hg.1 _).1 | (simp only [Int.toNat_natCast, upF_2] at *; omega)) (by first | omega | exact (hg.2 _ _ _).2 | exact (hg.1 _).2 | (simp only [Int.toNat_natCast, upF_2] at *; omega)) (by first | omega | exact (hg.2 _ _ _).1 | exact (hg.1 _).1 | (simp only [Int.toNat_natCast, upF_2] at *; omega)) (by first | omega | exact (hg.2 _ _ _).2 | exact (hg.1 _).2 | (simp only [Int.toNat_natCast, upF_2] at *; omega)) (by first | omega | (simp only [Int.toNat_natCast, upF_2] at *; omega)) ?_
    refine w_return rfl rfl ?_
    exact ⟨rfl, rfl⟩
  | succ m ih =>
    intro k hk
    refine w_iload_n rfl rfl ?_
    refine w_aload_n rfl rfl ?_
    refine m_get rfl rfl ?_
    refine w_iload_n rfl rfl ?_
    refine m_iaload rfl hb rl_4 (by first | omega | (simp only [Int.toNat_natCast, upF_2] at *; omega)) (by first | omega | (simp only [Int.toNat_natCast, upF_2] at *; omega)) ?_
    rw [show (cpO σ n om k).2 4 0 (n : Int).toNat = (sz : Int) from hsz]
    refine w_icge_f rfl (by first | omega | exact (hg.2 _ _ _).1 | exact (hg.1 _).1 | (simp only [Int.toNat_natCast, upF_2] at *; omega)) (by first | omega | exact (hg.2 _ _ _).2 | exact (hg.1 _).2 | (simp only [Int.toNat_natCast, upF_2] at *; omega)) (by first | omega | exact (hg.2 _ _ _).1 | exact (hg.1 _).1 | (simp only [Int.toNat_natCast, upF_2] at *; omega)) (by first | omega | exact (hg.2 _ _ _).2 | exact (hg.1 _).2 | (simp only [Int.toNat_natCast, upF_2] at *; omega)) (by first | omega | (simp only [Int.toNat_natCast, upF_2] at *; omega)) ?_
    refine w_aload_n rfl rfl ?_
    refine m_get rfl rfl ?_
    refine w_aload_n rfl rfl ?_
    refine w_dupR rfl ?_
    refine m_get rfl rfl ?_
    rw [show (cpO σ n om k).1 28 = ((om + k : Nat) : Int) from rfl]
    refine w_dup_x1 rfl ?_
    refine w_iconst rfl ?_
    refine w_iadd rfl ?_
    refine m_put rfl rfl rfl rfl ?_
    refine w_aload_n rfl rfl ?_
    refine m_get rfl rfl ?_
    refine w_iload_n rfl rfl ?_
    refine m_aaload rfl rfl (by first | omega | (simp only [Int.toNat_natCast, upF_2] at *; omega)) (by first | omega | (simp only [Int.toNat_natCast, upF_2] at *; omega)) ?_
    refine w_iload_n rfl rfl ?_
    refine m_baload rfl (rlay_r6 (by first | omega | (simp only [Int.toNat_natCast, upF_2] at *; omega))) (by first | omega | (simp only [Int.toNat_natCast, upF_2] at *; omega)) (by first | omega | (simp only [Int.toNat_natCast, upF_2] at *; omega)) ?_
    rw [show (upF (cpO σ n om k) 28 (((om + k : Nat) : Int) + 1)).2 6 (n : Int).toNat (k : Int).toNat = σ.2 6 n k from rfl]
    refine m_bastore rfl rl_24 (by first | omega | (simp only [Int.toNat_natCast, upF_2] at *; omega)) (by first | omega | (simp only [Int.toNat_natCast, upF_2] at *; omega)) ?_
    rw [Int.toNat_natCast, cpO_succ σ n om k _ _ (sb_mod _) rfl]
    refine w_iinc rfl rfl (by decide) ?_
    refine w_goto rfl ?_
    exact ih (k + 1) (by omega)
set_option maxRecDepth 50000 in
theorem r_rec_in (hb : b < m0) (hg : Rg σ) {Q : AH → RO → Prop} (d : Nat) {n t : Nat} {r last : Int} {kk : Int} (hn : n < 256) (l1 : 0 ≤ last) (l2 : last ≤ 2147483647) (t1 : 1 ≤ t) (t2 : t < 256) (t3 : σ.2 1 0 t ≠ 0) (t4 : σ.2 2 0 t = n) (t5 : last < σ.2 3 0 t) (t6 : ∀ m : Nat, 1 ≤ m → m < 256 → m ≠ t → σ.2 1 0 m ≠ 0 → σ.2 2 0 m = n → last < σ.2 3 0 m → σ.2 3 0 t < σ.2 3 0 m) (K : Wp b L xs d mi_126 257 [some (.ref m0), some (vI n), some (vI r), some (vI last), some (vI kk), some (vI t), some (vI 256)] [] (RH m0 h σ) Q) : ∀ (m k : Nat) (cur : Int), k + m = 256 → 1 ≤ k → ((k ≤ t ∧ (cur = -1 ∨ (0 ≤ cur ∧ cur < 256 ∧ σ.2 3 0 t < σ.2 3 0 cur.toNat))) ∨ (t < k ∧ cur = t)) → Wp b L xs d mi_126 185 [some (.ref m0), some (vI n), some (vI r), some (vI last), some (vI kk), some (vI cur), some (vI k)] [] (RH m0 h σ) Q := by
  intro m
  induction m with
  | zero =>
    intro k cur hk k1 hc
    obtain rfl : k = 256 := hk
    obtain rfl : cur = t := by omega
    refine w_iload rfl rfl ?_
    refine w_sipush rfl rfl ?_
    refine w_icge_t rfl (by first | omega | exact (hg.2 _ _ _).1 | exact (hg.1 _).1 | (simp only [Int.toNat_natCast, upF_2] at *; omega)) (by first | omega | exact (hg.2 _ _ _).2 | exact (hg.1 _).2 | (simp only [Int.toNat_natCast, upF_2] at *; omega)) (by first | omega | exact (hg.2 _ _ _).1 | exact (hg.1 _).1 | (simp only [Int.toNat_natCast, upF_2] at *; omega)) (by first | omega | exact (hg.2 _ _ _).2 | exact (hg.1 _).2 | (simp only [Int.toNat_natCast, upF_2] at *; omega)) (by first | omega | (simp only [Int.toNat_natCast, upF_2] at *; omega)) ?_
    exact K
  | succ m ih =>
    intro k cur hk k1 hc
    have go : ∀ cur' : Int, (((k + 1 ≤ t ∧ (cur' = -1 ∨ (0 ≤ cur' ∧ cur' < 256 ∧ σ.2 3 0 t < σ.2 3 0 cur'.toNat))) ∨ (t < k + 1 ∧ cur' = t))) → Wp b L xs d mi_126 251 [some (.ref m0), some (vI n), some (vI r), some (vI last), some (vI kk), some (vI cur'), some (vI k)] [] (RH m0 h σ) Q := by
      intro cur' hc'
      refine w_iinc rfl rfl (by decide) ?_
      refine w_goto rfl ?_
      exact ih (k + 1) cur' (by omega) (by omega) hc'
    by_cases hkt : k = t
    · subst hkt
      have hc : cur = -1 ∨ (0 ≤ cur ∧ cur < 256 ∧ σ.2 3 0 k < σ.2 3 0 cur.toNat) := by omega
      by_cases q : cur = -1
      · refine w_iload rfl rfl ?_
        refine w_sipush rfl rfl ?_
        refine w_icge_f rfl (by first | omega | exact (hg.2 _ _ _).1 | exact (hg.1 _).1 | (simp only [Int.toNat_natCast, upF_2] at *; omega)) (by first | omega | exact (hg.2 _ _ _).2 | exact (hg.1 _).2 | (simp only [Int.toNat_natCast, upF_2] at *; omega)) (by first | omega | exact (hg.2 _ _ _).1 | exact (hg.1 _).1 | (simp only [Int.toNat_natCast, upF_2] at *; omega)) (by first | omega | exact (hg.2 _ _ _).2 | exact (hg.1 _).2 | (simp only [Int.toNat_natCast, upF_2] at *; omega)) (by first | omega | (simp only [Int.toNat_natCast, upF_2] at *; omega)) ?_
        refine w_aload_n rfl rfl ?_
        refine m_get rfl rfl ?_
        refine w_iload rfl rfl ?_
        refine m_iaload rfl hb rl_1 (by first | omega | (simp only [Int.toNat_natCast, upF_2] at *; omega)) (by first | omega | (simp only [Int.toNat_natCast, upF_2] at *; omega)) ?_
        refine w_ifeq_f rfl (by first | omega | exact (hg.2 _ _ _).1 | exact (hg.1 _).1 | (simp only [Int.toNat_natCast, upF_2] at *; omega)) (by first | omega | exact (hg.2 _ _ _).2 | exact (hg.1 _).2 | (simp only [Int.toNat_natCast, upF_2] at *; omega)) (by first | omega | (simp only [Int.toNat_natCast, upF_2] at *; omega)) ?_
        refine w_aload_n rfl rfl ?_
        refine m_get rfl rfl ?_
        refine w_iload rfl rfl ?_
        refine m_iaload rfl hb rl_2 (by first | omega | (simp only [Int.toNat_natCast, upF_2] at *; omega)) (by first | omega | (simp only [Int.toNat_natCast, upF_2] at *; omega)) ?_
        refine w_iload_n rfl rfl ?_
        refine w_icne_f rfl (by first | omega | exact (hg.2 _ _ _).1 | exact (hg.1 _).1 | (simp only [Int.toNat_natCast, upF_2] at *; omega)) (by first | omega | exact (hg.2 _ _ _).2 | exact (hg.1 _).2 | (simp only [Int.toNat_natCast, upF_2] at *; omega)) (by first | omega | exact (hg.2 _ _ _).1 | exact (hg.1 _).1 | (simp only [Int.toNat_natCast, upF_2] at *; omega)) (by first | omega | exact (hg.2 _ _ _).2 | exact (hg.1 _).2 | (simp only [Int.toNat_natCast, upF_2] at *; omega)) (by first | omega | (simp only [Int.toNat_natCast, upF_2] at *; omega)) ?_
        refine w_aload_n rfl rfl ?_
        refine m_get rfl rfl ?_
        refine w_iload rfl rfl ?_
        refine m_iaload rfl hb rl_3 (by first | omega | (simp only [Int.toNat_natCast, upF_2] at *; omega)) (by first | omega | (simp only [Int.toNat_natCast, upF_2] at *; omega)) ?_
        refine w_iload_n rfl rfl ?_
        refine w_icle_f rfl (by first | omega | exact (hg.2 _ _ _).1 | exact (hg.1 _).1 | (simp only [Int.toNat_natCast, upF_2] at *; omega)) (by first | omega | exact (hg.2 _ _ _).2 | exact (hg.1 _).2 | (simp only [Int.toNat_natCast, upF_2] at *; omega)) (by first | omega | exact (hg.2 _ _ _).1 | exact (hg.1 _).1 | (simp only [Int.toNat_natCast, upF_2] at *; omega)) (by first | omega | exact (hg.2 _ _ _).2 | exact (hg.1 _).2 | (simp only [Int.toNat_natCast, upF_2] at *; omega)) (by first | omega | (simp only [Int.toNat_natCast, upF_2] at *; omega)) ?_
        refine w_iload rfl rfl ?_
        refine w_iflt_t rfl (by first | omega | exact (hg.2 _ _ _).1 | exact (hg.1 _).1 | (simp only [Int.toNat_natCast, upF_2] at *; omega)) (by first | omega | exact (hg.2 _ _ _).2 | exact (hg.1 _).2 | (simp only [Int.toNat_natCast, upF_2] at *; omega)) (by first | omega | (simp only [Int.toNat_natCast, upF_2] at *; omega)) ?_
        refine w_iload rfl rfl ?_
        refine w_istore rfl (by decide) ?_
        exact go k (by omega)
      refine w_iload rfl rfl ?_
      refine w_sipush rfl rfl ?_
      refine w_icge_f rfl (by first | omega | exact (hg.2 _ _ _).1 | exact (hg.1 _).1 | (simp only [Int.toNat_natCast, upF_2] at *; omega)) (by first | omega | exact (hg.2 _ _ _).2 | exact (hg.1 _).2 | (simp only [Int.toNat_natCast, upF_2] at *; omega)) (by first | omega | exact (hg.2 _ _ _).1 | exact (hg.1 _).1 | (simp only [Int.toNat_natCast, upF_2] at *; omega)) (by first | omega | exact (hg.2 _ _ _).2 | exact (hg.1 _).2 | (simp only [Int.toNat_natCast, upF_2] at *; omega)) (by first | omega | (simp only [Int.toNat_natCast, upF_2] at *; omega)) ?_
      refine w_aload_n rfl rfl ?_
      refine m_get rfl rfl ?_
      refine w_iload rfl rfl ?_
      refine m_iaload rfl hb rl_1 (by first | omega | (simp only [Int.toNat_natCast, upF_2] at *; omega)) (by first | omega | (simp only [Int.toNat_natCast, upF_2] at *; omega)) ?_
      refine w_ifeq_f rfl (by first | omega | exact (hg.2 _ _ _).1 | exact (hg.1 _).1 | (simp only [Int.toNat_natCast, upF_2] at *; omega)) (by first | omega | exact (hg.2 _ _ _).2 | exact (hg.1 _).2 | (simp only [Int.toNat_natCast, upF_2] at *; omega)) (by first | omega | (simp only [Int.toNat_natCast, upF_2] at *; omega)) ?_
      refine w_aload_n rfl rfl ?_
      refine m_get rfl rfl ?_
      refine w_iload rfl rfl ?_
      refine m_iaload rfl hb rl_2 (by first | omega | (simp only [Int.toNat_natCast, upF_2] at *; omega)) (by first | omega | (simp only [Int.toNat_natCast, upF_2] at *; omega)) ?_
      refine w_iload_n rfl rfl ?_
      refine w_icne_f rfl (by first | omega | exact (hg.2 _ _ _).1 | exact (hg.1 _).1 | (simp only [Int.toNat_natCast, upF_2] at *; omega)) (by first | omega | exact (hg.2 _ _ _).2 | exact (hg.1 _).2 | (simp only [Int.toNat_natCast, upF_2] at *; omega)) (by first | omega | exact (hg.2 _ _ _).1 | exact (hg.1 _).1 | (simp only [Int.toNat_natCast, upF_2] at *; omega)) (by first | omega | exact (hg.2 _ _ _).2 | exact (hg.1 _).2 | (simp only [Int.toNat_natCast, upF_2] at *; omega)) (by first | omega | (simp only [Int.toNat_natCast, upF_2] at *; omega)) ?_
      refine w_aload_n rfl rfl ?_
      refine m_get rfl rfl ?_
      refine w_iload rfl rfl ?_
      refine m_iaload rfl hb rl_3 (by first | omega | (simp only [Int.toNat_natCast, upF_2] at *; omega)) (by first | omega | (simp only [Int.toNat_natCast, upF_2] at *; omega)) ?_
      refine w_iload_n rfl rfl ?_
      refine w_icle_f rfl (by first | omega | exact (hg.2 _ _ _).1 | exact (hg.1 _).1 | (simp only [Int.toNat_natCast, upF_2] at *; omega)) (by first | omega | exact (hg.2 _ _ _).2 | exact (hg.1 _).2 | (simp only [Int.toNat_natCast, upF_2] at *; omega)) (by first | omega | exact (hg.2 _ _ _).1 | exact (hg.1 _).1 | (simp only [Int.toNat_natCast, upF_2] at *; omega)) (by first | omega | exact (hg.2 _ _ _).2 | exact (hg.1 _).2 | (simp only [Int.toNat_natCast, upF_2] at *; omega)) (by first | omega | (simp only [Int.toNat_natCast, upF_2] at *; omega)) ?_
      refine w_iload rfl rfl ?_
      refine w_iflt_f rfl (by first | omega | exact (hg.2 _ _ _).1 | exact (hg.1 _).1 | (simp only [Int.toNat_natCast, upF_2] at *; omega)) (by first | omega | exact (hg.2 _ _ _).2 | exact (hg.1 _).2 | (simp only [Int.toNat_natCast, upF_2] at *; omega)) (by first | omega | (simp only [Int.toNat_natCast, upF_2] at *; omega)) ?_
      refine w_aload_n rfl rfl ?_
      refine m_get rfl rfl ?_
      refine w_iload rfl rfl ?_
      refine m_iaload rfl hb rl_3 (by first | omega | (simp only [Int.toNat_natCast, upF_2] at *; omega)) (by first | omega | (simp only [Int.toNat_natCast, upF_2] at *; omega)) ?_
      refine w_aload_n rfl rfl ?_
      refine m_get rfl rfl ?_
      refine w_iload rfl rfl ?_
      refine m_iaload rfl hb rl_3 (by first | omega | (simp only [Int.toNat_natCast, upF_2] at *; omega)) (by first | omega | (simp only [Int.toNat_natCast, upF_2] at *; omega)) ?_
      refine w_icge_f rfl (by first | omega | exact (hg.2 _ _ _).1 | exact (hg.1 _).1 | (simp only [Int.toNat_natCast, upF_2] at *; omega)) (by first | omega | exact (hg.2 _ _ _).2 | exact (hg.1 _).2 | (simp only [Int.toNat_natCast, upF_2] at *; omega)) (by first | omega | exact (hg.2 _ _ _).1 | exact (hg.1 _).1 | (simp only [Int.toNat_natCast, upF_2] at *; omega)) (by first | omega | exact (hg.2 _ _ _).2 | exact (hg.1 _).2 | (simp only [Int.toNat_natCast, upF_2] at *; omega)) (by first | omega | (simp only [Int.toNat_natCast, upF_2] at *; omega)) ?_
      refine w_iload rfl rfl ?_
      refine w_istore rfl (by decide) ?_
      exact go k (by omega)
    · have skip : ∀ x : Prop, x → Wp b L xs d mi_126 251 [some (.ref m0), some (vI n), some (vI r), some (vI last), some (vI kk), some (vI cur), some (vI k)] [] (RH m0 h σ) Q := fun _ _ => go cur (by omega)
      have t7 := t6 k k1 (by omega) hkt
      refine w_iload rfl rfl ?_
      refine w_sipush rfl rfl ?_
      refine w_icge_f rfl (by first | omega | exact (hg.2 _ _ _).1 | exact (hg.1 _).1 | (simp only [Int.toNat_natCast, upF_2] at *; omega)) (by first | omega | exact (hg.2 _ _ _).2 | exact (hg.1 _).2 | (simp only [Int.toNat_natCast, upF_2] at *; omega)) (by first | omega | exact (hg.2 _ _ _).1 | exact (hg.1 _).1 | (simp only [Int.toNat_natCast, upF_2] at *; omega)) (by first | omega | exact (hg.2 _ _ _).2 | exact (hg.1 _).2 | (simp only [Int.toNat_natCast, upF_2] at *; omega)) (by first | omega | (simp only [Int.toNat_natCast, upF_2] at *; omega)) ?_
      refine w_aload_n rfl rfl ?_
      refine m_get rfl rfl ?_
      refine w_iload rfl rfl ?_
      refine m_iaload rfl hb rl_1 (by first | omega | (simp only [Int.toNat_natCast, upF_2] at *; omega)) (by first | omega | (simp only [Int.toNat_natCast, upF_2] at *; omega)) ?_
      refine w_ifeq rfl (by first | omega | exact (hg.2 _ _ _).1 | exact (hg.1 _).1 | (simp only [Int.toNat_natCast, upF_2] at *; omega)) (by first | omega | exact (hg.2 _ _ _).2 | exact (hg.1 _).2 | (simp only [Int.toNat_natCast, upF_2] at *; omega)) (fun c1 => ?_) (fun c1 => ?_)
      · exact skip True trivial
      · refine w_aload_n rfl rfl ?_
        refine m_get rfl rfl ?_
        refine w_iload rfl rfl ?_
        refine m_iaload rfl hb rl_2 (by first | omega | (simp only [Int.toNat_natCast, upF_2] at *; omega)) (by first | omega | (simp only [Int.toNat_natCast, upF_2] at *; omega)) ?_
        refine w_iload_n rfl rfl ?_
        refine w_icne rfl (by first | omega | exact (hg.2 _ _ _).1 | exact (hg.1 _).1 | (simp only [Int.toNat_natCast, upF_2] at *; omega)) (by first | omega | exact (hg.2 _ _ _).2 | exact (hg.1 _).2 | (simp only [Int.toNat_natCast, upF_2] at *; omega)) (by first | omega | exact (hg.2 _ _ _).1 | exact (hg.1 _).1 | (simp only [Int.toNat_natCast, upF_2] at *; omega)) (by first | omega | exact (hg.2 _ _ _).2 | exact (hg.1 _).2 | (simp only [Int.toNat_natCast, upF_2] at *; omega)) (fun c2 => ?_) (fun c2 => ?_)
        · exact skip True trivial
        · refine w_aload_n rfl rfl ?_
          refine m_get rfl rfl ?_
          refine w_iload rfl rfl ?_
          refine m_iaload rfl hb rl_3 (by first | omega | (simp only [Int.toNat_natCast, upF_2] at *; omega)) (by first | omega | (simp only [Int.toNat_natCast, upF_2] at *; omega)) ?_
          refine w_iload_n rfl rfl ?_
          refine w_icle rfl (by first | omega | exact (hg.2 _ _ _).1 | exact (hg.1 _).1 | (simp only [Int.toNat_natCast, upF_2] at *; omega)) (by first | omega | exact (hg.2 _ _ _).2 | exact (hg.1 _).2 | (simp only [Int.toNat_natCast, upF_2] at *; omega)) (by first | omega | exact (hg.2 _ _ _).1 | exact (hg.1 _).1 | (simp only [Int.toNat_natCast, upF_2] at *; omega)) (by first | omega | exact (hg.2 _ _ _).2 | exact (hg.1 _).2 | (simp only [Int.toNat_natCast, upF_2] at *; omega)) (fun c3 => ?_) (fun c3 => ?_)
          · exact skip True trivial
          · have z1 : σ.2 1 0 k ≠ 0 := c1
            have z2 : σ.2 2 0 k = n := Decidable.of_not_not c2
            have z3 : last < σ.2 3 0 k := Int.not_le.mp c3
            refine w_iload rfl rfl ?_
            refine w_iflt rfl (by first | omega | exact (hg.2 _ _ _).1 | exact (hg.1 _).1 | (simp only [Int.toNat_natCast, upF_2] at *; omega)) (by first | omega | exact (hg.2 _ _ _).2 | exact (hg.1 _).2 | (simp only [Int.toNat_natCast, upF_2] at *; omega)) (fun c4 => ?_) (fun c4 => ?_)
            · refine w_iload rfl rfl ?_
              refine w_istore rfl (by decide) ?_
              by_cases q2 : k < t
              · exact go k (Or.inl ⟨by omega, Or.inr ⟨by omega, by omega, by rw [Int.toNat_natCast]; exact t7 z1 z2 z3⟩⟩)
              · exact absurd c4 (by omega)
            · refine w_aload_n rfl rfl ?_
              refine m_get rfl rfl ?_
              refine w_iload rfl rfl ?_
              refine m_iaload rfl hb rl_3 (by first | omega | (simp only [Int.toNat_natCast, upF_2] at *; omega)) (by first | omega | (simp only [Int.toNat_natCast, upF_2] at *; omega)) ?_
              refine w_aload_n rfl rfl ?_
              refine m_get rfl rfl ?_
              refine w_iload rfl rfl ?_
              refine m_iaload rfl hb rl_3 (by first | omega | (simp only [Int.toNat_natCast, upF_2] at *; omega)) (by first | omega | (simp only [Int.toNat_natCast, upF_2] at *; omega)) ?_
              refine w_icge rfl (by first | omega | exact (hg.2 _ _ _).1 | exact (hg.1 _).1 | (simp only [Int.toNat_natCast, upF_2] at *; omega)) (by first | omega | exact (hg.2 _ _ _).2 | exact (hg.1 _).2 | (simp only [Int.toNat_natCast, upF_2] at *; omega)) (by first | omega | exact (hg.2 _ _ _).1 | exact (hg.1 _).1 | (simp only [Int.toNat_natCast, upF_2] at *; omega)) (by first | omega | exact (hg.2 _ _ _).2 | exact (hg.1 _).2 | (simp only [Int.toNat_natCast, upF_2] at *; omega)) (fun c5 => ?_) (fun c5 => ?_)
              · exact skip True trivial
              · refine w_iload rfl rfl ?_
                refine w_istore rfl (by decide) ?_
                by_cases q2 : k < t
                · exact go k (Or.inl ⟨by omega, Or.inr ⟨by omega, by omega, by rw [Int.toNat_natCast]; exact t7 z1 z2 z3⟩⟩)
                · obtain ⟨q3, q4⟩ : t < k ∧ cur = t := by omega
                  subst q4
                  have z4 := t7 z1 z2 z3
                  rw [Int.toNat_natCast, Int.toNat_natCast] at c5
                  exact absurd c5 (by omega)
end Rr11
