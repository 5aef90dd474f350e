/-! the reference's one(d) -/
def yNo : Option (Nat × Nat × (Nat → Bool)) × Bool := (none, false)
def ydr (ρ : RS) (e k : Nat) (Y : YS) : YS := fun n => if n < k ∧ ρ.2 15 e n = 0 then yNo else Y n
def yrecs (ρ : RS) : Nat → Nat → Nat → YS → YS
  | _, _, 0, Y => Y
  | a, r, m + 1, Y => yrecs ρ (a + 1 + (cont ρ r).toNat) (r + 1) m (yback ρ r a Y)
def yone (ρ : RS) (e : Nat) (Y : YS) : YS := yrecs ρ (ρ.2 13 0 e + (2 + nix ρ e)).toNat (ρ.2 14 0 e).toNat (ρ.2 14 0 (e + 1) - ρ.2 14 0 e).toNat (ydr ρ e 256 Y)
/-- how many blocks of a dump can be read -/
def rdN (ρ : RS) (e : Nat) : Nat := cnt (fun k => ρ.2 30 0 k = 0) (ρ.2 13 0 e).toNat (ρ.2 13 0 (e + 1) - ρ.2 13 0 e).toNat
theorem yback_congr {σ τ : RS} (hS : SameX σ τ) (r a : Nat) (Y : YS) : yback τ r a Y = yback σ r a Y := by
  funext m
  unfold yback
  have hg : gone τ a = gone σ a := by
    funext i
    unfold gone
    rw [hS 30 0 _ (by decide)]
  rw [hg, hS 17 0 r (by decide), hS 30 0 a (by decide), cont_keep (fun j i h1 h2 => hS j 0 i (by omega))]
theorem XInv_set {σ τ : RS} {Y Z : YS} {k : Nat} (hX : XInv σ Y) (hS : SameX σ τ) (h1 : τ.2 32 0 k = 0) (h2 : τ.2 38 0 k = 0) (h3 : ∀ j r i, ¬ (r = 0 ∧ i = k ∧ (j = 32 ∨ j = 37 ∨ j = 38)) → τ.2 j r i = σ.2 j r i) (hk : Z k = yNo) (hZ : ∀ n, n ≠ k → Z n = Y n) : XInv τ Z := by
  intro n hn
  by_cases e : n = k
  · subst e
    rw [hk]
    exact ⟨by rw [h2]; rfl, h1⟩
  · rw [hZ n e]
    obtain ⟨x1, x2⟩ := hX n hn
    refine ⟨(h3 38 0 n (by omega)).trans x1, ?_⟩
    cases hY : (Y n).1 with
    | none =>
      rw [hY] at x2
      exact (h3 32 0 n (by omega)).trans x2
    | some q =>
      rw [hY] at x2
      exact x2.keep hS (fun j i a b c => h3 j 0 i (by omega)) (fun j i a b => h3 j n i (by omega))
set_option maxRecDepth 50000 in
theorem r_contN {b L : Nat} {xs : Nat → Int32} {m0 : Nat} {h : AH} {ρ : RS} (hb : b < m0) (hg : Rg ρ) (d : Nat) (hd : 1 ≤ d) {r : Nat} (hr : r < 4000) (ho : RecOk ρ r) : Wp b L xs d mi_135 0 (ent (mL mi_135) [.ref m0, vI r]) [] (RH m0 h ρ) (Rt (RH m0 h ρ) (vI (cont ρ r))) := by
  obtain ⟨-, -, h3, -, -, -, -, h8, h9, -, -, -, -, h14⟩ := ho
  exact r_cont hb hg d hd (n := (r : Int)) (by omega) (by omega) h8 (by rw [Int.toNat_natCast]; omega)
/-- the state behind a piece of one(d) -/
def OInv (σ τ : RS) (Y : YS) (rd : Int) : Prop := SameX σ τ ∧ (∀ k, k ≠ 45 → τ.1 k = σ.1 k) ∧ τ.1 45 = rd ∧ Rg τ ∧ XInv τ Y
section Rr18
variable {b L : Nat} {xs : Nat → Int32} {m0 : Nat} {h : AH} {ρ : RS}
variable {σ : RS} {Y : YS}
set_option maxRecDepth 50000 in
theorem r_one_l1 (hb : b < m0) {Q : AH → RO → Prop} (d : Nat) {e : Nat} {rd : Int} (he : e < 100) (ht : ∀ n, n < 256 → 0 ≤ σ.2 15 e n ∧ σ.2 15 e n ≤ 1) (kk : ∀ τ, OInv σ τ (ydr σ e 256 Y) rd → Wp b L xs d mi_139 40 [some (.ref m0), some (vI e), some (vI 256), none] [] (RH m0 h τ) Q) : ∀ (m k : Nat) (τ : RS), k + m = 256 → OInv σ τ (ydr σ e k Y) rd → Wp b L xs d mi_139 2 [some (.ref m0), some (vI e), some (vI k), none] [] (RH m0 h τ) Q := by
  intro m
  induction m with
  | zero =>
    intro k τ hk hO
    obtain rfl : k = 256 := hk
    refine w_iload_n rfl rfl ?_
    refine w_sipush rfl rfl ?_
    refine w_icge_t rfl (by first | omega | exact (hg.2 _ _ _).1 | exact (hg.1 _).1 | (simp only [Int.toNat_natCast, upF_2] at *; omega)) (by first | omega | exact (hg.2 _ _ _).2 | exact (hg.1 _).2 | (simp only [Int.toNat_natCast, upF_2] at *; omega)) (by first | omega | exact (hg.2 _ _ _).1 | exact (hg.1 _).1 | (simp only [Int.toNat_natCast, upF_2] at *; omega)) (by first | omega | exact (hg.2 _ _ _).2 | exact (hg.1 _).2 | (simp only [Int.toNat_natCast, upF_2] at *; omega)) (by first | omega | (simp only [Int.toNat_natCast, upF_2] at *; omega)) ?_
    exact kk τ hO
  | succ m ih =>
    intro k τ hk hO
    have hO2 := hO
    obtain ⟨s1, s2, s3, hg, s5⟩ := hO2
    have t15 : τ.2 15 e k = σ.2 15 e k := s1 15 e k (by decide)
    have h15 := ht k (by omega)
    by_cases q : σ.2 15 e k = 0
    · refine w_iload_n rfl rfl ?_
      refine w_sipush rfl rfl ?_
      refine w_icge_f rfl (by first | omega | exact (hg.2 _ _ _).1 | exact (hg.1 _).1 | (simp only [Int.toNat_natCast, upF_2] at *; omega)) (by first | omega | exact (hg.2 _ _ _).2 | exact (hg.1 _).2 | (simp only [Int.toNat_natCast, upF_2] at *; omega)) (by first | omega | exact (hg.2 _ _ _).1 | exact (hg.1 _).1 | (simp only [Int.toNat_natCast, upF_2] at *; omega)) (by first | omega | exact (hg.2 _ _ _).2 | exact (hg.1 _).2 | (simp only [Int.toNat_natCast, upF_2] at *; omega)) (by first | omega | (simp only [Int.toNat_natCast, upF_2] at *; omega)) ?_
      refine w_aload_n rfl rfl ?_
      refine m_get rfl rfl ?_
      refine w_iload_n rfl rfl ?_
      refine m_aaload rfl rfl (by first | omega | (simp only [Int.toNat_natCast, upF_2] at *; omega)) (by first | omega | (simp only [Int.toNat_natCast, upF_2] at *; omega)) ?_
      refine w_iload_n rfl rfl ?_
      refine m_zaload rfl (rlay_r15 (by first | omega | (simp only [Int.toNat_natCast, upF_2] at *; omega))) (by first | omega | (simp only [Int.toNat_natCast, upF_2] at *; omega)) (by first | omega | (simp only [Int.toNat_natCast, upF_2] at *; omega)) ?_
      rw [Int.toNat_natCast, Int.toNat_natCast, t15]
      refine w_ifne_f rfl (by first | omega | exact (hg.2 _ _ _).1 | exact (hg.1 _).1 | (simp only [Int.toNat_natCast, upF_2] at *; omega)) (by first | omega | exact (hg.2 _ _ _).2 | exact (hg.1 _).2 | (simp only [Int.toNat_natCast, upF_2] at *; omega)) (by first | omega | (simp only [Int.toNat_natCast, upF_2] at *; omega)) ?_
      refine w_aload_n rfl rfl ?_
      refine m_get rfl rfl ?_
      refine w_iload_n rfl rfl ?_
      refine w_iconst rfl ?_
      refine m_iastore rfl rl_32 (by first | omega | (simp only [Int.toNat_natCast, upF_2] at *; omega)) (by first | omega | (simp only [Int.toNat_natCast, upF_2] at *; omega)) ?_
      refine w_aload_n rfl rfl ?_
      refine m_get rfl rfl ?_
      refine w_iload_n rfl rfl ?_
      refine w_iconst rfl ?_
      refine m_zastore rfl rl_38 (by first | omega | (simp only [Int.toNat_natCast, upF_2] at *; omega)) (by first | omega | (simp only [Int.toNat_natCast, upF_2] at *; omega)) (by first | omega | (simp only [Int.toNat_natCast, upF_2] at *; omega)) ?_
      simp only [Int.toNat_natCast]
      refine w_iinc rfl rfl (by decide) ?_
      refine w_goto rfl ?_
      have hS2 : SameX τ (upA (upA τ 32 0 k 0) 38 0 k 0) := fun j r i hj => by rw [upA_ne (by omega), upA_ne (by omega)]
      refine ih (k + 1) (upA (upA τ 32 0 k 0) 38 0 k 0) (by omega) ⟨fun j r i hj => (hS2 j r i hj).trans (s1 j r i hj), s2, s3, (hg.upA 32 0 k (by decide) (by decide)).upA 38 0 k (by decide) (by decide), ?_⟩
      refine XInv_set (k := k) s5 hS2 (by rw [upA_ne (by omega), upA_eq]) upA_eq (fun j r i hj => by rw [upA_ne (by omega), upA_ne (by omega)]) ?_ (fun n hn => ?_)
      · unfold ydr
        rw [if_pos ⟨by omega, q⟩]
      · unfold ydr
        by_cases z : n < k ∧ σ.2 15 e n = 0
        · rw [if_pos z, if_pos ⟨by omega, z.2⟩]
        · rw [if_neg z, if_neg (fun y => z ⟨by omega, y.2⟩)]
    refine w_iload_n rfl rfl ?_
    refine w_sipush rfl rfl ?_
    refine w_icge_f rfl (by first | omega | exact (hg.2 _ _ _).1 | exact (hg.1 _).1 | (simp only [Int.toNat_natCast, upF_2] at *; omega)) (by first | omega | exact (hg.2 _ _ _).2 | exact (hg.1 _).2 | (simp only [Int.toNat_natCast, upF_2] at *; omega)) (by first | omega | exact (hg.2 _ _ _).1 | exact (hg.1 _).1 | (simp only [Int.toNat_natCast, upF_2] at *; omega)) (by first | omega | exact (hg.2 _ _ _).2 | exact (hg.1 _).2 | (simp only [Int.toNat_natCast, upF_2] at *; omega)) (by first | omega | (simp only [Int.toNat_natCast, upF_2] at *; omega)) ?_
    refine w_aload_n rfl rfl ?_
    refine m_get rfl rfl ?_
    refine w_iload_n rfl rfl ?_
    refine m_aaload rfl rfl (by first | omega | (simp only [Int.toNat_natCast, upF_2] at *; omega)) (by first | omega | (simp only [Int.toNat_natCast, upF_2] at *; omega)) ?_
    refine w_iload_n rfl rfl ?_
    refine m_zaload rfl (rlay_r15 (by first | omega | (simp only [Int.toNat_natCast, upF_2] at *; omega))) (by first | omega | (simp only [Int.toNat_natCast, upF_2] at *; omega)) (by first | omega | (simp only [Int.toNat_natCast, upF_2] at *; omega)) ?_
    rw [Int.toNat_natCast, Int.toNat_natCast, t15]
    refine w_ifne_t rfl (by first | omega | exact (hg.2 _ _ _).1 | exact (hg.1 _).1 | (simp only [Int.toNat_natCast, upF_2] at *; omega)) (by first | omega | exact (hg.2 _ _ _).2 | exact (hg.1 _).2 | (simp only [Int.toNat_natCast, upF_2] at *; omega)) (by first | omega | (simp only [Int.toNat_natCast, upF_2] at *; omega)) ?_
    refine w_iinc rfl rfl (by decide) ?_
    refine w_goto rfl ?_
    refine ih (k + 1) τ (by omega) ⟨s1, s2, s3, hg, ?_⟩
    have e1 : ydr σ e (k + 1) Y = ydr σ e k Y := by
      funext n
      unfold ydr
      by_cases z : n < k ∧ σ.2 15 e n = 0
      · rw [if_pos z, if_pos ⟨by omega, z.2⟩]
      · rw [if_neg z, if_neg (fun y => ?_)]
        by_cases w : n = k
        · subst w; exact q y.2
        · exact z ⟨by omega, y.2⟩
    rw [e1]
    exact s5
set_option maxRecDepth 50000 in
theorem r_one_l2 (hb : b < m0) {Q : AH → RO → Prop} (d : Nat) {e : Nat} {rd : Int} {t : Nat} (he : e < 100) (h13 : σ.2 13 0 (e + 1) = (t : Int)) (ht : t ≤ 4000) (hs : ∀ i, σ.2 30 0 i = 0 ∨ σ.2 30 0 i = 1) (r1 : 0 ≤ rd) (r2 : rd ≤ 1000000) (kk : ∀ τ, OInv σ τ Y rd → Wp b L xs d mi_139 84 [some (.ref m0), some (vI e), some (vI t), none] [] (RH m0 h τ) Q) : ∀ (m k : Nat) (c : Int) (τ : RS), k + m = t → 0 ≤ c → c + cnt (fun k => σ.2 30 0 k = 0) k m = rd → OInv σ τ Y c → Wp b L xs d mi_139 47 [some (.ref m0), some (vI e), some (vI k), none] [] (RH m0 h τ) Q := by
  have e1 : ((e : Int) + 1).toNat = e + 1 := by omega
  intro m
  induction m with
  | zero =>
    intro k c τ hk c0 hc hO
    obtain rfl : k = t := hk
    have hg := hO.2.2.2.1
    have t13 : τ.2 13 0 (e + 1) = (k : Int) := (hO.1 13 0 _ (by decide)).trans h13
    obtain rfl : c = rd := by
      have hc : c + ((0 : Nat) : Int) = rd := hc
      omega
    refine w_iload_n rfl rfl ?_
    refine w_aload_n rfl rfl ?_
    refine m_get rfl rfl ?_
    refine w_iload_n rfl rfl ?_
    refine w_iconst rfl ?_
    refine w_iadd rfl ?_
    refine m_iaload rfl hb rl_13 (by first | omega | (simp only [Int.toNat_natCast, upF_2] at *; omega)) (by first | omega | (simp only [Int.toNat_natCast, upF_2] at *; omega)) ?_
    rw [e1, t13]
    refine w_icge_t rfl (by first | omega | exact (hg.2 _ _ _).1 | exact (hg.1 _).1 | (simp only [Int.toNat_natCast, upF_2] at *; omega)) (by first | omega | exact (hg.2 _ _ _).2 | exact (hg.1 _).2 | (simp only [Int.toNat_natCast, upF_2] at *; omega)) (by first | omega | exact (hg.2 _ _ _).1 | exact (hg.1 _).1 | (simp only [Int.toNat_natCast, upF_2] at *; omega)) (by first | omega | exact (hg.2 _ _ _).2 | exact (hg.1 _).2 | (simp only [Int.toNat_natCast, upF_2] at *; omega)) (by first | omega | (simp only [Int.toNat_natCast, upF_2] at *; omega)) ?_
    exact kk τ hO
  | succ m ih =>
    intro k c τ hk c0 hc hO
    have hc : c + (((if σ.2 30 0 k = 0 then 1 else 0) + cnt (fun k => σ.2 30 0 k = 0) (k + 1) m : Nat) : Int) = rd := hc
    have hO2 := hO
    obtain ⟨s1, s2, s3, hg, s5⟩ := hO2
    have t13 : τ.2 13 0 (e + 1) = (t : Int) := (s1 13 0 _ (by decide)).trans h13
    have t30 : τ.2 30 0 k = σ.2 30 0 k := s1 30 0 k (by decide)
    have h30 := hs k
    by_cases q : σ.2 30 0 k = 0
    · rw [if_pos q] at hc
      refine w_iload_n rfl rfl ?_
      refine w_aload_n rfl rfl ?_
      refine m_get rfl rfl ?_
      refine w_iload_n rfl rfl ?_
      refine w_iconst rfl ?_
      refine w_iadd rfl ?_
      refine m_iaload rfl hb rl_13 (by first | omega | (simp only [Int.toNat_natCast, upF_2] at *; omega)) (by first | omega | (simp only [Int.toNat_natCast, upF_2] at *; omega)) ?_
      rw [e1, t13]
      refine w_icge_f rfl (by first | omega | exact (hg.2 _ _ _).1 | exact (hg.1 _).1 | (simp only [Int.toNat_natCast, upF_2] at *; omega)) (by first | omega | exact (hg.2 _ _ _).2 | exact (hg.1 _).2 | (simp only [Int.toNat_natCast, upF_2] at *; omega)) (by first | omega | exact (hg.2 _ _ _).1 | exact (hg.1 _).1 | (simp only [Int.toNat_natCast, upF_2] at *; omega)) (by first | omega | exact (hg.2 _ _ _).2 | exact (hg.1 _).2 | (simp only [Int.toNat_natCast, upF_2] at *; omega)) (by first | omega | (simp only [Int.toNat_natCast, upF_2] at *; omega)) ?_
      refine w_aload_n rfl rfl ?_
      refine m_get rfl rfl ?_
      refine w_iload_n rfl rfl ?_
      refine m_zaload rfl rl_30 (by first | omega | (simp only [Int.toNat_natCast, upF_2] at *; omega)) (by first | omega | (simp only [Int.toNat_natCast, upF_2] at *; omega)) ?_
      rw [Int.toNat_natCast, t30]
      refine w_ifne_f rfl (by first | omega | exact (hg.2 _ _ _).1 | exact (hg.1 _).1 | (simp only [Int.toNat_natCast, upF_2] at *; omega)) (by first | omega | exact (hg.2 _ _ _).2 | exact (hg.1 _).2 | (simp only [Int.toNat_natCast, upF_2] at *; omega)) (by first | omega | (simp only [Int.toNat_natCast, upF_2] at *; omega)) ?_
      refine w_aload_n rfl rfl ?_
      refine w_dupR rfl ?_
      refine m_get rfl rfl ?_
      rw [s3]
      refine w_iconst rfl ?_
      refine w_iadd rfl ?_
      refine m_put rfl rfl rfl rfl ?_
      refine w_iinc rfl rfl (by decide) ?_
      refine w_goto rfl ?_
      refine ih (k + 1) (c + 1) (upF τ 45 (c + 1)) (by omega) (by omega) (by omega) ⟨s1, fun i hi => ?_, rfl, hg.upF 45 (by omega) (by omega), s5⟩
      show (if i = 45 then c + 1 else τ.1 i) = _
      rw [if_neg hi]
      exact s2 i hi
    · rw [if_neg q] at hc
      refine w_iload_n rfl rfl ?_
      refine w_aload_n rfl rfl ?_
      refine m_get rfl rfl ?_
      refine w_iload_n rfl rfl ?_
      refine w_iconst rfl ?_
      refine w_iadd rfl ?_
      refine m_iaload rfl hb rl_13 (by first | omega | (simp only [Int.toNat_natCast, upF_2] at *; omega)) (by first | omega | (simp only [Int.toNat_natCast, upF_2] at *; omega)) ?_
      rw [e1, t13]
      refine w_icge_f rfl (by first | omega | exact (hg.2 _ _ _).1 | exact (hg.1 _).1 | (simp only [Int.toNat_natCast, upF_2] at *; omega)) (by first | omega | exact (hg.2 _ _ _).2 | exact (hg.1 _).2 | (simp only [Int.toNat_natCast, upF_2] at *; omega)) (by first | omega | exact (hg.2 _ _ _).1 | exact (hg.1 _).1 | (simp only [Int.toNat_natCast, upF_2] at *; omega)) (by first | omega | exact (hg.2 _ _ _).2 | exact (hg.1 _).2 | (simp only [Int.toNat_natCast, upF_2] at *; omega)) (by first | omega | (simp only [Int.toNat_natCast, upF_2] at *; omega)) ?_
      refine w_aload_n rfl rfl ?_
      refine m_get rfl rfl ?_
      refine w_iload_n rfl rfl ?_
      refine m_zaload rfl rl_30 (by first | omega | (simp only [Int.toNat_natCast, upF_2] at *; omega)) (by first | omega | (simp only [Int.toNat_natCast, upF_2] at *; omega)) ?_
      rw [Int.toNat_natCast, t30]
      refine w_ifne_t rfl (by first | omega | exact (hg.2 _ _ _).1 | exact (hg.1 _).1 | (simp only [Int.toNat_natCast, upF_2] at *; omega)) (by first | omega | exact (hg.2 _ _ _).2 | exact (hg.1 _).2 | (simp only [Int.toNat_natCast, upF_2] at *; omega)) (by first | omega | (simp only [Int.toNat_natCast, upF_2] at *; omega)) ?_
      refine w_iinc rfl rfl (by decide) ?_
      refine w_goto rfl ?_
      exact ih (k + 1) c τ (by omega) c0 (by omega) hO
set_option maxRecDepth 50000 in
theorem r_one_l3 (hb : b < m0) (hE : EntOk σ) {Q : AH → RO → Prop} (d : Nat) (hd : 2 ≤ d) {e t : Nat} {rd : Int} {Z : YS} (he : e < 100) (h14 : σ.2 14 0 (e + 1) = (t : Int)) (ht : t ≤ 4000) (hs : ∀ i, σ.2 30 0 i = 0 ∨ σ.2 30 0 i = 1) (kk : ∀ τ a, OInv σ τ Z rd → Wp b L xs d mi_139 138 [some (.ref m0), some (vI e), some (vI a), some (vI t)] [] (RH m0 h τ) Q) : ∀ (m r a : Nat) (τ : RS) (Y : YS), r + m = t → (∀ j, r ≤ j → j < t → RecOk σ j) → (a : Int) + sumC σ r m ≤ 4000 → yrecs σ a r m Y = Z → OInv σ τ Y rd → Wp b L xs d mi_139 104 [some (.ref m0), some (vI e), some (vI a), some (vI r)] [] (RH m0 h τ) Q := by
  have e1 : ((e : Int) + 1).toNat = e + 1 := by omega
  intro m
  induction m with
  | zero =>
    intro r a τ Y hr ho ha hY hO
    obtain rfl : r = t := hr
    obtain rfl : Y = Z := hY
    have hg := hO.2.2.2.1
    have t14 : τ.2 14 0 (e + 1) = (r : Int) := (hO.1 14 0 _ (by decide)).trans h14
    refine w_iload_n rfl rfl ?_
    refine w_aload_n rfl rfl ?_
    refine m_get rfl rfl ?_
    refine w_iload_n rfl rfl ?_
    refine w_iconst rfl ?_
    refine w_iadd rfl ?_
    refine m_iaload rfl hb rl_14 (by first | omega | (simp only [Int.toNat_natCast, upF_2] at *; omega)) (by first | omega | (simp only [Int.toNat_natCast, upF_2] at *; omega)) ?_
    rw [e1, t14]
    refine w_icge_t rfl (by first | omega | exact (hg.2 _ _ _).1 | exact (hg.1 _).1 | (simp only [Int.toNat_natCast, upF_2] at *; omega)) (by first | omega | exact (hg.2 _ _ _).2 | exact (hg.1 _).2 | (simp only [Int.toNat_natCast, upF_2] at *; omega)) (by first | omega | exact (hg.2 _ _ _).1 | exact (hg.1 _).1 | (simp only [Int.toNat_natCast, upF_2] at *; omega)) (by first | omega | exact (hg.2 _ _ _).2 | exact (hg.1 _).2 | (simp only [Int.toNat_natCast, upF_2] at *; omega)) (by first | omega | (simp only [Int.toNat_natCast, upF_2] at *; omega)) ?_
    exact kk τ a hO
  | succ m ih =>
    intro r a τ Y hr ho ha hY hO
    have hY : yrecs σ (a + 1 + (cont σ r).toNat) (r + 1) m (yback σ r a Y) = Z := hY
    have ha : (a : Int) + (1 + cont σ r + sumC σ (r + 1) m) ≤ 4000 := ha
    obtain ⟨s1, s2, s3, hg, s5⟩ := hO
    have hor := ho r (Nat.le_refl _) (by omega)
    have hc := cont_ok hor
    have hsp := sumC_pos (ρ := σ) m (r + 1) (fun j a b => ho j (by omega) (by omega))
    have t14 : τ.2 14 0 (e + 1) = (t : Int) := (s1 14 0 _ (by decide)).trans h14
    have hkp : ∀ j i, 17 ≤ j → j ≤ 23 → τ.2 j 0 i = σ.2 j 0 i := fun j i h1 h2 => s1 j 0 i (by omega)
    have hck := cont_keep hkp r
    refine w_iload_n rfl rfl ?_
    refine w_aload_n rfl rfl ?_
    refine m_get rfl rfl ?_
    refine w_iload_n rfl rfl ?_
    refine w_iconst rfl ?_
    refine w_iadd rfl ?_
    refine m_iaload rfl hb rl_14 (by first | omega | (simp only [Int.toNat_natCast, upF_2] at *; omega)) (by first | omega | (simp only [Int.toNat_natCast, upF_2] at *; omega)) ?_
    rw [e1, t14]
    refine w_icge_f rfl (by first | omega | exact (hg.2 _ _ _).1 | exact (hg.1 _).1 | (simp only [Int.toNat_natCast, upF_2] at *; omega)) (by first | omega | exact (hg.2 _ _ _).2 | exact (hg.1 _).2 | (simp only [Int.toNat_natCast, upF_2] at *; omega)) (by first | omega | exact (hg.2 _ _ _).1 | exact (hg.1 _).1 | (simp only [Int.toNat_natCast, upF_2] at *; omega)) (by first | omega | exact (hg.2 _ _ _).2 | exact (hg.1 _).2 | (simp only [Int.toNat_natCast, upF_2] at *; omega)) (by first | omega | (simp only [Int.toNat_natCast, upF_2] at *; omega)) ?_
    refine w_aload_n rfl rfl ?_
    refine w_iload_n rfl rfl ?_
    refine w_iload_n rfl rfl ?_
    refine w_cv rfl (by decide) (by first | omega | (simp only [Int.toNat_natCast, upF_2] at *; omega)) rfl RH_obj mt_140 (Nat.le_of_ble_eq_true rfl) (Nat.le_of_ble_eq_true rfl) (r_back hb hg (Y := Y) (fun i => by rw [s1 25 0 i (by decide), s1 26 0 i (by decide)]; exact hE i) _ (r := r) (a := a) (by omega) (hor.keep hkp) (by rw [hck]; omega) (fun i => by rw [s1 30 0 i (by decide)]; exact hs i) s5) ?_
    rintro _ _ ⟨rfl, ν, rfl, v1, v2, v3, v4⟩
    refine ⟨none, rfl, ?_⟩
    refine w_iload_n rfl rfl ?_
    refine w_iconst rfl ?_
    refine w_aload_n rfl rfl ?_
    refine w_iload_n rfl rfl ?_
    refine w_cvV rfl (by decide) (by first | omega | (simp only [Int.toNat_natCast, upF_2] at *; omega)) rfl RH_obj mt_135 (Nat.le_of_ble_eq_true rfl) (Nat.le_of_ble_eq_true rfl) (r_contN hb v3 _ (by omega) (r := r) (by omega) (hor.keep (fun j i h1 h2 => (v1 j 0 i (by omega)).trans (hkp j i h1 h2)))) ?_
    rw [cont_keep (fun j i h1 h2 => (v1 j 0 i (by omega)).trans (hkp j i h1 h2)) r]
    refine w_iadd rfl ?_
    refine w_iadd rfl ?_
    refine w_istore_n rfl (by decide) ?_
    refine w_iinc rfl rfl (by decide) ?_
    refine w_goto rfl ?_
    rw [show (a : Int) + (1 + cont σ r) = ((a + 1 + (cont σ r).toNat : Nat) : Int) by omega]
    exact ih (r + 1) (a + 1 + (cont σ r).toNat) ν (yback σ r a Y) (by omega) (fun j a b => ho j (by omega) b) (by omega) hY ⟨fun j r i hj => (v1 j r i hj).trans (s1 j r i hj), fun i hi => by rw [v2]; exact s2 i hi, by rw [v2]; exact s3, v3, by rw [← yback_congr s1]; exact v4⟩
set_option maxRecDepth 50000 in
theorem r_one (hb : b < m0) (hE : EntOk σ) (hg : Rg σ) (d : Nat) (hd : 3 ≤ d) {e : Nat} (he : e < 100) (hD : DumpOk σ e) (ht : ∀ n, n < 256 → 0 ≤ σ.2 15 e n ∧ σ.2 15 e n ≤ 1) (hs : ∀ i, σ.2 30 0 i = 0 ∨ σ.2 30 0 i = 1) (r1 : 0 ≤ σ.1 45) (r2 : σ.1 45 ≤ 900000) (b1 : σ.2 13 0 e ≤ σ.2 13 0 (e + 1)) (b2 : σ.2 13 0 (e + 1) ≤ 4000) (b3 : σ.2 13 0 e + (2 + nix σ e) + sumC σ (σ.2 14 0 e).toNat (σ.2 14 0 (e + 1) - σ.2 14 0 e).toNat ≤ 4000) (hX : XInv σ Y) : Wp b L xs d mi_139 0 (ent (mL mi_139) [.ref m0, vI e]) [] (RH m0 h σ) (fun h' o => o = .inl none ∧ ∃ τ, h' = RH m0 h τ ∧ OInv σ τ (yone σ e Y) (σ.1 45 + rdN σ e)) := by
  obtain ⟨d1, d2, d3, d4, d5, d6, d7, d8, d9, d10, d11, d12⟩ := hD
  have e1 : ((e : Int) + 1).toNat = e + 1 := by omega
  have hnx : 0 ≤ nix σ e ∧ nix σ e ≤ 9 := by
    unfold nix pts
    omega
  have hrd : rdN σ e ≤ 4000 := by
    have := cnt_le (fun k => σ.2 30 0 k = 0) (σ.2 13 0 e).toNat (σ.2 13 0 (e + 1) - σ.2 13 0 e).toNat
    unfold rdN
    omega
  refine w_iconst rfl ?_
  refine w_istore_n rfl (by decide) ?_
  refine r_one_l1 (σ := σ) (Y := Y) (rd := σ.1 45) hb d he ht ?_ 256 0 σ rfl ⟨fun _ _ _ _ => rfl, fun _ _ => rfl, rfl, hg, ?_⟩
  rotate_left
  · have e2 : ydr σ e 0 Y = Y := by
      funext n
      unfold ydr
      rw [if_neg (fun z => absurd z.1 (Nat.not_lt_zero n))]
    rw [e2]
    exact hX
  intro τ hO
  have hgt := hO.2.2.2.1
  have t13 : τ.2 13 0 e = σ.2 13 0 e := hO.1 13 0 e (by decide)
  have ec : ((σ.2 13 0 e).toNat : Int) = σ.2 13 0 e := by omega
  refine w_aload_n rfl rfl ?_
  refine m_get rfl rfl ?_
  refine w_iload_n rfl rfl ?_
  refine m_iaload rfl hb rl_13 (by first | omega | (simp only [Int.toNat_natCast, upF_2] at *; omega)) (by first | omega | (simp only [Int.toNat_natCast, upF_2] at *; omega)) ?_
  rw [Int.toNat_natCast, t13, ← ec]
  refine w_istore_n rfl (by decide) ?_
  refine r_one_l2 (σ := σ) (Y := ydr σ e 256 Y) hb d (rd := σ.1 45 + rdN σ e) (t := (σ.2 13 0 (e + 1)).toNat) he (by omega) (by omega) hs (by omega) (by omega) ?_ (σ.2 13 0 (e + 1) - σ.2 13 0 e).toNat (σ.2 13 0 e).toNat (σ.1 45) τ (by omega) r1 rfl hO
  intro ν hN
  have hgn := hN.2.2.2.1
  have n13 : ν.2 13 0 e = σ.2 13 0 e := hN.1 13 0 e (by decide)
  have n14 : ν.2 14 0 e = σ.2 14 0 e := hN.1 14 0 e (by decide)
  have n15 : ν.2 14 0 (e + 1) = σ.2 14 0 (e + 1) := hN.1 14 0 _ (by decide)
  refine w_aload_n rfl rfl ?_
  refine m_get rfl rfl ?_
  refine w_iload_n rfl rfl ?_
  refine m_iaload rfl hb rl_13 (by first | omega | (simp only [Int.toNat_natCast, upF_2] at *; omega)) (by first | omega | (simp only [Int.toNat_natCast, upF_2] at *; omega)) ?_
  rw [Int.toNat_natCast, n13]
  refine w_aload_n rfl rfl ?_
  refine w_iload_n rfl rfl ?_
  refine w_cvV rfl (by decide) (by first | omega | (simp only [Int.toNat_natCast, upF_2] at *; omega)) rfl RH_obj mt_138 (Nat.le_of_ble_eq_true rfl) (Nat.le_of_ble_eq_true rfl) (r_head hb hgn _ (by omega) (n := (e : Int)) (by omega) (by omega) (by rw [e1, Int.toNat_natCast, n14, n15]; omega) (by rw [e1, Int.toNat_natCast, n14, n15]; omega)) ?_
  rw [e1, Int.toNat_natCast, n14, n15]
  refine w_iadd rfl ?_
  refine w_istore_n rfl (by decide) ?_
  refine w_aload_n rfl rfl ?_
  refine m_get rfl rfl ?_
  refine w_iload_n rfl rfl ?_
  refine m_iaload rfl hb rl_14 (by first | omega | (simp only [Int.toNat_natCast, upF_2] at *; omega)) (by first | omega | (simp only [Int.toNat_natCast, upF_2] at *; omega)) ?_
  rw [Int.toNat_natCast, n14]
  refine w_istore_n rfl (by decide) ?_
  have ea : σ.2 13 0 e + (2 + nix σ e) = (((σ.2 13 0 e + (2 + nix σ e)).toNat : Nat) : Int) := by omega
  have er : σ.2 14 0 e = (((σ.2 14 0 e).toNat : Nat) : Int) := by omega
  have hgo := r_one_l3 (L := L) (xs := xs) (h := h) (σ := σ) hb hE d (by omega) (Z := yone σ e Y) (rd := σ.1 45 + rdN σ e) (t := (σ.2 14 0 (e + 1)).toNat) (Q := (fun h' o => o = .inl none ∧ ∃ τ, h' = RH m0 h τ ∧ OInv σ τ (yone σ e Y) (σ.1 45 + rdN σ e))) he (by omega) (by omega) hs (fun τ a hO => by
    refine w_return rfl rfl ?_
    exact ⟨rfl, τ, rfl, hO⟩) (σ.2 14 0 (e + 1) - σ.2 14 0 e).toNat (σ.2 14 0 e).toNat (σ.2 13 0 e + (2 + nix σ e)).toNat ν (ydr σ e 256 Y) (by omega) (fun j a b => d12 j (by omega) (by omega)) (by omega) rfl hN
  rw [← ea, ← er] at hgo
  exact hgo
end Rr18
