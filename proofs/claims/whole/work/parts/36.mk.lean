/-! the reference's tape -/
theorem bk_f470 (ρ : RS) (f : Nat) (B : Nat → Int) : upF (bk ρ f B) 47 0 = bk ρ 0 B := bk_f47 ρ f B 0
def ndB (ρ : RS) (r c : Nat) : Nat → Int := if c = 0 then fcB ρ r else if ρ.2 18 0 r = 1 then ocB (fun i => ρ.2 24 0 ((ρ.2 23 0 r).toNat + i) % 256) zB 0 (64 * (c - 1)) (min (ρ.2 21 0 r).toNat (64 * c) - 64 * (c - 1)) else enB (fun i => ρ.2 25 0 ((ρ.2 23 0 r).toNat + i)) (fun i => ρ.2 26 0 ((ρ.2 23 0 r).toNat + i)) zB 0 (21 * (c - 1)) (min (ρ.2 21 0 r).toNat (21 * c) - 21 * (c - 1))
def DumpOk (ρ : RS) (e : Nat) : Prop := 0 ≤ ρ.2 10 0 e ∧ ρ.2 10 0 e ≤ 9 ∧ 0 ≤ ρ.2 11 0 e ∧ ρ.2 11 0 e ≤ 100000 ∧ -1 ≤ ρ.2 12 0 e ∧ ρ.2 12 0 e < e ∧ 0 ≤ ρ.2 13 0 e ∧ 0 ≤ ρ.2 14 0 e ∧ ρ.2 14 0 e ≤ ρ.2 14 0 (e + 1) ∧ ρ.2 14 0 (e + 1) ≤ ρ.2 14 0 e + 256 ∧ ρ.2 14 0 (e + 1) ≤ 4000 ∧ (∀ j : Nat, ρ.2 14 0 e ≤ j → (j : Int) < ρ.2 14 0 (e + 1) → RecOk ρ j)
def nix (ρ : RS) (e : Nat) : Int := pts (ρ.2 14 0 (e + 1) - ρ.2 14 0 e) 31
/-- the block at offset a of a dump -/
def BlkIs (ρ : RS) (e : Nat) (a : Int) (B : Nat → Int) : Prop :=
  (a = 0 ∧ B = hdB ρ e) ∨ (a = 1 ∧ B = mpB (fun n => ρ.2 15 e n ≠ 0) (putK zB 0 77 1) 0 256) ∨
  (∃ i : Nat, a = 2 + i ∧ (i : Int) < nix ρ e ∧ B = ixB ρ (putK (putK zB 0 73 1) 1 ((min ((ρ.2 14 0 e).toNat + 31 * i + 31) (ρ.2 14 0 (e + 1)).toNat - ((ρ.2 14 0 e).toNat + 31 * i) : Nat) : Int) 1) 2 ((ρ.2 14 0 e).toNat + 31 * i) (min ((ρ.2 14 0 e).toNat + 31 * i + 31) (ρ.2 14 0 (e + 1)).toNat - ((ρ.2 14 0 e).toNat + 31 * i))) ∨
  (∃ m c : Nat, ρ.2 14 0 e + m < ρ.2 14 0 (e + 1) ∧ (c : Int) ≤ cont ρ ((ρ.2 14 0 e).toNat + m) ∧ a = 2 + nix ρ e + (sumC ρ (ρ.2 14 0 e).toNat m + c) ∧ B = ndB ρ ((ρ.2 14 0 e).toNat + m) c)
theorem sumC_pos {ρ : RS} : ∀ m s : Nat, (∀ j, s ≤ j → j < s + m → RecOk ρ j) → 0 ≤ sumC ρ s m ∧ sumC ρ s m ≤ 14 * m := by
  intro m
  induction m with
  | zero => intro s _; exact ⟨Int.le_refl _, Int.le_refl _⟩
  | succ m ih =>
    intro s hj
    have h2 := cont_ok (hj s (Nat.le_refl _) (by omega))
    have h3 := ih (s + 1) (fun j a b => hj j (by omega) (by omega))
    show 0 ≤ 1 + cont ρ s + sumC ρ (s + 1) m ∧ 1 + cont ρ s + sumC ρ (s + 1) m ≤ _
    omega
theorem orI_ok {x y : Int} (hx : x ≤ 255) (hy : y ≤ 255) : 0 ≤ orI x y ∧ orI x y ≤ 255 := by
  unfold orI
  have : x.toNat ||| y.toNat < 2 ^ 8 := Nat.or_lt_two_pow (by omega) (by omega)
  omega
theorem p7 (k : Nat) : (2 : Int) ^ (7 - k % 8) ≤ 255 ∧ 1 ≤ (2 : Int) ^ (7 - k % 8) := by
  have : ∀ j, j ≤ 7 → (2 : Int) ^ j ≤ 255 ∧ 1 ≤ (2 : Int) ^ j := by decide
  exact this _ (by omega)
section Rr8
variable {b L : Nat} {xs : Nat → Int32} {m0 : Nat} {h : AH} {ρ : RS}
set_option maxRecDepth 50000 in
theorem r_nd (hb : b < m0) (hg : Rg ρ) (hE : EntOk ρ) (d : Nat) (hd : 2 ≤ d) {e fr m c : Nat} {g : Int} (he : e < 100) (hfr : ρ.2 14 0 e = (fr : Int)) (hr : fr + m < 4000) (ho : ∀ j, fr ≤ j → j ≤ fr + m → RecOk ρ j) (hc : (c : Int) ≤ cont ρ (fr + m)) (hg2 : g = sumC ρ fr m + c) : Wp b L xs d mi_136 0 (ent (mL mi_136) [.ref m0, vI e, vI g]) [] (RH m0 h (bk ρ 0 zB)) (fun h' o => o = .inl none ∧ ∃ fl : Nat, fl ≤ 64 ∧ h' = RH m0 h (bk ρ fl (ndB ρ (fr + m) c))) := by
  have h1 := sumC_pos m fr (fun j a b => ho j a (by omega))
  have hor := ho (fr + m) (by omega) (Nat.le_refl _)
  have h13 := cont_ok hor
  refine w_aload_n rfl rfl ?_
  refine m_get rfl rfl ?_
  refine w_iload_n rfl rfl ?_
  refine m_iaload rfl hb rl_14 (by first | omega | (simp only [Int.toNat_natCast, upF_2] at *; omega)) (by first | omega | (simp only [Int.toNat_natCast, upF_2] at *; omega)) ?_
  rw [bk_a _ _ _ (by decide), Int.toNat_natCast, hfr]
  refine w_istore_n rfl (by decide) ?_
  refine w_iload_n rfl rfl ?_
  refine w_istore rfl (by decide) ?_
  subst hg2
  refine r_nd_s hb hg d hd (r := fr + m) hr (by omega) hc ?_ m fr rfl ho (by omega) (by omega)
  unfold ndB
  by_cases q : c = 0
  · subst q
    rw [if_pos rfl]
    exact (r_nd_f hb hg d hd hr hor).mono (fun h' o z => ⟨z.2, 12, by decide, z.1⟩)
  · rw [if_neg q]
    have h14 := hor.2.2.1
    by_cases q2 : ρ.2 18 0 (fr + m) = 1
    · rw [if_pos q2]
      exact (r_nd_o hb hg d hd hr hor q2 (by omega) hc).mono (fun h' o z => ⟨z.2, _, by omega, z.1⟩)
    · rw [if_neg q2]
      exact (r_nd_e hb hg hE d hd hr hor (by omega) (by omega) hc).mono (fun h' o z => ⟨z.2, _, by omega, z.1⟩)
set_option maxRecDepth 50000 in
theorem r_mk_ml (hb : b < m0) (hg : Rg ρ) (d : Nat) {e : Nat} {a q : Int} (he : e < 100) (ht : ∀ n, n < 256 → 0 ≤ ρ.2 15 e n ∧ ρ.2 15 e n ≤ 1) {f : Nat} (hf : f ≤ 64) : ∀ (m k : Nat) (B : Nat → Int), k + m = 256 → (∀ i, 0 ≤ B i ∧ B i ≤ 255) → Wp b L xs d mi_132 135 [some (.ref m0), some (vI a), some (vI e), some (vI q), some (vI k), none, none] [] (RH m0 h (bk ρ f B)) (fun h' o => o = .inl none ∧ ∃ fl : Nat, fl ≤ 64 ∧ h' = RH m0 h (bk ρ fl (mpB (fun n => ρ.2 15 e n ≠ 0) B k m))) := by
  intro m
  induction m with
  | zero =>
    intro k B hk hB
    refine w_iload rfl rfl ?_
    refine w_sipush rfl rfl ?_
    refine w_icge_t rfl (by first | omega | exact (hg.2 _ _ _).1 | exact (hg.1 _).1 | (simp only [Int.toNat_natCast, upF_2] at *; omega)) (by first | omega | exact (hg.2 _ _ _).2 | exact (hg.1 _).2 | (simp only [Int.toNat_natCast, upF_2] at *; omega)) (by first | omega | exact (hg.2 _ _ _).1 | exact (hg.1 _).1 | (simp only [Int.toNat_natCast, upF_2] at *; omega)) (by first | omega | exact (hg.2 _ _ _).2 | exact (hg.1 _).2 | (simp only [Int.toNat_natCast, upF_2] at *; omega)) (by first | omega | (simp only [Int.toNat_natCast, upF_2] at *; omega)) ?_
    refine w_goto rfl ?_
    refine w_return rfl rfl ?_
    exact ⟨rfl, f, hf, rfl⟩
  | succ m ih =>
    intro k B hk hB
    have t1 := ht k (by omega)
    have e1 : (1 + (k : Int) / 8).toNat = 1 + k / 8 := by omega
    have e2 : (7 - (k : Int) % 8).toNat = 7 - k % 8 := by omega
    have b1 := hB (1 + k / 8)
    have p1 := p7 k
    have e0 : mpB (fun n => ρ.2 15 e n ≠ 0) B k (m + 1) = mpB (fun n => ρ.2 15 e n ≠ 0) (if ρ.2 15 e k ≠ 0 then upB B (1 + k / 8) (orI (B (1 + k / 8)) (2 ^ (7 - k % 8))) else B) (k + 1) m := rfl
    rw [e0]
    refine w_iload rfl rfl ?_
    refine w_sipush rfl rfl ?_
    refine w_icge_f rfl (by first | omega | exact (hg.2 _ _ _).1 | exact (hg.1 _).1 | (simp only [Int.toNat_natCast, upF_2] at *; omega)) (by first | omega | exact (hg.2 _ _ _).2 | exact (hg.1 _).2 | (simp only [Int.toNat_natCast, upF_2] at *; omega)) (by first | omega | exact (hg.2 _ _ _).1 | exact (hg.1 _).1 | (simp only [Int.toNat_natCast, upF_2] at *; omega)) (by first | omega | exact (hg.2 _ _ _).2 | exact (hg.1 _).2 | (simp only [Int.toNat_natCast, upF_2] at *; omega)) (by first | omega | (simp only [Int.toNat_natCast, upF_2] at *; omega)) ?_
    refine w_aload_n rfl rfl ?_
    refine m_get rfl rfl ?_
    refine w_iload_n rfl rfl ?_
    refine m_aaload rfl rfl (by first | omega | (simp only [Int.toNat_natCast, upF_2] at *; omega)) (by first | omega | (simp only [Int.toNat_natCast, upF_2] at *; omega)) ?_
    refine w_iload rfl rfl ?_
    refine m_zaload rfl (rlay_r15 (by first | omega | (simp only [Int.toNat_natCast, upF_2] at *; omega))) (by first | omega | (simp only [Int.toNat_natCast, upF_2] at *; omega)) (by first | omega | (simp only [Int.toNat_natCast, upF_2] at *; omega)) ?_
    rw [bk_a _ _ _ (by decide), Int.toNat_natCast, Int.toNat_natCast]
    refine w_ifeq rfl (by first | omega | exact (hg.2 _ _ _).1 | exact (hg.1 _).1 | (simp only [Int.toNat_natCast, upF_2] at *; omega)) (by first | omega | exact (hg.2 _ _ _).2 | exact (hg.1 _).2 | (simp only [Int.toNat_natCast, upF_2] at *; omega)) (fun c1 => ?_) (fun c1 => ?_)
    · refine w_iinc rfl rfl (by decide) ?_
      refine w_goto rfl ?_
      rw [if_neg (by omega)]
      exact ih (k + 1) B (by omega) hB
    · refine w_aload_n rfl rfl ?_
      refine m_get rfl rfl ?_
      refine w_iconst rfl ?_
      refine w_iload rfl rfl ?_
      refine w_bipush rfl rfl ?_
      refine w_idiv rfl (by first | omega | (simp only [Int.toNat_natCast, upF_2] at *; omega)) (by first | omega | (simp only [Int.toNat_natCast, upF_2] at *; omega)) (by first | omega | (simp only [Int.toNat_natCast, upF_2] at *; omega)) (by first | omega | (simp only [Int.toNat_natCast, upF_2] at *; omega)) ?_
      refine w_iadd rfl ?_
      refine w_dup2 rfl ?_
      refine m_iaload rfl hb rl_46 (by first | omega | (simp only [Int.toNat_natCast, upF_2] at *; omega)) (by first | omega | (simp only [Int.toNat_natCast, upF_2] at *; omega)) ?_
      rw [e1, show (bk ρ f B).2 46 0 (1 + k / 8) = B (1 + k / 8) from rfl]
      refine w_iconst rfl ?_
      refine w_bipush rfl rfl ?_
      refine w_iload rfl rfl ?_
      refine w_bipush rfl rfl ?_
      refine w_irem rfl (by first | omega | (simp only [Int.toNat_natCast, upF_2] at *; omega)) (by first | omega | (simp only [Int.toNat_natCast, upF_2] at *; omega)) (by first | omega | (simp only [Int.toNat_natCast, upF_2] at *; omega)) (by first | omega | (simp only [Int.toNat_natCast, upF_2] at *; omega)) ?_
      refine w_isub rfl ?_
      refine w_ishl rfl (by omega) (by omega) (by omega) (by rw [e2]; omega) ?_
      rw [e2, Int.one_mul]
      refine w_ior rfl (by omega) (by omega) (by omega) (by omega) ?_
      refine m_iastore rfl rl_46 (by first | omega | (simp only [Int.toNat_natCast, upF_2] at *; omega)) (by first | omega | (simp only [Int.toNat_natCast, upF_2] at *; omega)) ?_
      rw [if_pos (by omega), e1, bk_st]
      refine w_iinc rfl rfl (by decide) ?_
      refine w_goto rfl ?_
      refine ih (k + 1) (upB B (1 + k / 8) (orI (B (1 + k / 8)) (2 ^ (7 - k % 8)))) (by omega) ?_
      intro i
      unfold upB
      split
      · exact orI_ok (by omega) (by omega)
      · exact hB i
set_option maxRecDepth 50000 in
theorem r_mk_il (hb : b < m0) (hg : Rg ρ) (d : Nat) (hd : 2 ≤ d) {e q : Nat} {a g x : Int} (hq : q ≤ 4000) (x1 : x = (q : Int)) {fr : Int} : ∀ (m r f : Nat) (B : Nat → Int), r + m = q → f + 2 * m ≤ 64 → (∀ j, r ≤ j → j < q → RecOk ρ j) → Wp b L xs d mi_132 254 [some (.ref m0), some (vI a), some (vI e), some (vI g), some (vI fr), some (vI x), some (vI r)] [] (RH m0 h (bk ρ f B)) (fun h' o => o = .inl none ∧ ∃ fl : Nat, fl ≤ 64 ∧ h' = RH m0 h (bk ρ fl (ixB ρ B f r m))) := by
  subst x1
  intro m
  induction m with
  | zero =>
    intro r f B hr hf ho
    refine w_iload rfl rfl ?_
    refine w_iload rfl rfl ?_
    refine w_icge_t rfl (by first | omega | exact (hg.2 _ _ _).1 | exact (hg.1 _).1 | (simp only [Int.toNat_natCast, upF_2] at *; omega)) (by first | omega | exact (hg.2 _ _ _).2 | exact (hg.1 _).2 | (simp only [Int.toNat_natCast, upF_2] at *; omega)) (by first | omega | exact (hg.2 _ _ _).1 | exact (hg.1 _).1 | (simp only [Int.toNat_natCast, upF_2] at *; omega)) (by first | omega | exact (hg.2 _ _ _).2 | exact (hg.1 _).2 | (simp only [Int.toNat_natCast, upF_2] at *; omega)) (by first | omega | (simp only [Int.toNat_natCast, upF_2] at *; omega)) ?_
    refine w_goto rfl ?_
    refine w_return rfl rfl ?_
    exact ⟨rfl, f, by omega, rfl⟩
  | succ m ih =>
    intro r f B hr hf ho
    have hor := ho r (Nat.le_refl _) (by omega)
    have h13 := cont_ok hor
    have o1 := hor.1
    have o2 := hor.2.1
    refine w_iload rfl rfl ?_
    refine w_iload rfl rfl ?_
    refine w_icge_f rfl (by first | omega | exact (hg.2 _ _ _).1 | exact (hg.1 _).1 | (simp only [Int.toNat_natCast, upF_2] at *; omega)) (by first | omega | exact (hg.2 _ _ _).2 | exact (hg.1 _).2 | (simp only [Int.toNat_natCast, upF_2] at *; omega)) (by first | omega | exact (hg.2 _ _ _).1 | exact (hg.1 _).1 | (simp only [Int.toNat_natCast, upF_2] at *; omega)) (by first | omega | exact (hg.2 _ _ _).2 | exact (hg.1 _).2 | (simp only [Int.toNat_natCast, upF_2] at *; omega)) (by first | omega | (simp only [Int.toNat_natCast, upF_2] at *; omega)) ?_
    refine w_aload_n rfl rfl ?_
    refine w_aload_n rfl rfl ?_
    refine m_get rfl rfl ?_
    refine w_iload rfl rfl ?_
    refine m_iaload rfl hb rl_17 (by first | omega | (simp only [Int.toNat_natCast, upF_2] at *; omega)) (by first | omega | (simp only [Int.toNat_natCast, upF_2] at *; omega)) ?_
    rw [bk_a _ _ _ (by decide), Int.toNat_natCast]
    refine w_iconst rfl ?_
    refine w_cvN rfl (by decide) (by first | omega | (simp only [Int.toNat_natCast, upF_2] at *; omega)) rfl RH_obj mt_131 (Nat.le_of_ble_eq_true rfl) (Nat.le_of_ble_eq_true rfl) (r_put hb _ (by omega) (by omega) 1 (by decide) (by omega)) ?_
    refine w_aload_n rfl rfl ?_
    refine w_iconst rfl ?_
    refine w_aload_n rfl rfl ?_
    refine w_iload rfl rfl ?_
    refine w_cvV rfl (by decide) (by first | omega | (simp only [Int.toNat_natCast, upF_2] at *; omega)) rfl RH_obj mt_135 (Nat.le_of_ble_eq_true rfl) (Nat.le_of_ble_eq_true rfl) (r_contB hb hg _ (by omega) (by omega) hor) ?_
    refine w_iadd rfl ?_
    refine w_iconst rfl ?_
    refine w_cvN rfl (by decide) (by first | omega | (simp only [Int.toNat_natCast, upF_2] at *; omega)) rfl RH_obj mt_131 (Nat.le_of_ble_eq_true rfl) (Nat.le_of_ble_eq_true rfl) (r_put hb _ (by omega) (by omega) 1 (by decide) (by omega)) ?_
    refine w_iinc rfl rfl (by decide) ?_
    refine w_goto rfl ?_
    exact ih (r + 1) (f + 2) _ (by omega) (by omega) (fun j a b => ho j (by omega) b)
set_option maxRecDepth 50000 in
theorem r_mk (hb : b < m0) (hg : Rg ρ) (hE : EntOk ρ) (d : Nat) (hd : 3 ≤ d) {e : Nat} {a : Int} {B : Nat → Int} (he : e < 100) (a1 : 0 ≤ a) (a2 : a ≤ 1000000) (h1 : ∀ j : Nat, j < e → ρ.2 13 0 (j + 1) ≤ a) (h2 : a < ρ.2 13 0 (e + 1)) (hD : DumpOk ρ e) (ht : ∀ n, n < 256 → 0 ≤ ρ.2 15 e n ∧ ρ.2 15 e n ≤ 1) (hz : ∀ i, 64 ≤ i → ρ.2 46 0 i = 0) (hf : 0 ≤ ρ.1 47) (hB : BlkIs ρ e (a - ρ.2 13 0 e) B) : Wp b L xs d mi_132 0 (ent (mL mi_132) [.ref m0, vI a]) [] (RH m0 h ρ) (fun h' o => o = .inl none ∧ ∃ fl : Nat, fl ≤ 64 ∧ h' = RH m0 h (bk ρ fl B)) := by
  obtain ⟨d1, d2, d3, d4, d5, d6, d7, d8, d9, d10, d11, d12⟩ := hD
  obtain ⟨fr, hfr⟩ := Int.eq_ofNat_of_zero_le d8
  obtain ⟨to, hto⟩ := Int.eq_ofNat_of_zero_le (Int.le_trans d8 d9)
  have e14 : ((e : Int) + 1).toNat = e + 1 := by omega
  have i1 : 0 ≤ nix ρ e ∧ nix ρ e ≤ 9 := by
    unfold nix pts
    omega
  refine w_iconst rfl ?_
  refine w_istore_n rfl (by decide) ?_
  have hz0 := bk_zero hf
  suffices kk : Wp b L xs d mi_132 21 [some (.ref m0), some (vI a), some (vI 64), none, none, none, none] [] (RH m0 h (bk ρ (ρ.1 47).toNat (fun i => if i < 64 then 0 else ρ.2 46 0 i))) (fun h' o => o = .inl none ∧ ∃ fl : Nat, fl ≤ 64 ∧ h' = RH m0 h (bk ρ fl B)) by
    have k2 := r_mk_z (ρ := ρ) (c := 0) (w := 0) d kk 64 0 rfl
    rw [← hz0] at k2
    exact k2
  rw [bk_full hz]
  refine w_aload_n rfl rfl ?_
  refine w_iconst rfl ?_
  refine m_put rfl rfl rfl rfl ?_
  rw [bk_f470]
  refine w_iconst rfl ?_
  refine w_istore_n rfl (by decide) ?_
  refine r_mk_d hb hg d a1 (by omega) he h1 h2 ?_ e 0 (Nat.zero_add e)
  obtain ⟨q1, rfl⟩ | ⟨q1, rfl⟩ | ⟨i, q1, q2, rfl⟩ | ⟨m, c, q1, q2, q3, rfl⟩ := hB
  · refine w_iload_n rfl rfl ?_
    refine w_aload_n rfl rfl ?_
    refine m_get rfl rfl ?_
    refine w_iload_n rfl rfl ?_
    refine m_iaload rfl hb rl_13 (by first | omega | (simp only [Int.toNat_natCast, upF_2] at *; omega)) (by first | omega | (simp only [Int.toNat_natCast, upF_2] at *; omega)) ?_
    rw [bk_a _ _ _ (by decide), Int.toNat_natCast]
    refine w_isub rfl ?_
    refine w_istore_n rfl (by decide) ?_
    refine w_iload_n rfl rfl ?_
    refine w_ifne_f rfl (by first | omega | exact (hg.2 _ _ _).1 | exact (hg.1 _).1 | (simp only [Int.toNat_natCast, upF_2] at *; omega)) (by first | omega | exact (hg.2 _ _ _).2 | exact (hg.1 _).2 | (simp only [Int.toNat_natCast, upF_2] at *; omega)) (by first | omega | (simp only [Int.toNat_natCast, upF_2] at *; omega)) ?_
    refine w_aload_n rfl rfl ?_
    refine w_bipush rfl rfl ?_
    refine w_iconst rfl ?_
    refine w_cvN rfl (by decide) (by first | omega | (simp only [Int.toNat_natCast, upF_2] at *; omega)) rfl RH_obj mt_131 (Nat.le_of_ble_eq_true rfl) (Nat.le_of_ble_eq_true rfl) (r_put hb _ (by omega) (by omega) 1 (by decide) (by omega)) ?_
    refine w_aload_n rfl rfl ?_
    refine w_aload_n rfl rfl ?_
    refine m_get rfl rfl ?_
    refine w_iload_n rfl rfl ?_
    refine m_iaload rfl hb rl_10 (by first | omega | (simp only [Int.toNat_natCast, upF_2] at *; omega)) (by first | omega | (simp only [Int.toNat_natCast, upF_2] at *; omega)) ?_
    rw [bk_a _ _ _ (by decide), Int.toNat_natCast]
    refine w_iconst rfl ?_
    refine w_cvN rfl (by decide) (by first | omega | (simp only [Int.toNat_natCast, upF_2] at *; omega)) rfl RH_obj mt_131 (Nat.le_of_ble_eq_true rfl) (Nat.le_of_ble_eq_true rfl) (r_put hb _ (by omega) (by omega) 1 (by decide) (by omega)) ?_
    refine w_aload_n rfl rfl ?_
    refine w_iload_n rfl rfl ?_
    refine w_iconst rfl ?_
    refine w_cvN rfl (by decide) (by first | omega | (simp only [Int.toNat_natCast, upF_2] at *; omega)) rfl RH_obj mt_131 (Nat.le_of_ble_eq_true rfl) (Nat.le_of_ble_eq_true rfl) (r_put hb _ (by omega) (by omega) 2 (by decide) (by omega)) ?_
    refine w_aload_n rfl rfl ?_
    refine w_aload_n rfl rfl ?_
    refine m_get rfl rfl ?_
    refine w_iload_n rfl rfl ?_
    refine m_iaload rfl hb rl_11 (by first | omega | (simp only [Int.toNat_natCast, upF_2] at *; omega)) (by first | omega | (simp only [Int.toNat_natCast, upF_2] at *; omega)) ?_
    rw [bk_a _ _ _ (by decide), Int.toNat_natCast]
    refine w_iconst rfl ?_
    refine w_cvN rfl (by decide) (by first | omega | (simp only [Int.toNat_natCast, upF_2] at *; omega)) rfl RH_obj mt_131 (Nat.le_of_ble_eq_true rfl) (Nat.le_of_ble_eq_true rfl) (r_put hb _ (by omega) (by omega) 4 (by decide) (by omega)) ?_
    refine w_aload_n rfl rfl ?_
    refine w_aload_n rfl rfl ?_
    refine m_get rfl rfl ?_
    refine w_iload_n rfl rfl ?_
    refine m_iaload rfl hb rl_12 (by first | omega | (simp only [Int.toNat_natCast, upF_2] at *; omega)) (by first | omega | (simp only [Int.toNat_natCast, upF_2] at *; omega)) ?_
    rw [bk_a _ _ _ (by decide), Int.toNat_natCast]
    refine w_iconst rfl ?_
    refine w_iadd rfl ?_
    refine w_iconst rfl ?_
    refine w_cvN rfl (by decide) (by first | omega | (simp only [Int.toNat_natCast, upF_2] at *; omega)) rfl RH_obj mt_131 (Nat.le_of_ble_eq_true rfl) (Nat.le_of_ble_eq_true rfl) (r_put hb _ (by omega) (by omega) 2 (by decide) (by omega)) ?_
    refine w_aload_n rfl rfl ?_
    refine w_aload_n rfl rfl ?_
    refine w_iload_n rfl rfl ?_
    refine w_cvV rfl (by decide) (by first | omega | (simp only [Int.toNat_natCast, upF_2] at *; omega)) rfl RH_obj mt_133 (Nat.le_of_ble_eq_true rfl) (Nat.le_of_ble_eq_true rfl) (r_manyB hb hg _ he) ?_
    refine w_iconst rfl ?_
    refine w_cvN rfl (by decide) (by first | omega | (simp only [Int.toNat_natCast, upF_2] at *; omega)) rfl RH_obj mt_131 (Nat.le_of_ble_eq_true rfl) (Nat.le_of_ble_eq_true rfl) (r_put hb _ (by omega) (by omega) 2 (by decide) (by omega)) ?_
    refine w_goto rfl ?_
    refine w_return rfl rfl ?_
    exact ⟨rfl, 12, by decide, rfl⟩
  · refine w_iload_n rfl rfl ?_
    refine w_aload_n rfl rfl ?_
    refine m_get rfl rfl ?_
    refine w_iload_n rfl rfl ?_
    refine m_iaload rfl hb rl_13 (by first | omega | (simp only [Int.toNat_natCast, upF_2] at *; omega)) (by first | omega | (simp only [Int.toNat_natCast, upF_2] at *; omega)) ?_
    rw [bk_a _ _ _ (by decide), Int.toNat_natCast]
    refine w_isub rfl ?_
    refine w_istore_n rfl (by decide) ?_
    refine w_iload_n rfl rfl ?_
    refine w_ifne_t rfl (by first | omega | exact (hg.2 _ _ _).1 | exact (hg.1 _).1 | (simp only [Int.toNat_natCast, upF_2] at *; omega)) (by first | omega | exact (hg.2 _ _ _).2 | exact (hg.1 _).2 | (simp only [Int.toNat_natCast, upF_2] at *; omega)) (by first | omega | (simp only [Int.toNat_natCast, upF_2] at *; omega)) ?_
    refine w_iload_n rfl rfl ?_
    refine w_iconst rfl ?_
    refine w_icne_f rfl (by first | omega | exact (hg.2 _ _ _).1 | exact (hg.1 _).1 | (simp only [Int.toNat_natCast, upF_2] at *; omega)) (by first | omega | exact (hg.2 _ _ _).2 | exact (hg.1 _).2 | (simp only [Int.toNat_natCast, upF_2] at *; omega)) (by first | omega | exact (hg.2 _ _ _).1 | exact (hg.1 _).1 | (simp only [Int.toNat_natCast, upF_2] at *; omega)) (by first | omega | exact (hg.2 _ _ _).2 | exact (hg.1 _).2 | (simp only [Int.toNat_natCast, upF_2] at *; omega)) (by first | omega | (simp only [Int.toNat_natCast, upF_2] at *; omega)) ?_
    refine w_aload_n rfl rfl ?_
    refine w_bipush rfl rfl ?_
    refine w_iconst rfl ?_
    refine w_cvN rfl (by decide) (by first | omega | (simp only [Int.toNat_natCast, upF_2] at *; omega)) rfl RH_obj mt_131 (Nat.le_of_ble_eq_true rfl) (Nat.le_of_ble_eq_true rfl) (r_put hb _ (by omega) (by omega) 1 (by decide) (by omega)) ?_
    refine w_iconst rfl ?_
    refine w_istore rfl (by decide) ?_
    exact r_mk_ml hb hg d he ht (by decide) 256 0 (putK zB 0 77 1) rfl (putK_ok (fun _ => ⟨Int.le_refl _, by decide⟩) 0 77 1)
  · have q2 : (i : Int) < pts (ρ.2 14 0 (e + 1) - ρ.2 14 0 e) 31 := q2
    have i2 := i1
    unfold nix at i2
    refine w_iload_n rfl rfl ?_
    refine w_aload_n rfl rfl ?_
    refine m_get rfl rfl ?_
    refine w_iload_n rfl rfl ?_
    refine m_iaload rfl hb rl_13 (by first | omega | (simp only [Int.toNat_natCast, upF_2] at *; omega)) (by first | omega | (simp only [Int.toNat_natCast, upF_2] at *; omega)) ?_
    rw [bk_a _ _ _ (by decide), Int.toNat_natCast]
    refine w_isub rfl ?_
    refine w_istore_n rfl (by decide) ?_
    refine w_iload_n rfl rfl ?_
    refine w_ifne_t rfl (by first | omega | exact (hg.2 _ _ _).1 | exact (hg.1 _).1 | (simp only [Int.toNat_natCast, upF_2] at *; omega)) (by first | omega | exact (hg.2 _ _ _).2 | exact (hg.1 _).2 | (simp only [Int.toNat_natCast, upF_2] at *; omega)) (by first | omega | (simp only [Int.toNat_natCast, upF_2] at *; omega)) ?_
    refine w_iload_n rfl rfl ?_
    refine w_iconst rfl ?_
    refine w_icne_t rfl (by first | omega | exact (hg.2 _ _ _).1 | exact (hg.1 _).1 | (simp only [Int.toNat_natCast, upF_2] at *; omega)) (by first | omega | exact (hg.2 _ _ _).2 | exact (hg.1 _).2 | (simp only [Int.toNat_natCast, upF_2] at *; omega)) (by first | omega | exact (hg.2 _ _ _).1 | exact (hg.1 _).1 | (simp only [Int.toNat_natCast, upF_2] at *; omega)) (by first | omega | exact (hg.2 _ _ _).2 | exact (hg.1 _).2 | (simp only [Int.toNat_natCast, upF_2] at *; omega)) (by first | omega | (simp only [Int.toNat_natCast, upF_2] at *; omega)) ?_
    refine w_iload_n rfl rfl ?_
    refine w_iconst rfl ?_
    refine w_aload_n rfl rfl ?_
    refine w_iload_n rfl rfl ?_
    refine w_cvV rfl (by decide) (by first | omega | (simp only [Int.toNat_natCast, upF_2] at *; omega)) rfl RH_obj mt_134 (Nat.le_of_ble_eq_true rfl) (Nat.le_of_ble_eq_true rfl) (r_idxB hb hg _ (by omega) he (by omega) (by omega)) ?_
    refine w_iadd rfl ?_
    refine w_icge_f rfl (by first | omega | exact (hg.2 _ _ _).1 | exact (hg.1 _).1 | (simp only [Int.toNat_natCast, upF_2] at *; omega)) (by first | omega | exact (hg.2 _ _ _).2 | exact (hg.1 _).2 | (simp only [Int.toNat_natCast, upF_2] at *; omega)) (by first | omega | exact (hg.2 _ _ _).1 | exact (hg.1 _).1 | (simp only [Int.toNat_natCast, upF_2] at *; omega)) (by first | omega | exact (hg.2 _ _ _).2 | exact (hg.1 _).2 | (simp only [Int.toNat_natCast, upF_2] at *; omega)) (by first | omega | (simp only [Int.toNat_natCast, upF_2] at *; omega)) ?_
    refine w_aload_n rfl rfl ?_
    refine m_get rfl rfl ?_
    refine w_iload_n rfl rfl ?_
    refine m_iaload rfl hb rl_14 (by first | omega | (simp only [Int.toNat_natCast, upF_2] at *; omega)) (by first | omega | (simp only [Int.toNat_natCast, upF_2] at *; omega)) ?_
    rw [bk_a _ _ _ (by decide), Int.toNat_natCast, hfr, q1]
    refine w_bipush rfl rfl ?_
    refine w_iload_n rfl rfl ?_
    refine w_iconst rfl ?_
    refine w_isub rfl ?_
    refine w_imul rfl ?_
    refine w_iadd rfl ?_
    refine w_istore rfl (by decide) ?_
    refine w_iload rfl rfl ?_
    refine w_bipush rfl rfl ?_
    refine w_iadd rfl ?_
    refine w_aload_n rfl rfl ?_
    refine m_get rfl rfl ?_
    refine w_iload_n rfl rfl ?_
    refine w_iconst rfl ?_
    refine w_iadd rfl ?_
    refine m_iaload rfl hb rl_14 (by first | omega | (simp only [Int.toNat_natCast, upF_2] at *; omega)) (by first | omega | (simp only [Int.toNat_natCast, upF_2] at *; omega)) ?_
    rw [bk_a _ _ _ (by decide), e14, hto]
    refine w_min rfl (by first | omega | (simp only [Int.toNat_natCast, upF_2] at *; omega)) (Nat.le_of_ble_eq_true rfl) (by first | omega | exact (hg.2 _ _ _).1 | exact (hg.1 _).1 | (simp only [Int.toNat_natCast, upF_2] at *; omega)) (by first | omega | exact (hg.2 _ _ _).2 | exact (hg.1 _).2 | (simp only [Int.toNat_natCast, upF_2] at *; omega)) (by first | omega | exact (hg.2 _ _ _).1 | exact (hg.1 _).1 | (simp only [Int.toNat_natCast, upF_2] at *; omega)) (by first | omega | exact (hg.2 _ _ _).2 | exact (hg.1 _).2 | (simp only [Int.toNat_natCast, upF_2] at *; omega)) ?_
    refine w_istore rfl (by decide) ?_
    refine w_aload_n rfl rfl ?_
    refine w_bipush rfl rfl ?_
    refine w_iconst rfl ?_
    refine w_cvN rfl (by decide) (by first | omega | (simp only [Int.toNat_natCast, upF_2] at *; omega)) rfl RH_obj mt_131 (Nat.le_of_ble_eq_true rfl) (Nat.le_of_ble_eq_true rfl) (r_put hb _ (by omega) (by omega) 1 (by decide) (by omega)) ?_
    refine w_aload_n rfl rfl ?_
    refine w_iload rfl rfl ?_
    refine w_iload rfl rfl ?_
    refine w_isub rfl ?_
    refine w_iconst rfl ?_
    refine w_cvN rfl (by decide) (by first | omega | (simp only [Int.toNat_natCast, upF_2] at *; omega)) rfl RH_obj mt_131 (Nat.le_of_ble_eq_true rfl) (Nat.le_of_ble_eq_true rfl) (r_put hb _ (by unfold pts at q2; omega) (by omega) 1 (by decide) (by omega)) ?_
    refine w_iload rfl rfl ?_
    refine w_istore rfl (by decide) ?_
    have s1 : (fr : Int) + 31 * (2 + (i : Int) - 2) = ((fr + 31 * i : Nat) : Int) := by omega
    have s2 : min ((fr : Int) + 31 * (2 + (i : Int) - 2) + 31) (to : Int) = ((min (fr + 31 * i + 31) to : Nat) : Int) := by omega
    have s3 : ((min (fr + 31 * i + 31) to : Nat) : Int) - ((fr + 31 * i : Nat) : Int) = ((min (fr + 31 * i + 31) to - (fr + 31 * i) : Nat) : Int) := by
      unfold pts at q2
      omega
    rw [s2, s1, s3]
    simp only [Int.toNat_natCast]
    exact r_mk_il hb hg d (by omega) (q := min (fr + 31 * i + 31) to) (by omega) rfl (min (fr + 31 * i + 31) to - (fr + 31 * i)) (fr + 31 * i) 2 _ (by unfold pts at q2; omega) (by omega) (fun j a b => d12 j (by omega) (by omega))
  · have q9 := sumC_pos (ρ := ρ) m fr (fun j a b => d12 j (by omega) (by omega))
    have s4 : (ρ.2 14 0 e).toNat = fr := by omega
    rw [s4] at q2 q3 ⊢
    unfold nix at q3 i1
    refine w_iload_n rfl rfl ?_
    refine w_aload_n rfl rfl ?_
    refine m_get rfl rfl ?_
    refine w_iload_n rfl rfl ?_
    refine m_iaload rfl hb rl_13 (by first | omega | (simp only [Int.toNat_natCast, upF_2] at *; omega)) (by first | omega | (simp only [Int.toNat_natCast, upF_2] at *; omega)) ?_
    rw [bk_a _ _ _ (by decide), Int.toNat_natCast]
    refine w_isub rfl ?_
    refine w_istore_n rfl (by decide) ?_
    refine w_iload_n rfl rfl ?_
    refine w_ifne_t rfl (by first | omega | exact (hg.2 _ _ _).1 | exact (hg.1 _).1 | (simp only [Int.toNat_natCast, upF_2] at *; omega)) (by first | omega | exact (hg.2 _ _ _).2 | exact (hg.1 _).2 | (simp only [Int.toNat_natCast, upF_2] at *; omega)) (by first | omega | (simp only [Int.toNat_natCast, upF_2] at *; omega)) ?_
    refine w_iload_n rfl rfl ?_
    refine w_iconst rfl ?_
    refine w_icne_t rfl (by first | omega | exact (hg.2 _ _ _).1 | exact (hg.1 _).1 | (simp only [Int.toNat_natCast, upF_2] at *; omega)) (by first | omega | exact (hg.2 _ _ _).2 | exact (hg.1 _).2 | (simp only [Int.toNat_natCast, upF_2] at *; omega)) (by first | omega | exact (hg.2 _ _ _).1 | exact (hg.1 _).1 | (simp only [Int.toNat_natCast, upF_2] at *; omega)) (by first | omega | exact (hg.2 _ _ _).2 | exact (hg.1 _).2 | (simp only [Int.toNat_natCast, upF_2] at *; omega)) (by first | omega | (simp only [Int.toNat_natCast, upF_2] at *; omega)) ?_
    refine w_iload_n rfl rfl ?_
    refine w_iconst rfl ?_
    refine w_aload_n rfl rfl ?_
    refine w_iload_n rfl rfl ?_
    refine w_cvV rfl (by decide) (by first | omega | (simp only [Int.toNat_natCast, upF_2] at *; omega)) rfl RH_obj mt_134 (Nat.le_of_ble_eq_true rfl) (Nat.le_of_ble_eq_true rfl) (r_idxB hb hg _ (by omega) he (by omega) (by omega)) ?_
    refine w_iadd rfl ?_
    refine w_icge_t rfl (by first | omega | exact (hg.2 _ _ _).1 | exact (hg.1 _).1 | (simp only [Int.toNat_natCast, upF_2] at *; omega)) (by first | omega | exact (hg.2 _ _ _).2 | exact (hg.1 _).2 | (simp only [Int.toNat_natCast, upF_2] at *; omega)) (by first | omega | exact (hg.2 _ _ _).1 | exact (hg.1 _).1 | (simp only [Int.toNat_natCast, upF_2] at *; omega)) (by first | omega | exact (hg.2 _ _ _).2 | exact (hg.1 _).2 | (simp only [Int.toNat_natCast, upF_2] at *; omega)) (by first | omega | (simp only [Int.toNat_natCast, upF_2] at *; omega)) ?_
    refine w_aload_n rfl rfl ?_
    refine w_iload_n rfl rfl ?_
    refine w_iload_n rfl rfl ?_
    refine w_iconst rfl ?_
    refine w_isub rfl ?_
    refine w_aload_n rfl rfl ?_
    refine w_iload_n rfl rfl ?_
    refine w_cvV rfl (by decide) (by first | omega | (simp only [Int.toNat_natCast, upF_2] at *; omega)) rfl RH_obj mt_134 (Nat.le_of_ble_eq_true rfl) (Nat.le_of_ble_eq_true rfl) (r_idxB hb hg _ (by omega) he (by omega) (by omega)) ?_
    refine w_isub rfl ?_
    refine w_cv rfl (by decide) (by first | omega | (simp only [Int.toNat_natCast, upF_2] at *; omega)) rfl RH_obj mt_136 (Nat.le_of_ble_eq_true rfl) (Nat.le_of_ble_eq_true rfl) (r_nd hb hg hE _ (by omega) (e := e) (fr := fr) (m := m) (c := c) he hfr (by omega) (fun j a b => d12 j (by omega) (by omega)) q2 (by omega)) ?_
    rintro _ _ ⟨rfl, fl, hfl, rfl⟩
    refine ⟨none, rfl, ?_⟩
    refine w_return rfl rfl ?_
    exact ⟨rfl, fl, hfl, rfl⟩
end Rr8
