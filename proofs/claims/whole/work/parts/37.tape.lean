/-! the reference's tape -/
/-- octets joined to a long -/
def pk (B : Nat → Int) : Nat → Nat → Int64 → Int64
  | _, 0, w => w
  | s, m + 1, w => pk B (s + 1) m ((w <<< ((Int32.ofInt 8).toInt64 &&& 63)) ||| (Int32.ofInt (B s)).toInt64)
theorem sumC_2 {ρ ρ' : RS} (hh : ρ.2 = ρ'.2) : ∀ m s : Nat, sumC ρ s m = sumC ρ' s m
  | 0, _ => rfl
  | m + 1, s => by
    show 1 + cont ρ s + sumC ρ (s + 1) m = 1 + cont ρ' s + sumC ρ' (s + 1) m
    rw [sumC_2 hh m (s + 1)]
    unfold cont
    rw [hh]
theorem ixB_2 {ρ ρ' : RS} (hh : ρ.2 = ρ'.2) : ∀ (m : Nat) (B : Nat → Int) (f r : Nat), ixB ρ B f r m = ixB ρ' B f r m
  | 0, _, _, _ => rfl
  | m + 1, B, f, r => by
    show ixB ρ (putK (putK B f (ρ.2 17 0 r) 1) (f + 1) (1 + cont ρ r) 1) (f + 2) (r + 1) m = ixB ρ' (putK (putK B f (ρ'.2 17 0 r) 1) (f + 1) (1 + cont ρ' r) 1) (f + 2) (r + 1) m
    rw [ixB_2 hh m]
    unfold cont
    rw [hh]
theorem BlkIs_2 {ρ ρ' : RS} (hh : ρ.2 = ρ'.2) {e : Nat} {a : Int} {B : Nat → Int} (hB : BlkIs ρ e a B) : BlkIs ρ' e a B := by
  obtain ⟨f, A⟩ := ρ
  obtain ⟨f', A'⟩ := ρ'
  have hh : A = A' := hh
  subst hh
  unfold BlkIs nix hdB ndB fcB cont at hB ⊢
  simp only [sumC_2 (ρ := (f, A)) (ρ' := (f', A)) rfl, ixB_2 (ρ := (f, A)) (ρ' := (f', A)) rfl] at hB
  exact hB
section Rr9
variable {b L : Nat} {xs : Nat → Int32} {m0 : Nat} {h : AH} {ρ : RS}

variable {d : Nat} {M : MI} {pc nx : Nat} {ri : List Nat} {lv : List (Option Value)} {st : List Value} {Q : AH → RO → Prop}
theorem w_lshlR {v : Int64} {y : Int} (q : fet (mE M) pc = some (.lshl, nx, ri)) (k : Wp b L xs d M nx lv (.long (v <<< ((Int32.ofInt y).toInt64 &&& 63)) :: st) h Q) : Wp b L xs d M pc lv (vI y :: .long v :: st) h Q := W_st q (fun _ => rfl) rfl k
theorem w_lorR {v w : Int64} (q : fet (mE M) pc = some (.lor, nx, ri)) (k : Wp b L xs d M nx lv (.long (v ||| w) :: st) h Q) : Wp b L xs d M pc lv (.long w :: .long v :: st) h Q := W_st q (fun _ => rfl) rfl k
end Rr9
section Rr10
variable {b L : Nat} {xs : Nat → Int32} {m0 : Nat} {h : AH} {ρ : RS}
set_option maxRecDepth 50000 in
theorem r_tape_1 (hb : b < m0) (hg : Rg ρ) (d : Nat) (hd : 5 ≤ d) {v c w : Int} (v1 : -2147483648 ≤ v) (v2 : v ≤ 2147483647) (c1 : -2147483648 ≤ c) (c2 : c ≤ 2147483647) (x1 : -2147483648 ≤ w) (x2 : w ≤ 2147483647) (k1 : 4 ≤ ρ.1 8) (k2 : ρ.1 8 ≤ 1000) (w1 : 0 ≤ ρ.1 9) (w2 : ρ.1 9 ≤ 4000) (hc : w < 0 ∨ 7 < w) : Wp b L xs d mi_130 0 (ent (mL mi_130) [.ref m0, vI v, vI c, vI w]) [] (RH m0 h ρ) (Rt (RH m0 h (upF ρ 0 1)) (.long 0)) := by
  by_cases q : w < 0
  · refine w_aload_n rfl rfl ?_
    refine w_iload_n rfl rfl ?_
    refine w_iflt_t rfl (by first | omega | exact (hg.2 _ _ _).1 | exact (hg.1 _).1 | (simp only [Int.toNat_natCast, upF_2] at *; omega)) (by first | omega | exact (hg.2 _ _ _).2 | exact (hg.1 _).2 | (simp only [Int.toNat_natCast, upF_2] at *; omega)) (by first | omega | (simp only [Int.toNat_natCast, upF_2] at *; omega)) ?_
    refine w_iconst rfl ?_
    refine w_goto rfl ?_
    refine w_iconst rfl ?_
    refine w_cvV rfl (by decide) (by first | omega | (simp only [Int.toNat_natCast, upF_2] at *; omega)) rfl RH_obj mt_112 (Nat.le_of_ble_eq_true rfl) (Nat.le_of_ble_eq_true rfl) (r_fails1 hb (by assumption) _) ?_
    refine w_ifeq_f rfl (by first | omega | exact (hg.2 _ _ _).1 | exact (hg.1 _).1 | (simp only [Int.toNat_natCast, upF_2] at *; omega)) (by first | omega | exact (hg.2 _ _ _).2 | exact (hg.1 _).2 | (simp only [Int.toNat_natCast, upF_2] at *; omega)) (by first | omega | (simp only [Int.toNat_natCast, upF_2] at *; omega)) ?_
    refine w_lconst rfl ?_
    refine w_lreturn rfl rfl ?_
    exact ⟨rfl, rfl⟩
  refine w_aload_n rfl rfl ?_
  refine w_iload_n rfl rfl ?_
  refine w_iflt_f rfl (by first | omega | exact (hg.2 _ _ _).1 | exact (hg.1 _).1 | (simp only [Int.toNat_natCast, upF_2] at *; omega)) (by first | omega | exact (hg.2 _ _ _).2 | exact (hg.1 _).2 | (simp only [Int.toNat_natCast, upF_2] at *; omega)) (by first | omega | (simp only [Int.toNat_natCast, upF_2] at *; omega)) ?_
  refine w_iload_n rfl rfl ?_
  refine w_bipush rfl rfl ?_
  refine w_icle_f rfl (by first | omega | exact (hg.2 _ _ _).1 | exact (hg.1 _).1 | (simp only [Int.toNat_natCast, upF_2] at *; omega)) (by first | omega | exact (hg.2 _ _ _).2 | exact (hg.1 _).2 | (simp only [Int.toNat_natCast, upF_2] at *; omega)) (by first | omega | exact (hg.2 _ _ _).1 | exact (hg.1 _).1 | (simp only [Int.toNat_natCast, upF_2] at *; omega)) (by first | omega | exact (hg.2 _ _ _).2 | exact (hg.1 _).2 | (simp only [Int.toNat_natCast, upF_2] at *; omega)) (by first | omega | (simp only [Int.toNat_natCast, upF_2] at *; omega)) ?_
  refine w_iconst rfl ?_
  refine w_goto rfl ?_
  refine w_iconst rfl ?_
  refine w_cvV rfl (by decide) (by first | omega | (simp only [Int.toNat_natCast, upF_2] at *; omega)) rfl RH_obj mt_112 (Nat.le_of_ble_eq_true rfl) (Nat.le_of_ble_eq_true rfl) (r_fails1 hb (by assumption) _) ?_
  refine w_ifeq_f rfl (by first | omega | exact (hg.2 _ _ _).1 | exact (hg.1 _).1 | (simp only [Int.toNat_natCast, upF_2] at *; omega)) (by first | omega | exact (hg.2 _ _ _).2 | exact (hg.1 _).2 | (simp only [Int.toNat_natCast, upF_2] at *; omega)) (by first | omega | (simp only [Int.toNat_natCast, upF_2] at *; omega)) ?_
  refine w_lconst rfl ?_
  refine w_lreturn rfl rfl ?_
  exact ⟨rfl, rfl⟩
set_option maxRecDepth 50000 in
theorem r_tape_2 (hb : b < m0) (hg : Rg ρ) (d : Nat) (hd : 5 ≤ d) {v c w : Int} (v1 : -2147483648 ≤ v) (v2 : v ≤ 2147483647) (c1 : -2147483648 ≤ c) (c2 : c ≤ 2147483647) (x1 : -2147483648 ≤ w) (x2 : w ≤ 2147483647) (k1 : 4 ≤ ρ.1 8) (k2 : ρ.1 8 ≤ 1000) (w1 : 0 ≤ ρ.1 9) (w2 : ρ.1 9 ≤ 4000) (q1 : 0 ≤ w) (q2 : w ≤ 7) (hw : ¬ rWr ρ v c) : Wp b L xs d mi_130 0 (ent (mL mi_130) [.ref m0, vI v, vI c, vI w]) [] (RH m0 h ρ) (Rt (RH m0 h (upF ρ 0 2)) (.long 0)) := by
  have hg0 : Rg (upF ρ 0 0) := hg.upF 0 (by decide) (by decide)
  refine w_aload_n rfl rfl ?_
  refine w_iload_n rfl rfl ?_
  refine w_iflt_f rfl (by first | omega | exact (hg.2 _ _ _).1 | exact (hg.1 _).1 | (simp only [Int.toNat_natCast, upF_2] at *; omega)) (by first | omega | exact (hg.2 _ _ _).2 | exact (hg.1 _).2 | (simp only [Int.toNat_natCast, upF_2] at *; omega)) (by first | omega | (simp only [Int.toNat_natCast, upF_2] at *; omega)) ?_
  refine w_iload_n rfl rfl ?_
  refine w_bipush rfl rfl ?_
  refine w_icle_t rfl (by first | omega | exact (hg.2 _ _ _).1 | exact (hg.1 _).1 | (simp only [Int.toNat_natCast, upF_2] at *; omega)) (by first | omega | exact (hg.2 _ _ _).2 | exact (hg.1 _).2 | (simp only [Int.toNat_natCast, upF_2] at *; omega)) (by first | omega | exact (hg.2 _ _ _).1 | exact (hg.1 _).1 | (simp only [Int.toNat_natCast, upF_2] at *; omega)) (by first | omega | exact (hg.2 _ _ _).2 | exact (hg.1 _).2 | (simp only [Int.toNat_natCast, upF_2] at *; omega)) (by first | omega | (simp only [Int.toNat_natCast, upF_2] at *; omega)) ?_
  refine w_iconst rfl ?_
  refine w_iconst rfl ?_
  refine w_cvV rfl (by decide) (by first | omega | (simp only [Int.toNat_natCast, upF_2] at *; omega)) rfl RH_obj mt_112 (Nat.le_of_ble_eq_true rfl) (Nat.le_of_ble_eq_true rfl) (r_fails0 hb (by assumption) _) ?_
  refine w_ifeq_t rfl (by first | omega | exact (hg.2 _ _ _).1 | exact (hg.1 _).1 | (simp only [Int.toNat_natCast, upF_2] at *; omega)) (by first | omega | exact (hg.2 _ _ _).2 | exact (hg.1 _).2 | (simp only [Int.toNat_natCast, upF_2] at *; omega)) (by first | omega | (simp only [Int.toNat_natCast, upF_2] at *; omega)) ?_
  refine w_aload_n rfl rfl ?_
  refine w_aload_n rfl rfl ?_
  refine w_iload_n rfl rfl ?_
  refine w_iload_n rfl rfl ?_
  refine w_cvV rfl (by decide) (by first | omega | (simp only [Int.toNat_natCast, upF_2] at *; omega)) rfl RH_obj mt_128 (Nat.le_of_ble_eq_true rfl) (Nat.le_of_ble_eq_true rfl) (r_wr0 (ρ := upF ρ 0 0) hb hg0 _ v1 v2 c1 c2 k1 k2 w1 w2 hw) ?_
  refine w_ifne_f rfl (by first | omega | exact (hg.2 _ _ _).1 | exact (hg.1 _).1 | (simp only [Int.toNat_natCast, upF_2] at *; omega)) (by first | omega | exact (hg.2 _ _ _).2 | exact (hg.1 _).2 | (simp only [Int.toNat_natCast, upF_2] at *; omega)) (by first | omega | (simp only [Int.toNat_natCast, upF_2] at *; omega)) ?_
  refine w_iconst rfl ?_
  refine w_goto rfl ?_
  refine w_iconst rfl ?_
  refine w_cvV rfl (by decide) (by first | omega | (simp only [Int.toNat_natCast, upF_2] at *; omega)) rfl RH_obj mt_112 (Nat.le_of_ble_eq_true rfl) (Nat.le_of_ble_eq_true rfl) (r_fails1 hb (by assumption) _) ?_
  rw [upF_upF]
  refine w_ifeq_f rfl (by first | omega | exact (hg.2 _ _ _).1 | exact (hg.1 _).1 | (simp only [Int.toNat_natCast, upF_2] at *; omega)) (by first | omega | exact (hg.2 _ _ _).2 | exact (hg.1 _).2 | (simp only [Int.toNat_natCast, upF_2] at *; omega)) (by first | omega | (simp only [Int.toNat_natCast, upF_2] at *; omega)) ?_
  refine w_lconst rfl ?_
  refine w_lreturn rfl rfl ?_
  exact ⟨rfl, rfl⟩
set_option maxRecDepth 50000 in
theorem r_tape_3 (hb : b < m0) (hg : Rg ρ) (d : Nat) (hd : 5 ≤ d) {v c w : Int} (v1 : -2147483648 ≤ v) (v2 : v ≤ 2147483647) (c1 : -2147483648 ≤ c) (c2 : c ≤ 2147483647) (x1 : -2147483648 ≤ w) (x2 : w ≤ 2147483647) (k1 : 4 ≤ ρ.1 8) (k2 : ρ.1 8 ≤ 1000) (w1 : 0 ≤ ρ.1 9) (w2 : ρ.1 9 ≤ 4000) (q1 : 0 ≤ w) (q2 : w ≤ 7) (hw : rWr ρ v c) (hs : (if c = 0 then ρ.2 31 0 v.toNat else ρ.2 30 0 (v * (ρ.1 8 - 1) + c - 1).toNat) = 1) : Wp b L xs d mi_130 0 (ent (mL mi_130) [.ref m0, vI v, vI c, vI w]) [] (RH m0 h ρ) (Rt (RH m0 h (upF ρ 0 3)) (.long 0)) := by
  have hg0 : Rg (upF ρ 0 0) := hg.upF 0 (by decide) (by decide)
  have hw2 := hw
  obtain ⟨a1, a2, a3, a4, a5⟩ := hw2
  have hz1 : 0 ≤ v * (ρ.1 8 - 1) := Int.mul_nonneg (by omega) (by omega)
  by_cases q : c = 0
  · rw [if_pos q] at hs a5
    refine w_aload_n rfl rfl ?_
    refine w_iload_n rfl rfl ?_
    refine w_iflt_f rfl (by first | omega | exact (hg.2 _ _ _).1 | exact (hg.1 _).1 | (simp only [Int.toNat_natCast, upF_2] at *; omega)) (by first | omega | exact (hg.2 _ _ _).2 | exact (hg.1 _).2 | (simp only [Int.toNat_natCast, upF_2] at *; omega)) (by first | omega | (simp only [Int.toNat_natCast, upF_2] at *; omega)) ?_
    refine w_iload_n rfl rfl ?_
    refine w_bipush rfl rfl ?_
    refine w_icle_t rfl (by first | omega | exact (hg.2 _ _ _).1 | exact (hg.1 _).1 | (simp only [Int.toNat_natCast, upF_2] at *; omega)) (by first | omega | exact (hg.2 _ _ _).2 | exact (hg.1 _).2 | (simp only [Int.toNat_natCast, upF_2] at *; omega)) (by first | omega | exact (hg.2 _ _ _).1 | exact (hg.1 _).1 | (simp only [Int.toNat_natCast, upF_2] at *; omega)) (by first | omega | exact (hg.2 _ _ _).2 | exact (hg.1 _).2 | (simp only [Int.toNat_natCast, upF_2] at *; omega)) (by first | omega | (simp only [Int.toNat_natCast, upF_2] at *; omega)) ?_
    refine w_iconst rfl ?_
    refine w_iconst rfl ?_
    refine w_cvV rfl (by decide) (by first | omega | (simp only [Int.toNat_natCast, upF_2] at *; omega)) rfl RH_obj mt_112 (Nat.le_of_ble_eq_true rfl) (Nat.le_of_ble_eq_true rfl) (r_fails0 hb (by assumption) _) ?_
    refine w_ifeq_t rfl (by first | omega | exact (hg.2 _ _ _).1 | exact (hg.1 _).1 | (simp only [Int.toNat_natCast, upF_2] at *; omega)) (by first | omega | exact (hg.2 _ _ _).2 | exact (hg.1 _).2 | (simp only [Int.toNat_natCast, upF_2] at *; omega)) (by first | omega | (simp only [Int.toNat_natCast, upF_2] at *; omega)) ?_
    refine w_aload_n rfl rfl ?_
    refine w_aload_n rfl rfl ?_
    refine w_iload_n rfl rfl ?_
    refine w_iload_n rfl rfl ?_
    refine w_cvV rfl (by decide) (by first | omega | (simp only [Int.toNat_natCast, upF_2] at *; omega)) rfl RH_obj mt_128 (Nat.le_of_ble_eq_true rfl) (Nat.le_of_ble_eq_true rfl) (r_wr1 (ρ := upF ρ 0 0) hb hg0 _ k1 k2 w1 w2 hw) ?_
    refine w_ifne_t rfl (by first | omega | exact (hg.2 _ _ _).1 | exact (hg.1 _).1 | (simp only [Int.toNat_natCast, upF_2] at *; omega)) (by first | omega | exact (hg.2 _ _ _).2 | exact (hg.1 _).2 | (simp only [Int.toNat_natCast, upF_2] at *; omega)) (by first | omega | (simp only [Int.toNat_natCast, upF_2] at *; omega)) ?_
    refine w_iconst rfl ?_
    refine w_iconst rfl ?_
    refine w_cvV rfl (by decide) (by first | omega | (simp only [Int.toNat_natCast, upF_2] at *; omega)) rfl RH_obj mt_112 (Nat.le_of_ble_eq_true rfl) (Nat.le_of_ble_eq_true rfl) (r_fails0 hb (by assumption) _) ?_
    rw [upF_upF]
    refine w_ifeq_t rfl (by first | omega | exact (hg.2 _ _ _).1 | exact (hg.1 _).1 | (simp only [Int.toNat_natCast, upF_2] at *; omega)) (by first | omega | exact (hg.2 _ _ _).2 | exact (hg.1 _).2 | (simp only [Int.toNat_natCast, upF_2] at *; omega)) (by first | omega | (simp only [Int.toNat_natCast, upF_2] at *; omega)) ?_
    refine w_aload_n rfl rfl ?_
    refine w_iload_n rfl rfl ?_
    refine w_ifne_f rfl (by first | omega | exact (hg.2 _ _ _).1 | exact (hg.1 _).1 | (simp only [Int.toNat_natCast, upF_2] at *; omega)) (by first | omega | exact (hg.2 _ _ _).2 | exact (hg.1 _).2 | (simp only [Int.toNat_natCast, upF_2] at *; omega)) (by first | omega | (simp only [Int.toNat_natCast, upF_2] at *; omega)) ?_
    refine w_aload_n rfl rfl ?_
    refine m_get rfl rfl ?_
    refine w_iload_n rfl rfl ?_
    refine m_zaload rfl rl_31 (by first | omega | (simp only [Int.toNat_natCast, upF_2] at *; omega)) (by first | omega | (simp only [Int.toNat_natCast, upF_2] at *; omega)) ?_
    rw [upF_2, hs]
    refine w_goto rfl ?_
    refine w_iconst rfl ?_
    refine w_cvV rfl (by decide) (by first | omega | (simp only [Int.toNat_natCast, upF_2] at *; omega)) rfl RH_obj mt_112 (Nat.le_of_ble_eq_true rfl) (Nat.le_of_ble_eq_true rfl) (r_fails1 hb (by assumption) _) ?_
    rw [upF_upF]
    refine w_ifeq_f rfl (by first | omega | exact (hg.2 _ _ _).1 | exact (hg.1 _).1 | (simp only [Int.toNat_natCast, upF_2] at *; omega)) (by first | omega | exact (hg.2 _ _ _).2 | exact (hg.1 _).2 | (simp only [Int.toNat_natCast, upF_2] at *; omega)) (by first | omega | (simp only [Int.toNat_natCast, upF_2] at *; omega)) ?_
    refine w_lconst rfl ?_
    refine w_lreturn rfl rfl ?_
    exact ⟨rfl, rfl⟩
  · rw [if_neg q] at hs a5
    have e1 : (upF ρ 0 0).1 8 = ρ.1 8 := rfl
    refine w_aload_n rfl rfl ?_
    refine w_iload_n rfl rfl ?_
    refine w_iflt_f rfl (by first | omega | exact (hg.2 _ _ _).1 | exact (hg.1 _).1 | (simp only [Int.toNat_natCast, upF_2] at *; omega)) (by first | omega | exact (hg.2 _ _ _).2 | exact (hg.1 _).2 | (simp only [Int.toNat_natCast, upF_2] at *; omega)) (by first | omega | (rw [e1]; omega) | (simp only [Int.toNat_natCast, upF_2] at *; omega)) ?_
    refine w_iload_n rfl rfl ?_
    refine w_bipush rfl rfl ?_
    refine w_icle_t rfl (by first | omega | exact (hg.2 _ _ _).1 | exact (hg.1 _).1 | (simp only [Int.toNat_natCast, upF_2] at *; omega)) (by first | omega | exact (hg.2 _ _ _).2 | exact (hg.1 _).2 | (simp only [Int.toNat_natCast, upF_2] at *; omega)) (by first | omega | exact (hg.2 _ _ _).1 | exact (hg.1 _).1 | (simp only [Int.toNat_natCast, upF_2] at *; omega)) (by first | omega | exact (hg.2 _ _ _).2 | exact (hg.1 _).2 | (simp only [Int.toNat_natCast, upF_2] at *; omega)) (by first | omega | (rw [e1]; omega) | (simp only [Int.toNat_natCast, upF_2] at *; omega)) ?_
    refine w_iconst rfl ?_
    refine w_iconst rfl ?_
    refine w_cvV rfl (by decide) (by first | omega | (rw [e1]; omega) | (simp only [Int.toNat_natCast, upF_2] at *; omega)) rfl RH_obj mt_112 (Nat.le_of_ble_eq_true rfl) (Nat.le_of_ble_eq_true rfl) (r_fails0 hb (by assumption) _) ?_
    refine w_ifeq_t rfl (by first | omega | exact (hg.2 _ _ _).1 | exact (hg.1 _).1 | (simp only [Int.toNat_natCast, upF_2] at *; omega)) (by first | omega | exact (hg.2 _ _ _).2 | exact (hg.1 _).2 | (simp only [Int.toNat_natCast, upF_2] at *; omega)) (by first | omega | (rw [e1]; omega) | (simp only [Int.toNat_natCast, upF_2] at *; omega)) ?_
    refine w_aload_n rfl rfl ?_
    refine w_aload_n rfl rfl ?_
    refine w_iload_n rfl rfl ?_
    refine w_iload_n rfl rfl ?_
    refine w_cvV rfl (by decide) (by first | omega | (rw [e1]; omega) | (simp only [Int.toNat_natCast, upF_2] at *; omega)) rfl RH_obj mt_128 (Nat.le_of_ble_eq_true rfl) (Nat.le_of_ble_eq_true rfl) (r_wr1 (ρ := upF ρ 0 0) hb hg0 _ k1 k2 w1 w2 hw) ?_
    refine w_ifne_t rfl (by first | omega | exact (hg.2 _ _ _).1 | exact (hg.1 _).1 | (simp only [Int.toNat_natCast, upF_2] at *; omega)) (by first | omega | exact (hg.2 _ _ _).2 | exact (hg.1 _).2 | (simp only [Int.toNat_natCast, upF_2] at *; omega)) (by first | omega | (rw [e1]; omega) | (simp only [Int.toNat_natCast, upF_2] at *; omega)) ?_
    refine w_iconst rfl ?_
    refine w_iconst rfl ?_
    refine w_cvV rfl (by decide) (by first | omega | (rw [e1]; omega) | (simp only [Int.toNat_natCast, upF_2] at *; omega)) rfl RH_obj mt_112 (Nat.le_of_ble_eq_true rfl) (Nat.le_of_ble_eq_true rfl) (r_fails0 hb (by assumption) _) ?_
    rw [upF_upF]
    refine w_ifeq_t rfl (by first | omega | exact (hg.2 _ _ _).1 | exact (hg.1 _).1 | (simp only [Int.toNat_natCast, upF_2] at *; omega)) (by first | omega | exact (hg.2 _ _ _).2 | exact (hg.1 _).2 | (simp only [Int.toNat_natCast, upF_2] at *; omega)) (by first | omega | (rw [e1]; omega) | (simp only [Int.toNat_natCast, upF_2] at *; omega)) ?_
    refine w_aload_n rfl rfl ?_
    refine w_iload_n rfl rfl ?_
    refine w_ifne_t rfl (by first | omega | exact (hg.2 _ _ _).1 | exact (hg.1 _).1 | (simp only [Int.toNat_natCast, upF_2] at *; omega)) (by first | omega | exact (hg.2 _ _ _).2 | exact (hg.1 _).2 | (simp only [Int.toNat_natCast, upF_2] at *; omega)) (by first | omega | (rw [e1]; omega) | (simp only [Int.toNat_natCast, upF_2] at *; omega)) ?_
    refine w_aload_n rfl rfl ?_
    refine m_get rfl rfl ?_
    refine w_aload_n rfl rfl ?_
    refine w_iload_n rfl rfl ?_
    refine w_iload_n rfl rfl ?_
    refine w_cvV rfl (by decide) (by first | omega | (rw [e1]; omega) | (simp only [Int.toNat_natCast, upF_2] at *; omega)) rfl RH_obj mt_129 (Nat.le_of_ble_eq_true rfl) (Nat.le_of_ble_eq_true rfl) (r_place hb (by assumption) _) ?_
    refine m_zaload rfl rl_30 (by first | omega | (rw [e1]; omega) | (simp only [Int.toNat_natCast, upF_2] at *; omega)) (by first | omega | (rw [e1]; omega) | (simp only [Int.toNat_natCast, upF_2] at *; omega)) ?_
    rw [upF_2, e1, hs]
    refine w_iconst rfl ?_
    refine w_cvV rfl (by decide) (by first | omega | (rw [e1]; omega) | (simp only [Int.toNat_natCast, upF_2] at *; omega)) rfl RH_obj mt_112 (Nat.le_of_ble_eq_true rfl) (Nat.le_of_ble_eq_true rfl) (r_fails1 hb (by assumption) _) ?_
    rw [upF_upF]
    refine w_ifeq_f rfl (by first | omega | exact (hg.2 _ _ _).1 | exact (hg.1 _).1 | (simp only [Int.toNat_natCast, upF_2] at *; omega)) (by first | omega | exact (hg.2 _ _ _).2 | exact (hg.1 _).2 | (simp only [Int.toNat_natCast, upF_2] at *; omega)) (by first | omega | (rw [e1]; omega) | (simp only [Int.toNat_natCast, upF_2] at *; omega)) ?_
    refine w_lconst rfl ?_
    refine w_lreturn rfl rfl ?_
    exact ⟨rfl, rfl⟩
set_option maxRecDepth 50000 in
theorem r_tp_l (hb : b < m0) (hg : Rg ρ) (d : Nat) {v c : Int} {w f : Nat} {B : Nat → Int} (hw : w ≤ 7) : ∀ (m k : Nat) (y : Int64), k + m = 8 → Wp b L xs d mi_130 148 [some (.ref m0), some (vI v), some (vI c), some (vI w), some (.long y), none, some (vI k)] [] (RH m0 h (bk ρ f B)) (Rt (RH m0 h (bk ρ f B)) (.long (pk B (8 * w + k) m y))) := by
  intro m
  induction m with
  | zero =>
    intro k y hk
    refine w_iload rfl rfl ?_
    refine w_bipush rfl rfl ?_
    refine w_icge_t rfl (by first | omega | exact (hg.2 _ _ _).1 | exact (hg.1 _).1 | (simp only [Int.toNat_natCast, upF_2] at *; omega)) (by first | omega | exact (hg.2 _ _ _).2 | exact (hg.1 _).2 | (simp only [Int.toNat_natCast, upF_2] at *; omega)) (by first | omega | exact (hg.2 _ _ _).1 | exact (hg.1 _).1 | (simp only [Int.toNat_natCast, upF_2] at *; omega)) (by first | omega | exact (hg.2 _ _ _).2 | exact (hg.1 _).2 | (simp only [Int.toNat_natCast, upF_2] at *; omega)) (by first | omega | (simp only [Int.toNat_natCast, upF_2] at *; omega)) ?_
    refine w_lload rfl rfl ?_
    refine w_lreturn rfl rfl ?_
    exact ⟨rfl, rfl⟩
  | succ m ih =>
    intro k y hk
    have e1 : (8 * (w : Int) + (k : Int)).toNat = 8 * w + k := by omega
    refine w_iload rfl rfl ?_
    refine w_bipush rfl rfl ?_
    refine w_icge_f rfl (by first | omega | exact (hg.2 _ _ _).1 | exact (hg.1 _).1 | (simp only [Int.toNat_natCast, upF_2] at *; omega)) (by first | omega | exact (hg.2 _ _ _).2 | exact (hg.1 _).2 | (simp only [Int.toNat_natCast, upF_2] at *; omega)) (by first | omega | exact (hg.2 _ _ _).1 | exact (hg.1 _).1 | (simp only [Int.toNat_natCast, upF_2] at *; omega)) (by first | omega | exact (hg.2 _ _ _).2 | exact (hg.1 _).2 | (simp only [Int.toNat_natCast, upF_2] at *; omega)) (by first | omega | (simp only [Int.toNat_natCast, upF_2] at *; omega)) ?_
    refine w_lload rfl rfl ?_
    refine w_bipush rfl rfl ?_
    refine w_lshlR rfl ?_
    refine w_aload_n rfl rfl ?_
    refine m_get rfl rfl ?_
    refine w_bipush rfl rfl ?_
    refine w_iload_n rfl rfl ?_
    refine w_imul rfl ?_
    refine w_iload rfl rfl ?_
    refine w_iadd rfl ?_
    refine m_iaload rfl hb rl_46 (by first | omega | (simp only [Int.toNat_natCast, upF_2] at *; omega)) (by first | omega | (simp only [Int.toNat_natCast, upF_2] at *; omega)) ?_
    rw [e1, show (bk ρ f B).2 46 0 (8 * w + k) = B (8 * w + k) from rfl]
    refine w_i2l rfl ?_
    refine w_lorR rfl ?_
    refine w_lstore rfl (by decide) ?_
    refine w_iinc rfl rfl (by decide) ?_
    refine w_goto rfl ?_
    exact ih (k + 1) _ (by omega)
set_option maxRecDepth 50000 in
theorem r_tape_L (hb : b < m0) (hg : Rg ρ) (d : Nat) (hd : 5 ≤ d) {v w : Nat} (k1 : 4 ≤ ρ.1 8) (k2 : ρ.1 8 ≤ 1000) (w1 : 0 ≤ ρ.1 9) (w2 : ρ.1 9 ≤ 4000) (q2 : w ≤ 7) (hw : rWr ρ v 0) (hs : ρ.2 31 0 v = 0) (hz : ∀ i, 64 ≤ i → ρ.2 46 0 i = 0) (hf : 0 ≤ ρ.1 47) : Wp b L xs d mi_130 0 (ent (mL mi_130) [.ref m0, vI v, vI 0, vI w]) [] (RH m0 h ρ) (Rt (RH m0 h (bk (upF ρ 0 0) 3 (putK (putK zB 0 76 1) 1 v 2))) (.long (pk (putK (putK zB 0 76 1) 1 v 2) (8 * w) 8 0))) := by
  have hg0 : Rg (upF ρ 0 0) := hg.upF 0 (by decide) (by decide)
  have hw2 := hw
  obtain ⟨a1, a2, a3, a4, a5⟩ := hw2
  refine w_aload_n rfl rfl ?_
  refine w_iload_n rfl rfl ?_
  refine w_iflt_f rfl (by first | omega | exact (hg.2 _ _ _).1 | exact (hg.1 _).1 | (simp only [Int.toNat_natCast, upF_2] at *; omega)) (by first | omega | exact (hg.2 _ _ _).2 | exact (hg.1 _).2 | (simp only [Int.toNat_natCast, upF_2] at *; omega)) (by first | omega | (simp only [Int.toNat_natCast, upF_2] at *; omega)) ?_
  refine w_iload_n rfl rfl ?_
  refine w_bipush rfl rfl ?_
  refine w_icle_t rfl (by first | omega | exact (hg.2 _ _ _).1 | exact (hg.1 _).1 | (simp only [Int.toNat_natCast, upF_2] at *; omega)) (by first | omega | exact (hg.2 _ _ _).2 | exact (hg.1 _).2 | (simp only [Int.toNat_natCast, upF_2] at *; omega)) (by first | omega | exact (hg.2 _ _ _).1 | exact (hg.1 _).1 | (simp only [Int.toNat_natCast, upF_2] at *; omega)) (by first | omega | exact (hg.2 _ _ _).2 | exact (hg.1 _).2 | (simp only [Int.toNat_natCast, upF_2] at *; omega)) (by first | omega | (simp only [Int.toNat_natCast, upF_2] at *; omega)) ?_
  refine w_iconst rfl ?_
  refine w_iconst rfl ?_
  refine w_cvV rfl (by decide) (by first | omega | (simp only [Int.toNat_natCast, upF_2] at *; omega)) rfl RH_obj mt_112 (Nat.le_of_ble_eq_true rfl) (Nat.le_of_ble_eq_true rfl) (r_fails0 hb (by assumption) _) ?_
  refine w_ifeq_t rfl (by first | omega | exact (hg.2 _ _ _).1 | exact (hg.1 _).1 | (simp only [Int.toNat_natCast, upF_2] at *; omega)) (by first | omega | exact (hg.2 _ _ _).2 | exact (hg.1 _).2 | (simp only [Int.toNat_natCast, upF_2] at *; omega)) (by first | omega | (simp only [Int.toNat_natCast, upF_2] at *; omega)) ?_
  refine w_aload_n rfl rfl ?_
  refine w_aload_n rfl rfl ?_
  refine w_iload_n rfl rfl ?_
  refine w_iload_n rfl rfl ?_
  refine w_cvV rfl (by decide) (by first | omega | (simp only [Int.toNat_natCast, upF_2] at *; omega)) rfl RH_obj mt_128 (Nat.le_of_ble_eq_true rfl) (Nat.le_of_ble_eq_true rfl) (r_wr1 (ρ := upF ρ 0 0) hb hg0 _ k1 k2 w1 w2 hw) ?_
  refine w_ifne_t rfl (by first | omega | exact (hg.2 _ _ _).1 | exact (hg.1 _).1 | (simp only [Int.toNat_natCast, upF_2] at *; omega)) (by first | omega | exact (hg.2 _ _ _).2 | exact (hg.1 _).2 | (simp only [Int.toNat_natCast, upF_2] at *; omega)) (by first | omega | (simp only [Int.toNat_natCast, upF_2] at *; omega)) ?_
  refine w_iconst rfl ?_
  refine w_iconst rfl ?_
  refine w_cvV rfl (by decide) (by first | omega | (simp only [Int.toNat_natCast, upF_2] at *; omega)) rfl RH_obj mt_112 (Nat.le_of_ble_eq_true rfl) (Nat.le_of_ble_eq_true rfl) (r_fails0 hb (by assumption) _) ?_
  rw [upF_upF]
  refine w_ifeq_t rfl (by first | omega | exact (hg.2 _ _ _).1 | exact (hg.1 _).1 | (simp only [Int.toNat_natCast, upF_2] at *; omega)) (by first | omega | exact (hg.2 _ _ _).2 | exact (hg.1 _).2 | (simp only [Int.toNat_natCast, upF_2] at *; omega)) (by first | omega | (simp only [Int.toNat_natCast, upF_2] at *; omega)) ?_
  refine w_aload_n rfl rfl ?_
  refine w_iload_n rfl rfl ?_
  refine w_ifne_f rfl (by first | omega | exact (hg.2 _ _ _).1 | exact (hg.1 _).1 | (simp only [Int.toNat_natCast, upF_2] at *; omega)) (by first | omega | exact (hg.2 _ _ _).2 | exact (hg.1 _).2 | (simp only [Int.toNat_natCast, upF_2] at *; omega)) (by first | omega | (simp only [Int.toNat_natCast, upF_2] at *; omega)) ?_
  refine w_aload_n rfl rfl ?_
  refine m_get rfl rfl ?_
  refine w_iload_n rfl rfl ?_
  refine m_zaload rfl rl_31 (by first | omega | (simp only [Int.toNat_natCast, upF_2] at *; omega)) (by first | omega | (simp only [Int.toNat_natCast, upF_2] at *; omega)) ?_
  rw [upF_2, Int.toNat_natCast, hs]
  refine w_goto rfl ?_
  refine w_iconst rfl ?_
  refine w_cvV rfl (by decide) (by first | omega | (simp only [Int.toNat_natCast, upF_2] at *; omega)) rfl RH_obj mt_112 (Nat.le_of_ble_eq_true rfl) (Nat.le_of_ble_eq_true rfl) (r_fails0 hb (by assumption) _) ?_
  rw [upF_upF]
  refine w_ifeq_t rfl (by first | omega | exact (hg.2 _ _ _).1 | exact (hg.1 _).1 | (simp only [Int.toNat_natCast, upF_2] at *; omega)) (by first | omega | exact (hg.2 _ _ _).2 | exact (hg.1 _).2 | (simp only [Int.toNat_natCast, upF_2] at *; omega)) (by first | omega | (simp only [Int.toNat_natCast, upF_2] at *; omega)) ?_
  refine w_iload_n rfl rfl ?_
  refine w_ifne_f rfl (by first | omega | exact (hg.2 _ _ _).1 | exact (hg.1 _).1 | (simp only [Int.toNat_natCast, upF_2] at *; omega)) (by first | omega | exact (hg.2 _ _ _).2 | exact (hg.1 _).2 | (simp only [Int.toNat_natCast, upF_2] at *; omega)) (by first | omega | (simp only [Int.toNat_natCast, upF_2] at *; omega)) ?_
  refine w_iconst rfl ?_
  refine w_istore rfl (by decide) ?_
  have hz0 := bk_zero (ρ := upF ρ 0 0) hf
  suffices kk : Wp b L xs d mi_130 111 [some (.ref m0), some (vI v), some (vI 0), some (vI w), some (vI 64), none, none] [] (RH m0 h (bk (upF ρ 0 0) ((upF ρ 0 0).1 47).toNat (fun i => if i < 64 then 0 else (upF ρ 0 0).2 46 0 i))) (Rt (RH m0 h (bk (upF ρ 0 0) 3 (putK (putK zB 0 76 1) 1 v 2))) (.long (pk (putK (putK zB 0 76 1) 1 v 2) (8 * w) 8 0))) by
    have k2 := r_tp_z (ρ := upF ρ 0 0) d kk 64 0 rfl
    rw [← hz0] at k2
    exact k2
  rw [bk_full (B := (upF ρ 0 0).2 46 0) hz]
  refine w_aload_n rfl rfl ?_
  refine w_iconst rfl ?_
  refine m_put rfl rfl rfl rfl ?_
  rw [bk_f470]
  refine w_aload_n rfl rfl ?_
  refine w_bipush rfl rfl ?_
  refine w_iconst rfl ?_
  refine w_cvN rfl (by decide) (by first | omega | (simp only [Int.toNat_natCast, upF_2] at *; omega)) rfl RH_obj mt_131 (Nat.le_of_ble_eq_true rfl) (Nat.le_of_ble_eq_true rfl) (r_put hb _ (by omega) (by omega) 1 (by decide) (by omega)) ?_
  refine w_aload_n rfl rfl ?_
  refine w_iload_n rfl rfl ?_
  refine w_iconst rfl ?_
  refine w_cvN rfl (by decide) (by first | omega | (simp only [Int.toNat_natCast, upF_2] at *; omega)) rfl RH_obj mt_131 (Nat.le_of_ble_eq_true rfl) (Nat.le_of_ble_eq_true rfl) (r_put hb _ (by omega) (by omega) 2 (by decide) (by omega)) ?_
  refine w_goto rfl ?_
  refine w_lconst rfl ?_
  refine w_lstore rfl (by decide) ?_
  refine w_iconst rfl ?_
  refine w_istore rfl (by decide) ?_
  exact r_tp_l hb hg0 d q2 8 0 0 rfl
set_option maxRecDepth 50000 in
theorem r_tape_B (hb : b < m0) (hg : Rg ρ) (hE : EntOk ρ) (d : Nat) (hd : 5 ≤ d) {v c : Int} {w e : Nat} {B : Nat → Int} (k1 : 4 ≤ ρ.1 8) (k2 : ρ.1 8 ≤ 1000) (w1 : 0 ≤ ρ.1 9) (w2 : ρ.1 9 ≤ 4000) (q2 : w ≤ 7) (c1 : c ≠ 0) (hw : rWr ρ v c) (hs : ρ.2 30 0 (v * (ρ.1 8 - 1) + c - 1).toNat = 0) (hz : ∀ i, 64 ≤ i → ρ.2 46 0 i = 0) (hf : 0 ≤ ρ.1 47) (he : e < 100) (h1 : ∀ j : Nat, j < e → ρ.2 13 0 (j + 1) ≤ v * (ρ.1 8 - 1) + c - 1) (h2 : v * (ρ.1 8 - 1) + c - 1 < ρ.2 13 0 (e + 1)) (hD : DumpOk ρ e) (ht : ∀ n, n < 256 → 0 ≤ ρ.2 15 e n ∧ ρ.2 15 e n ≤ 1) (hB : BlkIs ρ e (v * (ρ.1 8 - 1) + c - 1 - ρ.2 13 0 e) B) : Wp b L xs d mi_130 0 (ent (mL mi_130) [.ref m0, vI v, vI c, vI w]) [] (RH m0 h ρ) (fun h' o => o = .inl (some (.long (pk B (8 * w) 8 0))) ∧ ∃ fl : Nat, fl ≤ 64 ∧ h' = RH m0 h (bk (upF ρ 0 0) fl B)) := by
  have hg0 : Rg (upF ρ 0 0) := hg.upF 0 (by decide) (by decide)
  have hw2 := hw
  obtain ⟨a1, a2, a3, a4, a5⟩ := hw2
  have hz1 : 0 ≤ v * (ρ.1 8 - 1) := Int.mul_nonneg (by omega) (by omega)
  rw [if_neg c1] at a5
  have e1 : (upF ρ 0 0).1 8 = ρ.1 8 := rfl
  refine w_aload_n rfl rfl ?_
  refine w_iload_n rfl rfl ?_
  refine w_iflt_f rfl (by first | omega | exact (hg.2 _ _ _).1 | exact (hg.1 _).1 | (simp only [Int.toNat_natCast, upF_2] at *; omega)) (by first | omega | exact (hg.2 _ _ _).2 | exact (hg.1 _).2 | (simp only [Int.toNat_natCast, upF_2] at *; omega)) (by first | omega | (rw [e1]; omega) | (simp only [Int.toNat_natCast, upF_2] at *; omega)) ?_
  refine w_iload_n rfl rfl ?_
  refine w_bipush rfl rfl ?_
  refine w_icle_t rfl (by first | omega | exact (hg.2 _ _ _).1 | exact (hg.1 _).1 | (simp only [Int.toNat_natCast, upF_2] at *; omega)) (by first | omega | exact (hg.2 _ _ _).2 | exact (hg.1 _).2 | (simp only [Int.toNat_natCast, upF_2] at *; omega)) (by first | omega | exact (hg.2 _ _ _).1 | exact (hg.1 _).1 | (simp only [Int.toNat_natCast, upF_2] at *; omega)) (by first | omega | exact (hg.2 _ _ _).2 | exact (hg.1 _).2 | (simp only [Int.toNat_natCast, upF_2] at *; omega)) (by first | omega | (rw [e1]; omega) | (simp only [Int.toNat_natCast, upF_2] at *; omega)) ?_
  refine w_iconst rfl ?_
  refine w_iconst rfl ?_
  refine w_cvV rfl (by decide) (by first | omega | (rw [e1]; omega) | (simp only [Int.toNat_natCast, upF_2] at *; omega)) rfl RH_obj mt_112 (Nat.le_of_ble_eq_true rfl) (Nat.le_of_ble_eq_true rfl) (r_fails0 hb (by assumption) _) ?_
  refine w_ifeq_t rfl (by first | omega | exact (hg.2 _ _ _).1 | exact (hg.1 _).1 | (simp only [Int.toNat_natCast, upF_2] at *; omega)) (by first | omega | exact (hg.2 _ _ _).2 | exact (hg.1 _).2 | (simp only [Int.toNat_natCast, upF_2] at *; omega)) (by first | omega | (rw [e1]; omega) | (simp only [Int.toNat_natCast, upF_2] at *; omega)) ?_
  refine w_aload_n rfl rfl ?_
  refine w_aload_n rfl rfl ?_
  refine w_iload_n rfl rfl ?_
  refine w_iload_n rfl rfl ?_
  refine w_cvV rfl (by decide) (by first | omega | (rw [e1]; omega) | (simp only [Int.toNat_natCast, upF_2] at *; omega)) rfl RH_obj mt_128 (Nat.le_of_ble_eq_true rfl) (Nat.le_of_ble_eq_true rfl) (r_wr1 (ρ := upF ρ 0 0) hb hg0 _ k1 k2 w1 w2 hw) ?_
  refine w_ifne_t rfl (by first | omega | exact (hg.2 _ _ _).1 | exact (hg.1 _).1 | (simp only [Int.toNat_natCast, upF_2] at *; omega)) (by first | omega | exact (hg.2 _ _ _).2 | exact (hg.1 _).2 | (simp only [Int.toNat_natCast, upF_2] at *; omega)) (by first | omega | (rw [e1]; omega) | (simp only [Int.toNat_natCast, upF_2] at *; omega)) ?_
  refine w_iconst rfl ?_
  refine w_iconst rfl ?_
  refine w_cvV rfl (by decide) (by first | omega | (rw [e1]; omega) | (simp only [Int.toNat_natCast, upF_2] at *; omega)) rfl RH_obj mt_112 (Nat.le_of_ble_eq_true rfl) (Nat.le_of_ble_eq_true rfl) (r_fails0 hb (by assumption) _) ?_
  rw [upF_upF]
  refine w_ifeq_t rfl (by first | omega | exact (hg.2 _ _ _).1 | exact (hg.1 _).1 | (simp only [Int.toNat_natCast, upF_2] at *; omega)) (by first | omega | exact (hg.2 _ _ _).2 | exact (hg.1 _).2 | (simp only [Int.toNat_natCast, upF_2] at *; omega)) (by first | omega | (rw [e1]; omega) | (simp only [Int.toNat_natCast, upF_2] at *; omega)) ?_
  refine w_aload_n rfl rfl ?_
  refine w_iload_n rfl rfl ?_
  refine w_ifne_t rfl (by first | omega | exact (hg.2 _ _ _).1 | exact (hg.1 _).1 | (simp only [Int.toNat_natCast, upF_2] at *; omega)) (by first | omega | exact (hg.2 _ _ _).2 | exact (hg.1 _).2 | (simp only [Int.toNat_natCast, upF_2] at *; omega)) (by first | omega | (rw [e1]; omega) | (simp only [Int.toNat_natCast, upF_2] at *; omega)) ?_
  refine w_aload_n rfl rfl ?_
  refine m_get rfl rfl ?_
  refine w_aload_n rfl rfl ?_
  refine w_iload_n rfl rfl ?_
  refine w_iload_n rfl rfl ?_
  refine w_cvV rfl (by decide) (by first | omega | (rw [e1]; omega) | (simp only [Int.toNat_natCast, upF_2] at *; omega)) rfl RH_obj mt_129 (Nat.le_of_ble_eq_true rfl) (Nat.le_of_ble_eq_true rfl) (r_place hb (by assumption) _) ?_
  refine m_zaload rfl rl_30 (by first | omega | (rw [e1]; omega) | (simp only [Int.toNat_natCast, upF_2] at *; omega)) (by first | omega | (rw [e1]; omega) | (simp only [Int.toNat_natCast, upF_2] at *; omega)) ?_
  rw [upF_2, e1, hs]
  refine w_iconst rfl ?_
  refine w_cvV rfl (by decide) (by first | omega | (rw [e1]; omega) | (simp only [Int.toNat_natCast, upF_2] at *; omega)) rfl RH_obj mt_112 (Nat.le_of_ble_eq_true rfl) (Nat.le_of_ble_eq_true rfl) (r_fails0 hb (by assumption) _) ?_
  rw [upF_upF]
  refine w_ifeq_t rfl (by first | omega | exact (hg.2 _ _ _).1 | exact (hg.1 _).1 | (simp only [Int.toNat_natCast, upF_2] at *; omega)) (by first | omega | exact (hg.2 _ _ _).2 | exact (hg.1 _).2 | (simp only [Int.toNat_natCast, upF_2] at *; omega)) (by first | omega | (rw [e1]; omega) | (simp only [Int.toNat_natCast, upF_2] at *; omega)) ?_
  refine w_iload_n rfl rfl ?_
  refine w_ifne_t rfl (by first | omega | exact (hg.2 _ _ _).1 | exact (hg.1 _).1 | (simp only [Int.toNat_natCast, upF_2] at *; omega)) (by first | omega | exact (hg.2 _ _ _).2 | exact (hg.1 _).2 | (simp only [Int.toNat_natCast, upF_2] at *; omega)) (by first | omega | (rw [e1]; omega) | (simp only [Int.toNat_natCast, upF_2] at *; omega)) ?_
  refine w_aload_n rfl rfl ?_
  refine w_aload_n rfl rfl ?_
  refine w_iload_n rfl rfl ?_
  refine w_iload_n rfl rfl ?_
  refine w_cvV rfl (by decide) (by first | omega | (rw [e1]; omega) | (simp only [Int.toNat_natCast, upF_2] at *; omega)) rfl RH_obj mt_129 (Nat.le_of_ble_eq_true rfl) (Nat.le_of_ble_eq_true rfl) (r_place hb (by assumption) _) ?_
  refine w_cv rfl (by decide) (by first | omega | (rw [e1]; omega) | (simp only [Int.toNat_natCast, upF_2] at *; omega)) rfl RH_obj mt_132 (Nat.le_of_ble_eq_true rfl) (Nat.le_of_ble_eq_true rfl) (r_mk (ρ := upF ρ 0 0) hb hg0 hE _ (by omega) (e := e) (B := B) he (by rw [e1]; omega) (by rw [e1]; omega) h1 h2 hD ht hz hf (BlkIs_2 (ρ := ρ) (ρ' := upF ρ 0 0) rfl hB)) ?_
  rintro _ _ ⟨rfl, fl, hfl, rfl⟩
  refine ⟨none, rfl, ?_⟩
  refine w_lconst rfl ?_
  refine w_lstore rfl (by decide) ?_
  refine w_iconst rfl ?_
  refine w_istore rfl (by decide) ?_
  exact (r_tp_l hb hg0 d q2 8 0 0 rfl).mono (fun h' o z => ⟨z.2, fl, hfl, z.1⟩)
end Rr10
