/-! the class's tree holds the reference's -/
def szv (ρ : RS) (n : Nat) : Int := if ρ.2 1 0 n = 1 then ρ.2 4 0 n else rEnt ρ n
def NdIs (c : CS) (ρ : RS) (na : Nat → Option Nat) (n a : Nat) : Prop := na n = some a ∧ c.2.1 2 0 n = .ref a ∧ c.1 a = some (12, n) ∧ ρ.2 1 0 n ≠ 0 ∧ c.2.1 12 n 0 = vI n ∧ c.2.1 12 n 1 = vI (ρ.2 1 0 n) ∧ c.2.1 12 n 2 = va_rf (if n = 0 then none else na (ρ.2 2 0 n).toNat) ∧ c.2.1 12 n 3 = vI (ρ.2 3 0 n) ∧ c.2.1 12 n 4 = vI (szv ρ n) ∧ c.2.1 12 n 5 = vI (ρ.2 5 0 n)
def NdNo (c : CS) (ρ : RS) (na : Nat → Option Nat) (n : Nat) : Prop := na n = none ∧ c.2.1 2 0 n = .null ∧ ρ.2 1 0 n = 0
def TP (T0 N0 : Nat) (c : CS) (ρ : RS) (na : Nat → Option Nat) : Prop := c.1 T0 = some (1, 0) ∧ c.2.1 1 0 0 = .ref N0 ∧ c.1 N0 = some (2, 0) ∧ c.2.1 1 0 1 = vI (cnt (fun n => ρ.2 1 0 n ≠ 0) 0 256) ∧ c.2.1 1 0 2 = vI (ρ.1 7) ∧ (∀ n, n < 256 → NdNo c ρ na n ∨ ∃ a, NdIs c ρ na n a)
/-- a directory's chain -/
def DirOk (c : CS) (ρ : RS) (na : Nat → Option Nat) (cs ad : Nat → Nat) (q n : Nat) : Prop := Kids ρ n cs q ∧ rEnt ρ n = q ∧ Chn c n cs ad (fun i => ρ.2 3 0 (cs i)) q ∧ ∀ i, i < q → na (cs i) = some (ad i)
/-- a file's octets -/
def OctOk (c : CS) (ρ : RS) (oc : Option Nat) (dt : Nat → Int) (n : Nat) : Prop := c.2.1 12 n 6 = va_rf oc ∧ (∀ k : Nat, 0 ≤ dt k ∧ dt k ≤ 255) ∧ (∀ k : Nat, (k : Int) < ρ.2 4 0 n → dt k = ρ.2 6 n k % 256) ∧ (match oc with
  | none => ρ.2 4 0 n = 0
  | some o => c.1 o = some (13, n) ∧ ∀ k, c.2.1 13 n k = vI (sb (dt k)))
section Ct3
variable {b L : Nat} {xs : Nat → Int32} {h : AH} {c : CS} {ρ : RS} {na : Nat → Option Nat} {T0 N0 : Nat}
theorem k_blocks (d : Nat) (hd : 1 ≤ d) (hT : TreeOk ρ) {n a : Nat} (hn2 : n < 256) (hn : NdIs c ρ na n a) : Wp b L xs d mi_52 0 (ent (mL mi_52) [.ref a]) [] (CH h c) (Rt (CH h c) (vI (nb ρ n))) := by
  obtain ⟨i1, i2, oA, i4, f0, f1, f2, f3, f4, f5⟩ := hn
  have t1 := hT n hn2
  have t2 : rEnt ρ n ≤ 255 := cnt_le _ _ _
  unfold nb
  unfold szv at f4
  by_cases q : ρ.2 1 0 n = 1
  · rw [if_pos q] at f4 ⊢
    refine w_iconst rfl ?_
    refine w_aload_n rfl rfl ?_
    refine k_get rfl oA rfl rfl ?_
    rw [f4]
    refine w_aload_n rfl rfl ?_
    refine k_get rfl oA rfl rfl ?_
    rw [f1]
    refine w_iconst rfl ?_
    refine w_icne_f rfl (by omega) (by omega) (by omega) (by omega) (by first | omega | (simp only [Int.toNat_natCast, upF_2] at *; omega)) ?_
    refine w_bipush rfl rfl ?_
    refine w_goto rfl ?_
    refine w_csV rfl (by decide) (by first | omega | (simp only [Int.toNat_natCast, upF_2] at *; omega)) rfl mt_50 (Nat.le_of_ble_eq_true rfl) (Nat.le_of_ble_eq_true rfl) (k_quo _ (by omega) (by omega) (by omega) (by omega)) ?_
    refine w_iadd rfl ?_
    refine w_ireturn rfl rfl ?_
    exact ⟨rfl, rfl⟩
  · rw [if_neg q] at f4 ⊢
    refine w_iconst rfl ?_
    refine w_aload_n rfl rfl ?_
    refine k_get rfl oA rfl rfl ?_
    rw [f4]
    refine w_aload_n rfl rfl ?_
    refine k_get rfl oA rfl rfl ?_
    rw [f1]
    refine w_iconst rfl ?_
    refine w_icne_t rfl (by omega) (by omega) (by omega) (by omega) (by first | omega | (simp only [Int.toNat_natCast, upF_2] at *; omega)) ?_
    refine w_bipush rfl rfl ?_
    refine w_csV rfl (by decide) (by first | omega | (simp only [Int.toNat_natCast, upF_2] at *; omega)) rfl mt_50 (Nat.le_of_ble_eq_true rfl) (Nat.le_of_ble_eq_true rfl) (k_quo _ (by omega) (by omega) (by omega) (by omega)) ?_
    refine w_iadd rfl ?_
    refine w_ireturn rfl rfl ?_
    exact ⟨rfl, rfl⟩
theorem k_oct (d : Nat) {n a : Nat} (oA : c.1 a = some (12, n)) {oc : Option Nat} {dt : Nat → Int} (hO : OctOk c ρ oc dt n) (hb : ∀ o, oc = some o → o ≠ b) {k : Nat} (hk : (k : Int) < ρ.2 4 0 n) (hk2 : k < 512) : Wp b L xs d mi_66 0 (ent (mL mi_66) [.ref a, vI k]) [] (CH h c) (Rt (CH h c) (vI (ρ.2 6 n k % 256))) := by
  obtain ⟨g1, g2, g3, g4⟩ := hO
  cases oc with
  | none => exact absurd hk (by rw [g4]; omega)
  | some o =>
    obtain ⟨oO, g5⟩ := g4
    have hb2 := hb o rfl
    have g6 := g2 k
    rw [← g3 k hk]
    refine w_aload_n rfl rfl ?_
    refine k_get rfl oA rfl rfl ?_
    rw [show c.2.1 12 n 6 = .ref o from g1]
    refine w_ifnull_r rfl ?_
    refine w_iload_n rfl rfl ?_
    refine w_iflt_f rfl (by omega) (by omega) (by first | omega | (simp only [Int.toNat_natCast, upF_2] at *; omega)) ?_
    refine w_iload_n rfl rfl ?_
    refine w_aload_n rfl rfl ?_
    refine k_get rfl oA rfl rfl ?_
    rw [show c.2.1 12 n 6 = .ref o from g1]
    refine k_alen rfl (by first | omega | (simp only [Int.toNat_natCast, upF_2] at *; omega)) oO rfl ?_
    refine w_iclt_t rfl (by omega) (by omega) (by omega) (by omega) (by first | omega | (simp only [Int.toNat_natCast, upF_2] at *; omega)) ?_
    refine w_aload_n rfl rfl ?_
    refine k_get rfl oA rfl rfl ?_
    rw [show c.2.1 12 n 6 = .ref o from g1]
    refine w_iload_n rfl rfl ?_
    refine k_baload rfl oO rfl (by decide) (by first | omega | (simp only [Int.toNat_natCast, upF_2] at *; omega)) (by first | omega | (simp only [Int.toNat_natCast, upF_2] at *; omega)) (by first | omega | (simp only [Int.toNat_natCast, upF_2] at *; omega)) (g5 k) ?_
    refine w_sipush rfl rfl ?_
    refine w_and255 rfl ?_
    refine w_ireturn rfl rfl ?_
    rw [sb_mod, show dt k % 256 = dt k by omega]
    exact ⟨rfl, rfl⟩
theorem k_factN (d : Nat) (hd : 2 ≤ d) (hP : TP T0 N0 c ρ na) {n : Nat} {w : Int} (hn2 : n < 256) (hn : NdNo c ρ na n) : Wp b L xs d mi_97 0 (ent (mL mi_97) [.ref T0, vI n, vI w]) [] (CH h c) (Rt (CH h c) (vI 0)) := by
  obtain ⟨oT, vT, oN, v1, v2, hN⟩ := hP
  refine w_aload_n rfl rfl ?_
  refine w_iload_n rfl rfl ?_
  refine w_cvV rfl (by decide) (by omega) rfl (CH_ob oT rfl) mt_17 (Nat.le_of_ble_eq_true rfl) (Nat.le_of_ble_eq_true rfl) (k_nodeN _ (by omega) oT vT oN hn2 hn.2.1) ?_
  refine w_astore_nQ (x := none) rfl (by decide) ?_
  refine w_aload_nQ (x := none) rfl rfl ?_
  refine w_ifnonnull_n rfl ?_
  refine w_iconst rfl ?_
  refine w_ireturn rfl rfl ?_
  exact ⟨rfl, rfl⟩
theorem k_fact0 (d : Nat) (hd : 2 ≤ d) (oT : c.1 T0 = some (1, 0)) {n w : Int} (n1 : -2147483648 ≤ n) (n2 : n ≤ 2147483647) (hn : ¬ (0 ≤ n ∧ n < 256)) : Wp b L xs d mi_97 0 (ent (mL mi_97) [.ref T0, vI n, vI w]) [] (CH h c) (Rt (CH h c) (vI 0)) := by
  refine w_aload_n rfl rfl ?_
  refine w_iload_n rfl rfl ?_
  refine w_cvV rfl (by decide) (by omega) rfl (CH_ob oT rfl) mt_17 (Nat.le_of_ble_eq_true rfl) (Nat.le_of_ble_eq_true rfl) (k_node0 _ (by omega) n1 n2 hn) ?_
  refine w_astore_nQ (x := none) rfl (by decide) ?_
  refine w_aload_nQ (x := none) rfl rfl ?_
  refine w_ifnonnull_n rfl ?_
  refine w_iconst rfl ?_
  refine w_ireturn rfl rfl ?_
  exact ⟨rfl, rfl⟩
theorem k_factR (d : Nat) (hd : 2 ≤ d) (hT : TreeOk ρ) (hP : TP T0 N0 c ρ na) {n a : Nat} {w : Int} (w1 : 0 ≤ w) (w2 : w ≤ 5) (hn2 : n < 256) (hn : NdIs c ρ na n a) (hr : n = 0 → ρ.2 2 0 n = 0) (hp : n ≠ 0 → ρ.2 1 0 (ρ.2 2 0 n).toNat ≠ 0) : Wp b L xs d mi_97 0 (ent (mL mi_97) [.ref T0, vI n, vI w]) [] (CH h c) (Rt (CH h c) (vI (rNode0 ρ n w))) := by
  have hn3 := hn
  have hP2 := hP
  obtain ⟨oT, vT, oN, v1, v2, hN⟩ := hP
  obtain ⟨i1, i2, oA, i4, f0, f1, f2, f3, f4, f5⟩ := hn
  have t1 := hT n hn2
  obtain rfl | rfl | rfl | rfl | rfl | rfl : w = 0 ∨ w = 1 ∨ w = 2 ∨ w = 3 ∨ w = 4 ∨ w = 5 := by omega
  · refine w_aload_n rfl rfl ?_
    refine w_iload_n rfl rfl ?_
    refine w_cvV rfl (by decide) (by first | omega | (simp only [Int.toNat_natCast, upF_2] at *; omega)) rfl (CH_ob oT rfl) mt_17 (Nat.le_of_ble_eq_true rfl) (Nat.le_of_ble_eq_true rfl) (k_nodeR _ (by omega) oT vT oN hn2 i2) ?_
    refine w_astore_n rfl (by decide) ?_
    refine w_aload_n rfl rfl ?_
    refine w_ifnonnull_r rfl ?_
    refine w_iload_n rfl rfl ?_
    refine w_tsw rfl (by omega) (by omega) (by first | omega | (simp only [Int.toNat_natCast, upF_2] at *; omega)) (by first | omega | (simp only [Int.toNat_natCast, upF_2] at *; omega)) rfl ?_
    refine w_aload_n rfl rfl ?_
    refine k_get rfl oA rfl rfl ?_
    rw [f1]
    refine w_ireturn rfl rfl ?_
    exact ⟨rfl, rfl⟩
  · have e1 : rNode0 ρ n 1 = ρ.2 2 0 n := by
      unfold rNode0
      rw [if_neg (by decide), if_neg (by decide), if_neg i4, if_pos rfl]
    rw [e1]
    by_cases q : n = 0
    · rw [if_pos q] at f2
      rw [hr q]
      refine w_aload_n rfl rfl ?_
      refine w_iload_n rfl rfl ?_
      refine w_cvV rfl (by decide) (by first | omega | (simp only [Int.toNat_natCast, upF_2] at *; omega)) rfl (CH_ob oT rfl) mt_17 (Nat.le_of_ble_eq_true rfl) (Nat.le_of_ble_eq_true rfl) (k_nodeR _ (by omega) oT vT oN hn2 i2) ?_
      refine w_astore_n rfl (by decide) ?_
      refine w_aload_n rfl rfl ?_
      refine w_ifnonnull_r rfl ?_
      refine w_iload_n rfl rfl ?_
      refine w_tsw rfl (by omega) (by omega) (by first | omega | (simp only [Int.toNat_natCast, upF_2] at *; omega)) (by first | omega | (simp only [Int.toNat_natCast, upF_2] at *; omega)) rfl ?_
      refine w_aload_n rfl rfl ?_
      refine w_cvV rfl (by decide) (by first | omega | (simp only [Int.toNat_natCast, upF_2] at *; omega)) rfl (CH_ob oA rfl) mt_64 (Nat.le_of_ble_eq_true rfl) (Nat.le_of_ble_eq_true rfl) (k_pn0 _ oA f2) ?_
      refine w_ireturn rfl rfl ?_
      exact ⟨rfl, rfl⟩
    · rw [if_neg q] at f2
      have t2 := hN (ρ.2 2 0 n).toNat (by omega)
      obtain ⟨p, hp2⟩ : ∃ p, NdIs c ρ na (ρ.2 2 0 n).toNat p := by
        rcases t2 with t2 | t2
        · exact absurd t2.2.2 (hp q)
        · exact t2
      rw [hp2.1] at f2
      have e2 : ρ.2 2 0 n = (((ρ.2 2 0 n).toNat : Nat) : Int) := by omega
      refine w_aload_n rfl rfl ?_
      refine w_iload_n rfl rfl ?_
      refine w_cvV rfl (by decide) (by first | omega | (simp only [Int.toNat_natCast, upF_2] at *; omega)) rfl (CH_ob oT rfl) mt_17 (Nat.le_of_ble_eq_true rfl) (Nat.le_of_ble_eq_true rfl) (k_nodeR _ (by omega) oT vT oN hn2 i2) ?_
      refine w_astore_n rfl (by decide) ?_
      refine w_aload_n rfl rfl ?_
      refine w_ifnonnull_r rfl ?_
      refine w_iload_n rfl rfl ?_
      refine w_tsw rfl (by omega) (by omega) (by first | omega | (simp only [Int.toNat_natCast, upF_2] at *; omega)) (by first | omega | (simp only [Int.toNat_natCast, upF_2] at *; omega)) rfl ?_
      refine w_aload_n rfl rfl ?_
      refine w_cvV rfl (by decide) (by first | omega | (simp only [Int.toNat_natCast, upF_2] at *; omega)) rfl (CH_ob oA rfl) mt_64 (Nat.le_of_ble_eq_true rfl) (Nat.le_of_ble_eq_true rfl) (k_pn1 _ oA f2 hp2.2.2.1 hp2.2.2.2.2.1) ?_
      refine w_ireturn rfl rfl ?_
      exact ⟨rfl, by rw [← e2]⟩
  · refine w_aload_n rfl rfl ?_
    refine w_iload_n rfl rfl ?_
    refine w_cvV rfl (by decide) (by first | omega | (simp only [Int.toNat_natCast, upF_2] at *; omega)) rfl (CH_ob oT rfl) mt_17 (Nat.le_of_ble_eq_true rfl) (Nat.le_of_ble_eq_true rfl) (k_nodeR _ (by omega) oT vT oN hn2 i2) ?_
    refine w_astore_n rfl (by decide) ?_
    refine w_aload_n rfl rfl ?_
    refine w_ifnonnull_r rfl ?_
    refine w_iload_n rfl rfl ?_
    refine w_tsw rfl (by omega) (by omega) (by first | omega | (simp only [Int.toNat_natCast, upF_2] at *; omega)) (by first | omega | (simp only [Int.toNat_natCast, upF_2] at *; omega)) rfl ?_
    refine w_aload_n rfl rfl ?_
    refine k_get rfl oA rfl rfl ?_
    rw [f3]
    refine w_ireturn rfl rfl ?_
    exact ⟨rfl, by unfold rNode0; rw [if_neg (by decide), if_neg (by decide), if_neg i4, if_neg (by decide), if_pos rfl]⟩
  · refine w_aload_n rfl rfl ?_
    refine w_iload_n rfl rfl ?_
    refine w_cvV rfl (by decide) (by first | omega | (simp only [Int.toNat_natCast, upF_2] at *; omega)) rfl (CH_ob oT rfl) mt_17 (Nat.le_of_ble_eq_true rfl) (Nat.le_of_ble_eq_true rfl) (k_nodeR _ (by omega) oT vT oN hn2 i2) ?_
    refine w_astore_n rfl (by decide) ?_
    refine w_aload_n rfl rfl ?_
    refine w_ifnonnull_r rfl ?_
    refine w_iload_n rfl rfl ?_
    refine w_tsw rfl (by omega) (by omega) (by first | omega | (simp only [Int.toNat_natCast, upF_2] at *; omega)) (by first | omega | (simp only [Int.toNat_natCast, upF_2] at *; omega)) rfl ?_
    refine w_aload_n rfl rfl ?_
    refine k_get rfl oA rfl rfl ?_
    rw [f4]
    refine w_ireturn rfl rfl ?_
    exact ⟨rfl, by rw [show rNode0 ρ n 3 = szv ρ n from by unfold rNode0; rw [if_neg (by decide), if_neg (by decide), if_neg i4, if_neg (by decide), if_neg (by decide), if_pos rfl]; rfl]⟩
  · refine w_aload_n rfl rfl ?_
    refine w_iload_n rfl rfl ?_
    refine w_cvV rfl (by decide) (by first | omega | (simp only [Int.toNat_natCast, upF_2] at *; omega)) rfl (CH_ob oT rfl) mt_17 (Nat.le_of_ble_eq_true rfl) (Nat.le_of_ble_eq_true rfl) (k_nodeR _ (by omega) oT vT oN hn2 i2) ?_
    refine w_astore_n rfl (by decide) ?_
    refine w_aload_n rfl rfl ?_
    refine w_ifnonnull_r rfl ?_
    refine w_iload_n rfl rfl ?_
    refine w_tsw rfl (by omega) (by omega) (by first | omega | (simp only [Int.toNat_natCast, upF_2] at *; omega)) (by first | omega | (simp only [Int.toNat_natCast, upF_2] at *; omega)) rfl ?_
    refine w_aload_n rfl rfl ?_
    refine k_get rfl oA rfl rfl ?_
    rw [f5]
    refine w_ireturn rfl rfl ?_
    exact ⟨rfl, by unfold rNode0; rw [if_neg (by decide), if_neg (by decide), if_neg i4, if_neg (by decide), if_neg (by decide), if_neg (by decide)]⟩
  · refine w_aload_n rfl rfl ?_
    refine w_iload_n rfl rfl ?_
    refine w_cvV rfl (by decide) (by first | omega | (simp only [Int.toNat_natCast, upF_2] at *; omega)) rfl (CH_ob oT rfl) mt_17 (Nat.le_of_ble_eq_true rfl) (Nat.le_of_ble_eq_true rfl) (k_nodeR _ (by omega) oT vT oN hn2 i2) ?_
    refine w_astore_n rfl (by decide) ?_
    refine w_aload_n rfl rfl ?_
    refine w_ifnonnull_r rfl ?_
    refine w_iload_n rfl rfl ?_
    refine w_tswd rfl (by omega) (by omega) (by omega) ?_
    refine w_iconst rfl ?_
    refine w_ireturn rfl rfl ?_
    exact ⟨rfl, by unfold rNode0; rw [if_neg (by decide), if_pos rfl]⟩
theorem k_octOf (d : Nat) (hd : 3 ≤ d) (hP : TP T0 N0 c ρ na) {n a : Nat} (hn2 : n < 256) (hn : NdIs c ρ na n a) (hk1 : ρ.2 1 0 n = 1) {oc : Option Nat} {dt : Nat → Int} (hO : OctOk c ρ oc dt n) (hb : ∀ o, oc = some o → o ≠ b) {k : Nat} (hk : (k : Int) < ρ.2 4 0 n) (hk2 : k < 512) : Wp b L xs d mi_102 0 (ent (mL mi_102) [.ref T0, vI n, vI k]) [] (CH h c) (Rt (CH h c) (vI (ρ.2 6 n k % 256))) := by
  obtain ⟨oT, vT, oN, v1, v2, hN⟩ := hP
  obtain ⟨i1, i2, oA, i4, f0, f1, f2, f3, f4, f5⟩ := hn
  refine w_aload_n rfl rfl ?_
  refine w_iload_n rfl rfl ?_
  refine w_cvV rfl (by decide) (by first | omega | (simp only [Int.toNat_natCast, upF_2] at *; omega)) rfl (CH_ob oT rfl) mt_26 (Nat.le_of_ble_eq_true rfl) (Nat.le_of_ble_eq_true rfl) (k_fileR _ (by omega) oT vT oN hn2 i2 oA f1 hk1) ?_
  refine w_astore_n rfl (by decide) ?_
  refine w_aload_n rfl rfl ?_
  refine w_ifnonnull_r rfl ?_
  refine w_aload_n rfl rfl ?_
  refine w_iload_n rfl rfl ?_
  refine w_cvV rfl (by decide) (by first | omega | (simp only [Int.toNat_natCast, upF_2] at *; omega)) rfl (CH_ob oA rfl) mt_66 (Nat.le_of_ble_eq_true rfl) (Nat.le_of_ble_eq_true rfl) (k_oct _ oA hO hb hk hk2) ?_
  refine w_ireturn rfl rfl ?_
  exact ⟨rfl, rfl⟩
theorem k_entF (d : Nat) (hd : 3 ≤ d) (hP : TP T0 N0 c ρ na) {n a : Nat} (hn2 : n < 256) (hn : NdIs c ρ na n a) (hk1 : ρ.2 1 0 n = 2) {cs ad : Nat → Nat} {q : Nat} (hD : DirOk c ρ na cs ad q n) {w : Int} (w1 : -2147483648 ≤ w) (w2 : w ≤ 2147483647) {t : Nat} (ht : t < q) (hw : ρ.2 3 0 (cs t) = w) (hv : c.2.1 12 (cs t) 0 = vI (cs t)) : Wp b L xs d mi_106 0 (ent (mL mi_106) [.ref T0, vI n, vI w]) [] (CH h c) (Rt (CH h c) (vI (cs t))) := by
  obtain ⟨oT, vT, oN, v1, v2, hN⟩ := hP
  obtain ⟨i1, i2, oA, i4, f0, f1, f2, f3, f4, f5⟩ := hn
  have hj : ∀ j, j < t → ρ.2 3 0 (cs j) ≠ w := fun j h1 => by
    have := hD.1.2.1 j t h1 ht
    omega
  have oE := (hD.2.2.1.2 t ht).1
  refine w_aload_n rfl rfl ?_
  refine w_iload_n rfl rfl ?_
  refine w_cvV rfl (by decide) (by first | omega | (simp only [Int.toNat_natCast, upF_2] at *; omega)) rfl (CH_ob oT rfl) mt_16 (Nat.le_of_ble_eq_true rfl) (Nat.le_of_ble_eq_true rfl) (k_dirR _ (by omega) oT vT oN hn2 i2 oA f1 hk1) ?_
  refine w_astore_n rfl (by decide) ?_
  refine w_aload_n rfl rfl ?_
  refine w_ifnonnull_r rfl ?_
  refine w_aload_n rfl rfl ?_
  refine w_iload_n rfl rfl ?_
  refine w_cvV rfl (by decide) (by first | omega | (simp only [Int.toNat_natCast, upF_2] at *; omega)) rfl (CH_ob oA rfl) mt_20 (Nat.le_of_ble_eq_true rfl) (Nat.le_of_ble_eq_true rfl) (k_chF _ oA hD.2.2.1 w1 w2 ht hw hj) ?_
  refine w_astore rfl (by decide) ?_
  refine w_aload rfl rfl ?_
  refine w_ifnonnull_r rfl ?_
  refine w_aload rfl rfl ?_
  refine k_get rfl oE rfl rfl ?_
  rw [hv]
  refine w_ireturn rfl rfl ?_
  exact ⟨rfl, rfl⟩
theorem k_entN (d : Nat) (hd : 3 ≤ d) (hP : TP T0 N0 c ρ na) {n a : Nat} (hn2 : n < 256) (hn : NdIs c ρ na n a) (hk1 : ρ.2 1 0 n = 2) {cs ad : Nat → Nat} {q : Nat} (hD : DirOk c ρ na cs ad q n) {w : Int} (w1 : -2147483648 ≤ w) (w2 : w ≤ 2147483647) (hj : ∀ j, j < q → ρ.2 3 0 (cs j) ≠ w) : Wp b L xs d mi_106 0 (ent (mL mi_106) [.ref T0, vI n, vI w]) [] (CH h c) (Rt (CH h c) (vI (-1))) := by
  obtain ⟨oT, vT, oN, v1, v2, hN⟩ := hP
  obtain ⟨i1, i2, oA, i4, f0, f1, f2, f3, f4, f5⟩ := hn
  refine w_aload_n rfl rfl ?_
  refine w_iload_n rfl rfl ?_
  refine w_cvV rfl (by decide) (by first | omega | (simp only [Int.toNat_natCast, upF_2] at *; omega)) rfl (CH_ob oT rfl) mt_16 (Nat.le_of_ble_eq_true rfl) (Nat.le_of_ble_eq_true rfl) (k_dirR _ (by omega) oT vT oN hn2 i2 oA f1 hk1) ?_
  refine w_astore_n rfl (by decide) ?_
  refine w_aload_n rfl rfl ?_
  refine w_ifnonnull_r rfl ?_
  refine w_aload_n rfl rfl ?_
  refine w_iload_n rfl rfl ?_
  refine w_cvV rfl (by decide) (by first | omega | (simp only [Int.toNat_natCast, upF_2] at *; omega)) rfl (CH_ob oA rfl) mt_20 (Nat.le_of_ble_eq_true rfl) (Nat.le_of_ble_eq_true rfl) (k_chN _ oA hD.2.2.1 w1 w2 hj) ?_
  refine w_astoreQ (x := none) rfl (by decide) ?_
  refine w_aloadQ (x := none) rfl rfl ?_
  refine w_ifnonnull_n rfl ?_
  refine w_iconst rfl ?_
  refine w_goto rfl ?_
  refine w_ireturn rfl rfl ?_
  exact ⟨rfl, rfl⟩
theorem k_chgR (d : Nat) (hd : 2 ≤ d) (hP : TP T0 N0 c ρ na) (hT : TreeOk ρ) {n a : Nat} {s : Int} (s1 : -1 ≤ s) (s2 : s ≤ 1000000) (hn2 : n < 256) (hn : NdIs c ρ na n a) (hs : s < ρ.2 5 0 n) : Wp b L xs d mi_48 0 (ent (mL mi_48) [.ref T0, vI n, vI s]) [] (CH h c) (Rt (CH h c) (.ref a)) := by
  have t1 := hT n hn2
  obtain ⟨oT, vT, oN, v1, v2, hN⟩ := hP
  obtain ⟨i1, i2, oA, i4, f0, f1, f2, f3, f4, f5⟩ := hn
  refine w_aload_n rfl rfl ?_
  refine w_iload_n rfl rfl ?_
  refine w_cvV rfl (by decide) (by first | omega | (simp only [Int.toNat_natCast, upF_2] at *; omega)) rfl (CH_ob oT rfl) mt_17 (Nat.le_of_ble_eq_true rfl) (Nat.le_of_ble_eq_true rfl) (k_nodeR _ (by omega) oT vT oN hn2 i2) ?_
  refine w_astore_n rfl (by decide) ?_
  refine w_aload_n rfl rfl ?_
  refine w_ifnull_r rfl ?_
  refine w_aload_n rfl rfl ?_
  refine k_get rfl oA rfl rfl ?_
  rw [f5]
  refine w_iload_n rfl rfl ?_
  refine w_icle_f rfl (by omega) (by omega) (by omega) (by omega) (by first | omega | (simp only [Int.toNat_natCast, upF_2] at *; omega)) ?_
  refine w_aload_n rfl rfl ?_
  refine w_goto rfl ?_
  refine w_areturn rfl rfl ?_
  exact ⟨rfl, rfl⟩
theorem k_chgX (d : Nat) (hd : 2 ≤ d) (hP : TP T0 N0 c ρ na) (hT : TreeOk ρ) {n a : Nat} {s : Int} (s1 : -1 ≤ s) (s2 : s ≤ 1000000) (hn2 : n < 256) (hn : NdIs c ρ na n a) (hs : ¬ s < ρ.2 5 0 n) : Wp b L xs d mi_48 0 (ent (mL mi_48) [.ref T0, vI n, vI s]) [] (CH h c) (Rt (CH h c) (.null)) := by
  have t1 := hT n hn2
  obtain ⟨oT, vT, oN, v1, v2, hN⟩ := hP
  obtain ⟨i1, i2, oA, i4, f0, f1, f2, f3, f4, f5⟩ := hn
  refine w_aload_n rfl rfl ?_
  refine w_iload_n rfl rfl ?_
  refine w_cvV rfl (by decide) (by first | omega | (simp only [Int.toNat_natCast, upF_2] at *; omega)) rfl (CH_ob oT rfl) mt_17 (Nat.le_of_ble_eq_true rfl) (Nat.le_of_ble_eq_true rfl) (k_nodeR _ (by omega) oT vT oN hn2 i2) ?_
  refine w_astore_n rfl (by decide) ?_
  refine w_aload_n rfl rfl ?_
  refine w_ifnull_r rfl ?_
  refine w_aload_n rfl rfl ?_
  refine k_get rfl oA rfl rfl ?_
  rw [f5]
  refine w_iload_n rfl rfl ?_
  refine w_icle_t rfl (by omega) (by omega) (by omega) (by omega) (by first | omega | (simp only [Int.toNat_natCast, upF_2] at *; omega)) ?_
  refine w_aconst_null rfl ?_
  refine w_areturnN rfl rfl ?_
  exact ⟨rfl, rfl⟩
theorem k_chgN (d : Nat) (hd : 2 ≤ d) (hP : TP T0 N0 c ρ na) {n : Nat} {s : Int} (hn2 : n < 256) (hn : NdNo c ρ na n) : Wp b L xs d mi_48 0 (ent (mL mi_48) [.ref T0, vI n, vI s]) [] (CH h c) (Rt (CH h c) (.null)) := by
  obtain ⟨oT, vT, oN, v1, v2, hN⟩ := hP
  refine w_aload_n rfl rfl ?_
  refine w_iload_n rfl rfl ?_
  refine w_cvV rfl (by decide) (by omega) rfl (CH_ob oT rfl) mt_17 (Nat.le_of_ble_eq_true rfl) (Nat.le_of_ble_eq_true rfl) (k_nodeN _ (by omega) oT vT oN hn2 hn.2.1) ?_
  refine w_astore_nQ (x := none) rfl (by decide) ?_
  refine w_aload_nQ (x := none) rfl rfl ?_
  refine w_ifnull_n rfl ?_
  refine w_aconst_null rfl ?_
  refine w_areturnN rfl rfl ?_
  exact ⟨rfl, rfl⟩
end Ct3
/-- changed after s -/
abbrev chS (ρ : RS) (s : Int) (n : Nat) : Prop := ρ.2 1 0 n ≠ 0 ∧ s < ρ.2 5 0 n
section Ct4
variable {b L : Nat} {xs : Nat → Int32} {h : AH} {c : CS} {ρ : RS} {na : Nat → Option Nat} {T0 N0 : Nat}
theorem k_chgD (hP : TP T0 N0 c ρ na) (hT : TreeOk ρ) (d : Nat) (hd : 2 ≤ d) {n : Nat} {s : Int} (s1 : -1 ≤ s) (s2 : s ≤ 1000000) (hn2 : n < 256) : (chS ρ s n ∧ ∃ a, NdIs c ρ na n a ∧ Wp b L xs d mi_48 0 (ent (mL mi_48) [.ref T0, vI n, vI s]) [] (CH h c) (Rt (CH h c) (.ref a))) ∨ (¬ chS ρ s n ∧ Wp b L xs d mi_48 0 (ent (mL mi_48) [.ref T0, vI n, vI s]) [] (CH h c) (Rt (CH h c) .null)) := by
  rcases hP.2.2.2.2.2 n hn2 with hn | ⟨a, hn⟩
  · exact Or.inr ⟨fun z => z.1 hn.2.2, k_chgN d hd hP hn2 hn⟩
  · by_cases q : s < ρ.2 5 0 n
    · exact Or.inl ⟨⟨hn.2.2.2.1, q⟩, a, hn, k_chgR d hd hP hT s1 s2 hn2 hn q⟩
    · exact Or.inr ⟨fun z => q z.2, k_chgX d hd hP hT s1 s2 hn2 hn q⟩
theorem k_cal (hP : TP T0 N0 c ρ na) (hT : TreeOk ρ) (d : Nat) (hd : 3 ≤ d) {s : Int} (s1 : -1 ≤ s) (s2 : s ≤ 1000000) {e : Nat} : ∀ m k a : Nat, k + m = 256 → a + cnt (chS ρ s) k m = e → Wp b L xs d mi_47 4 [some (.ref T0), some (vI s), some (vI a), some (vI k)] [] (CH h c) (Rt (CH h c) (vI e)) := by
  have oT := hP.1
  intro m
  induction m with
  | zero =>
    intro k a hk ha
    have ha : a + 0 = e := ha
    rw [Nat.add_zero] at ha
    subst ha
    refine w_iload_n rfl rfl ?_
    refine w_sipush rfl rfl ?_
    refine w_icge_t rfl (by omega) (by omega) (by omega) (by omega) (by first | omega | (simp only [Int.toNat_natCast, upF_2] at *; omega)) ?_
    refine w_iload_n rfl rfl ?_
    refine w_ireturn rfl rfl ?_
    exact ⟨rfl, rfl⟩
  | succ m ih =>
    intro k a hk ha
    have ha : a + ((if chS ρ s k then 1 else 0) + cnt (chS ρ s) (k + 1) m) = e := ha
    rcases k_chgD (L := L) (xs := xs) (h := h) hP hT (d - 1) (by omega) s1 s2 (n := k) (by omega) with ⟨hc, x, hx, w⟩ | ⟨hc, w⟩
    · rw [if_pos hc] at ha
      refine w_iload_n rfl rfl ?_
      refine w_sipush rfl rfl ?_
      refine w_icge_f rfl (by omega) (by omega) (by omega) (by omega) (by first | omega | (simp only [Int.toNat_natCast, upF_2] at *; omega)) ?_
      refine w_aload_n rfl rfl ?_
      refine w_iload_n rfl rfl ?_
      refine w_iload_n rfl rfl ?_
      refine w_cvV rfl (by decide) (by first | omega | (simp only [Int.toNat_natCast, upF_2] at *; omega)) rfl (CH_ob oT rfl) mt_48 (Nat.le_of_ble_eq_true rfl) (Nat.le_of_ble_eq_true rfl) w ?_
      refine w_ifnull_r rfl ?_
      refine w_iinc rfl rfl (by decide) ?_
      refine w_iinc rfl rfl (by decide) ?_
      refine w_goto rfl ?_
      exact ih (k + 1) (a + 1) (by omega) (by omega)
    · rw [if_neg hc] at ha
      refine w_iload_n rfl rfl ?_
      refine w_sipush rfl rfl ?_
      refine w_icge_f rfl (by omega) (by omega) (by omega) (by omega) (by first | omega | (simp only [Int.toNat_natCast, upF_2] at *; omega)) ?_
      refine w_aload_n rfl rfl ?_
      refine w_iload_n rfl rfl ?_
      refine w_iload_n rfl rfl ?_
      refine w_cvV rfl (by decide) (by first | omega | (simp only [Int.toNat_natCast, upF_2] at *; omega)) rfl (CH_ob oT rfl) mt_48 (Nat.le_of_ble_eq_true rfl) (Nat.le_of_ble_eq_true rfl) w ?_
      refine w_ifnull_n rfl ?_
      refine w_iinc rfl rfl (by decide) ?_
      refine w_goto rfl ?_
      exact ih (k + 1) a (by omega) (by omega)
theorem k_chAf (d : Nat) (hd : 3 ≤ d) (hP : TP T0 N0 c ρ na) (hT : TreeOk ρ) {s : Int} (s1 : -1 ≤ s) (s2 : s ≤ 1000000) : Wp b L xs d mi_47 0 (ent (mL mi_47) [.ref T0, vI s]) [] (CH h c) (Rt (CH h c) (vI (cnt (chS ρ s) 0 256))) := by
  refine w_iconst rfl ?_
  refine w_istore_n rfl (by decide) ?_
  refine w_iconst rfl ?_
  refine w_istore_n rfl (by decide) ?_
  exact k_cal hP hT d hd s1 s2 256 0 0 rfl (Nat.zero_add _)
theorem k_bal (hP : TP T0 N0 c ρ na) (hT : TreeOk ρ) (d : Nat) (hd : 3 ≤ d) {s : Int} (s1 : -1 ≤ s) (s2 : s ≤ 1000000) {e : Int} : ∀ (m k : Nat) (a : Int) (u : Option Value), k + m = 256 → a + sm (chS ρ s) (nb ρ) k m = e → Wp b L xs d mi_51 4 [some (.ref T0), some (vI s), some (vI a), some (vI k), u] [] (CH h c) (Rt (CH h c) (vI e)) := by
  have oT := hP.1
  intro m
  induction m with
  | zero =>
    intro k a u hk ha
    have ha : a + 0 = e := ha
    rw [Int.add_zero] at ha
    subst ha
    refine w_iload_n rfl rfl ?_
    refine w_sipush rfl rfl ?_
    refine w_icge_t rfl (by omega) (by omega) (by omega) (by omega) (by first | omega | (simp only [Int.toNat_natCast, upF_2] at *; omega)) ?_
    refine w_iload_n rfl rfl ?_
    refine w_ireturn rfl rfl ?_
    exact ⟨rfl, rfl⟩
  | succ m ih =>
    intro k a u hk ha
    have ha : a + ((if chS ρ s k then nb ρ k else 0) + sm (chS ρ s) (nb ρ) (k + 1) m) = e := ha
    rcases k_chgD (L := L) (xs := xs) (h := h) hP hT (d - 1) (by omega) s1 s2 (n := k) (by omega) with ⟨hc, x, hx, w⟩ | ⟨hc, w⟩
    · rw [if_pos hc] at ha
      have oX := hx.2.2.1
      refine w_iload_n rfl rfl ?_
      refine w_sipush rfl rfl ?_
      refine w_icge_f rfl (by omega) (by omega) (by omega) (by omega) (by first | omega | (simp only [Int.toNat_natCast, upF_2] at *; omega)) ?_
      refine w_aload_n rfl rfl ?_
      refine w_iload_n rfl rfl ?_
      refine w_iload_n rfl rfl ?_
      refine w_cvV rfl (by decide) (by first | omega | (simp only [Int.toNat_natCast, upF_2] at *; omega)) rfl (CH_ob oT rfl) mt_48 (Nat.le_of_ble_eq_true rfl) (Nat.le_of_ble_eq_true rfl) w ?_
      refine w_astore rfl (by decide) ?_
      refine w_aload rfl rfl ?_
      refine w_ifnull_r rfl ?_
      refine w_iload_n rfl rfl ?_
      refine w_aload rfl rfl ?_
      refine w_cvV rfl (by decide) (by first | omega | (simp only [Int.toNat_natCast, upF_2] at *; omega)) rfl (CH_ob oX rfl) mt_52 (Nat.le_of_ble_eq_true rfl) (Nat.le_of_ble_eq_true rfl) (k_blocks _ (by omega) hT (by omega) hx) ?_
      refine w_iadd rfl ?_
      refine w_istore_n rfl (by decide) ?_
      refine w_iinc rfl rfl (by decide) ?_
      refine w_goto rfl ?_
      exact ih (k + 1) (a + nb ρ k) _ (by omega) (by omega)
    · rw [if_neg hc] at ha
      refine w_iload_n rfl rfl ?_
      refine w_sipush rfl rfl ?_
      refine w_icge_f rfl (by omega) (by omega) (by omega) (by omega) (by first | omega | (simp only [Int.toNat_natCast, upF_2] at *; omega)) ?_
      refine w_aload_n rfl rfl ?_
      refine w_iload_n rfl rfl ?_
      refine w_iload_n rfl rfl ?_
      refine w_cvV rfl (by decide) (by first | omega | (simp only [Int.toNat_natCast, upF_2] at *; omega)) rfl (CH_ob oT rfl) mt_48 (Nat.le_of_ble_eq_true rfl) (Nat.le_of_ble_eq_true rfl) w ?_
      refine w_astoreQ (x := none) rfl (by decide) ?_
      refine w_aloadQ (x := none) rfl rfl ?_
      refine w_ifnull_n rfl ?_
      refine w_iinc rfl rfl (by decide) ?_
      refine w_goto rfl ?_
      exact ih (k + 1) a _ (by omega) (by omega)
theorem k_blAf (d : Nat) (hd : 3 ≤ d) (hP : TP T0 N0 c ρ na) (hT : TreeOk ρ) {s : Int} (s1 : -1 ≤ s) (s2 : s ≤ 1000000) : Wp b L xs d mi_51 0 (ent (mL mi_51) [.ref T0, vI s]) [] (CH h c) (Rt (CH h c) (vI (sm (chS ρ s) (nb ρ) 0 256))) := by
  refine w_iconst rfl ?_
  refine w_istore_n rfl (by decide) ?_
  refine w_iconst rfl ?_
  refine w_istore_n rfl (by decide) ?_
  exact k_bal hP hT d hd s1 s2 256 0 0 none rfl (Int.zero_add _)
end Ct4
