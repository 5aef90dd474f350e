/-! the class's tree: readers -/
section Ct1
variable {b L : Nat} {xs : Nat → Int32} {h : AH} {c : CS}
theorem k_isN1 (d : Nat) {H : AH} {n : Int} (n1 : 0 ≤ n) (n2 : n < 256) : Wp b L xs d mi_18 0 (ent (mL mi_18) [vI n]) [] H (Rt H (vI 1)) := by
  refine w_iload_n rfl rfl ?_
  refine w_iflt_f rfl (by omega) (by omega) (by first | omega | (simp only [Int.toNat_natCast, upF_2] at *; omega)) ?_
  refine w_iload_n rfl rfl ?_
  refine w_sipush rfl rfl ?_
  refine w_icge_f rfl (by omega) (by omega) (by omega) (by omega) (by first | omega | (simp only [Int.toNat_natCast, upF_2] at *; omega)) ?_
  refine w_iconst rfl ?_
  refine w_goto rfl ?_
  refine w_zreturn rfl rfl (by first | omega | (simp only [Int.toNat_natCast, upF_2] at *; omega)) ?_
  exact ⟨rfl, rfl⟩
theorem k_isN0 (d : Nat) {H : AH} {n : Int} (n1 : -2147483648 ≤ n) (n2 : n ≤ 2147483647) (hn : ¬ (0 ≤ n ∧ n < 256)) : Wp b L xs d mi_18 0 (ent (mL mi_18) [vI n]) [] H (Rt H (vI 0)) := by
  by_cases q : n < 0
  · refine w_iload_n rfl rfl ?_
    refine w_iflt_t rfl (by omega) (by omega) (by first | omega | (simp only [Int.toNat_natCast, upF_2] at *; omega)) ?_
    refine w_iconst rfl ?_
    refine w_zreturn rfl rfl (by first | omega | (simp only [Int.toNat_natCast, upF_2] at *; omega)) ?_
    exact ⟨rfl, rfl⟩
  refine w_iload_n rfl rfl ?_
  refine w_iflt_f rfl (by omega) (by omega) (by first | omega | (simp only [Int.toNat_natCast, upF_2] at *; omega)) ?_
  refine w_iload_n rfl rfl ?_
  refine w_sipush rfl rfl ?_
  refine w_icge_t rfl (by omega) (by omega) (by omega) (by omega) (by first | omega | (simp only [Int.toNat_natCast, upF_2] at *; omega)) ?_
  refine w_iconst rfl ?_
  refine w_zreturn rfl rfl (by first | omega | (simp only [Int.toNat_natCast, upF_2] at *; omega)) ?_
  exact ⟨rfl, rfl⟩
theorem k_isM1 (d : Nat) {H : AH} {n : Int} (n1 : 1 ≤ n) (n2 : n ≤ 30000) : Wp b L xs d mi_19 0 (ent (mL mi_19) [vI n]) [] H (Rt H (vI 1)) := by
  refine w_iload_n rfl rfl ?_
  refine w_iconst rfl ?_
  refine w_iclt_f rfl (by omega) (by omega) (by omega) (by omega) (by first | omega | (simp only [Int.toNat_natCast, upF_2] at *; omega)) ?_
  refine w_iload_n rfl rfl ?_
  refine w_sipush rfl rfl ?_
  refine w_icgt_f rfl (by omega) (by omega) (by omega) (by omega) (by first | omega | (simp only [Int.toNat_natCast, upF_2] at *; omega)) ?_
  refine w_iconst rfl ?_
  refine w_goto rfl ?_
  refine w_zreturn rfl rfl (by first | omega | (simp only [Int.toNat_natCast, upF_2] at *; omega)) ?_
  exact ⟨rfl, rfl⟩
theorem k_isM0 (d : Nat) {H : AH} {n : Int} (n1 : -2147483648 ≤ n) (n2 : n ≤ 2147483647) (hn : ¬ (1 ≤ n ∧ n ≤ 30000)) : Wp b L xs d mi_19 0 (ent (mL mi_19) [vI n]) [] H (Rt H (vI 0)) := by
  by_cases q : n < 1
  · refine w_iload_n rfl rfl ?_
    refine w_iconst rfl ?_
    refine w_iclt_t rfl (by omega) (by omega) (by omega) (by omega) (by first | omega | (simp only [Int.toNat_natCast, upF_2] at *; omega)) ?_
    refine w_iconst rfl ?_
    refine w_zreturn rfl rfl (by first | omega | (simp only [Int.toNat_natCast, upF_2] at *; omega)) ?_
    exact ⟨rfl, rfl⟩
  refine w_iload_n rfl rfl ?_
  refine w_iconst rfl ?_
  refine w_iclt_f rfl (by omega) (by omega) (by omega) (by omega) (by first | omega | (simp only [Int.toNat_natCast, upF_2] at *; omega)) ?_
  refine w_iload_n rfl rfl ?_
  refine w_sipush rfl rfl ?_
  refine w_icgt_t rfl (by omega) (by omega) (by omega) (by omega) (by first | omega | (simp only [Int.toNat_natCast, upF_2] at *; omega)) ?_
  refine w_iconst rfl ?_
  refine w_zreturn rfl rfl (by first | omega | (simp only [Int.toNat_natCast, upF_2] at *; omega)) ?_
  exact ⟨rfl, rfl⟩
theorem k_quo (d : Nat) {H : AH} {n e : Int} (n1 : 0 ≤ n) (n2 : n ≤ 1000000000) (e1 : 0 < e) (e2 : e ≤ 1000000000) : Wp b L xs d mi_50 0 (ent (mL mi_50) [vI n, vI e]) [] H (Rt H (vI (pts n e))) := by
  refine w_iload_n rfl rfl ?_
  refine w_ifgt_t rfl (by omega) (by omega) (by first | omega | (simp only [Int.toNat_natCast, upF_2] at *; omega)) ?_
  refine w_iload_n rfl rfl ?_
  refine w_iload_n rfl rfl ?_
  refine w_iadd rfl ?_
  refine w_iconst rfl ?_
  refine w_isub rfl ?_
  refine w_iload_n rfl rfl ?_
  refine w_idiv rfl (by first | omega | (simp only [Int.toNat_natCast, upF_2] at *; omega)) (by first | omega | (simp only [Int.toNat_natCast, upF_2] at *; omega)) (by first | omega | (simp only [Int.toNat_natCast, upF_2] at *; omega)) (by first | omega | (simp only [Int.toNat_natCast, upF_2] at *; omega)) ?_
  refine w_ireturn rfl rfl ?_
  exact ⟨rfl, rfl⟩
theorem k_nodeR (d : Nat) (hd : 1 ≤ d) {T0 N0 : Nat} (oT : c.1 T0 = some (1, 0)) (vT : c.2.1 1 0 0 = .ref N0) (oN : c.1 N0 = some (2, 0)) {n a : Nat} (hn : n < 256) (vn : c.2.1 2 0 n = .ref a) : Wp b L xs d mi_17 0 (ent (mL mi_17) [.ref T0, vI n]) [] (CH h c) (Rt (CH h c) (.ref a)) := by
  refine w_iload_n rfl rfl ?_
  refine w_csV rfl (by decide) (by first | omega | (simp only [Int.toNat_natCast, upF_2] at *; omega)) rfl mt_18 (Nat.le_of_ble_eq_true rfl) (Nat.le_of_ble_eq_true rfl) (k_isN1 _ (by omega) (by omega)) ?_
  refine w_ifeq_f rfl (by omega) (by omega) (by first | omega | (simp only [Int.toNat_natCast, upF_2] at *; omega)) ?_
  refine w_aload_n rfl rfl ?_
  refine k_get rfl oT rfl rfl ?_
  rw [vT]
  refine w_iload_n rfl rfl ?_
  refine k_aaload rfl oN rfl (by first | omega | (simp only [Int.toNat_natCast, upF_2] at *; omega)) (by first | omega | (simp only [Int.toNat_natCast, upF_2] at *; omega)) (by decide) vn ?_
  refine w_goto rfl ?_
  refine w_areturn rfl rfl ?_
  exact ⟨rfl, rfl⟩
theorem k_nodeN (d : Nat) (hd : 1 ≤ d) {T0 N0 : Nat} (oT : c.1 T0 = some (1, 0)) (vT : c.2.1 1 0 0 = .ref N0) (oN : c.1 N0 = some (2, 0)) {n : Nat} (hn : n < 256) (vn : c.2.1 2 0 n = .null) : Wp b L xs d mi_17 0 (ent (mL mi_17) [.ref T0, vI n]) [] (CH h c) (Rt (CH h c) (.null)) := by
  refine w_iload_n rfl rfl ?_
  refine w_csV rfl (by decide) (by first | omega | (simp only [Int.toNat_natCast, upF_2] at *; omega)) rfl mt_18 (Nat.le_of_ble_eq_true rfl) (Nat.le_of_ble_eq_true rfl) (k_isN1 _ (by omega) (by omega)) ?_
  refine w_ifeq_f rfl (by omega) (by omega) (by first | omega | (simp only [Int.toNat_natCast, upF_2] at *; omega)) ?_
  refine w_aload_n rfl rfl ?_
  refine k_get rfl oT rfl rfl ?_
  rw [vT]
  refine w_iload_n rfl rfl ?_
  refine k_aaload rfl oN rfl (by first | omega | (simp only [Int.toNat_natCast, upF_2] at *; omega)) (by first | omega | (simp only [Int.toNat_natCast, upF_2] at *; omega)) (by decide) vn ?_
  refine w_goto rfl ?_
  refine w_areturnN rfl rfl ?_
  exact ⟨rfl, rfl⟩
theorem k_node0 (d : Nat) (hd : 1 ≤ d) {T0 : Nat} {n : Int} (n1 : -2147483648 ≤ n) (n2 : n ≤ 2147483647) (hn : ¬ (0 ≤ n ∧ n < 256)) : Wp b L xs d mi_17 0 (ent (mL mi_17) [.ref T0, vI n]) [] (CH h c) (Rt (CH h c) (.null)) := by
  refine w_iload_n rfl rfl ?_
  refine w_csV rfl (by decide) (by first | omega | (simp only [Int.toNat_natCast, upF_2] at *; omega)) rfl mt_18 (Nat.le_of_ble_eq_true rfl) (Nat.le_of_ble_eq_true rfl) (k_isN0 _ n1 n2 hn) ?_
  refine w_ifeq_t rfl (by omega) (by omega) (by first | omega | (simp only [Int.toNat_natCast, upF_2] at *; omega)) ?_
  refine w_aconst_null rfl ?_
  refine w_areturnN rfl rfl ?_
  exact ⟨rfl, rfl⟩
theorem k_dirR (d : Nat) (hd : 2 ≤ d) {T0 N0 : Nat} (oT : c.1 T0 = some (1, 0)) (vT : c.2.1 1 0 0 = .ref N0) (oN : c.1 N0 = some (2, 0)) {n a : Nat} (hn : n < 256) (vn : c.2.1 2 0 n = .ref a) (oA : c.1 a = some (12, n)) {kd : Int} (vk : c.2.1 12 n 1 = vI kd) (hk : kd = 2) : Wp b L xs d mi_16 0 (ent (mL mi_16) [.ref T0, vI n]) [] (CH h c) (Rt (CH h c) (.ref a)) := by
  refine w_aload_n rfl rfl ?_
  refine w_iload_n rfl rfl ?_
  refine w_cvV rfl (by decide) (by first | omega | (simp only [Int.toNat_natCast, upF_2] at *; omega)) rfl (CH_ob oT rfl) mt_17 (Nat.le_of_ble_eq_true rfl) (Nat.le_of_ble_eq_true rfl) (k_nodeR _ (by omega) oT vT oN hn vn) ?_
  refine w_astore_n rfl (by decide) ?_
  refine w_aload_n rfl rfl ?_
  refine w_ifnull_r rfl ?_
  refine w_aload_n rfl rfl ?_
  refine k_get rfl oA rfl rfl ?_
  rw [vk]
  refine w_iconst rfl ?_
  refine w_icne_f rfl (by omega) (by omega) (by omega) (by omega) (by first | omega | (simp only [Int.toNat_natCast, upF_2] at *; omega)) ?_
  refine w_aload_n rfl rfl ?_
  refine w_goto rfl ?_
  refine w_areturn rfl rfl ?_
  exact ⟨rfl, rfl⟩
theorem k_dirX (d : Nat) (hd : 2 ≤ d) {T0 N0 : Nat} (oT : c.1 T0 = some (1, 0)) (vT : c.2.1 1 0 0 = .ref N0) (oN : c.1 N0 = some (2, 0)) {n a : Nat} (hn : n < 256) (vn : c.2.1 2 0 n = .ref a) (oA : c.1 a = some (12, n)) {kd : Int} (vk : c.2.1 12 n 1 = vI kd) (hk : kd ≠ 2) (k1 : 0 ≤ kd) (k2 : kd ≤ 100) : Wp b L xs d mi_16 0 (ent (mL mi_16) [.ref T0, vI n]) [] (CH h c) (Rt (CH h c) (.null)) := by
  refine w_aload_n rfl rfl ?_
  refine w_iload_n rfl rfl ?_
  refine w_cvV rfl (by decide) (by first | omega | (simp only [Int.toNat_natCast, upF_2] at *; omega)) rfl (CH_ob oT rfl) mt_17 (Nat.le_of_ble_eq_true rfl) (Nat.le_of_ble_eq_true rfl) (k_nodeR _ (by omega) oT vT oN hn vn) ?_
  refine w_astore_n rfl (by decide) ?_
  refine w_aload_n rfl rfl ?_
  refine w_ifnull_r rfl ?_
  refine w_aload_n rfl rfl ?_
  refine k_get rfl oA rfl rfl ?_
  rw [vk]
  refine w_iconst rfl ?_
  refine w_icne_t rfl (by omega) (by omega) (by omega) (by omega) (by first | omega | (simp only [Int.toNat_natCast, upF_2] at *; omega)) ?_
  refine w_aconst_null rfl ?_
  refine w_areturnN rfl rfl ?_
  exact ⟨rfl, rfl⟩
theorem k_dirN (d : Nat) (hd : 2 ≤ d) {T0 N0 : Nat} (oT : c.1 T0 = some (1, 0)) (vT : c.2.1 1 0 0 = .ref N0) (oN : c.1 N0 = some (2, 0)) {n : Nat} (hn : n < 256) (vn : c.2.1 2 0 n = .null) : Wp b L xs d mi_16 0 (ent (mL mi_16) [.ref T0, vI n]) [] (CH h c) (Rt (CH h c) (.null)) := by
  refine w_aload_n rfl rfl ?_
  refine w_iload_n rfl rfl ?_
  refine w_cvV rfl (by decide) (by omega) rfl (CH_ob oT rfl) mt_17 (Nat.le_of_ble_eq_true rfl) (Nat.le_of_ble_eq_true rfl) (k_nodeN _ (by omega) oT vT oN hn vn) ?_
  refine w_astore_nQ (x := none) rfl (by decide) ?_
  refine w_aload_nQ (x := none) rfl rfl ?_
  refine w_ifnull_n rfl ?_
  refine w_aconst_null rfl ?_
  refine w_areturnN rfl rfl ?_
  exact ⟨rfl, rfl⟩
theorem k_dir0 (d : Nat) (hd : 2 ≤ d) {T0 : Nat} (oT : c.1 T0 = some (1, 0)) {n : Int} (n1 : -2147483648 ≤ n) (n2 : n ≤ 2147483647) (hn : ¬ (0 ≤ n ∧ n < 256)) : Wp b L xs d mi_16 0 (ent (mL mi_16) [.ref T0, vI n]) [] (CH h c) (Rt (CH h c) (.null)) := by
  refine w_aload_n rfl rfl ?_
  refine w_iload_n rfl rfl ?_
  refine w_cvV rfl (by decide) (by omega) rfl (CH_ob oT rfl) mt_17 (Nat.le_of_ble_eq_true rfl) (Nat.le_of_ble_eq_true rfl) (k_node0 _ (by omega) n1 n2 hn) ?_
  refine w_astore_nQ (x := none) rfl (by decide) ?_
  refine w_aload_nQ (x := none) rfl rfl ?_
  refine w_ifnull_n rfl ?_
  refine w_aconst_null rfl ?_
  refine w_areturnN rfl rfl ?_
  exact ⟨rfl, rfl⟩
theorem k_fileR (d : Nat) (hd : 2 ≤ d) {T0 N0 : Nat} (oT : c.1 T0 = some (1, 0)) (vT : c.2.1 1 0 0 = .ref N0) (oN : c.1 N0 = some (2, 0)) {n a : Nat} (hn : n < 256) (vn : c.2.1 2 0 n = .ref a) (oA : c.1 a = some (12, n)) {kd : Int} (vk : c.2.1 12 n 1 = vI kd) (hk : kd = 1) : Wp b L xs d mi_26 0 (ent (mL mi_26) [.ref T0, vI n]) [] (CH h c) (Rt (CH h c) (.ref a)) := by
  refine w_aload_n rfl rfl ?_
  refine w_iload_n rfl rfl ?_
  refine w_cvV rfl (by decide) (by first | omega | (simp only [Int.toNat_natCast, upF_2] at *; omega)) rfl (CH_ob oT rfl) mt_17 (Nat.le_of_ble_eq_true rfl) (Nat.le_of_ble_eq_true rfl) (k_nodeR _ (by omega) oT vT oN hn vn) ?_
  refine w_astore_n rfl (by decide) ?_
  refine w_aload_n rfl rfl ?_
  refine w_ifnull_r rfl ?_
  refine w_aload_n rfl rfl ?_
  refine k_get rfl oA rfl rfl ?_
  rw [vk]
  refine w_iconst rfl ?_
  refine w_icne_f rfl (by omega) (by omega) (by omega) (by omega) (by first | omega | (simp only [Int.toNat_natCast, upF_2] at *; omega)) ?_
  refine w_aload_n rfl rfl ?_
  refine w_goto rfl ?_
  refine w_areturn rfl rfl ?_
  exact ⟨rfl, rfl⟩
theorem k_fileX (d : Nat) (hd : 2 ≤ d) {T0 N0 : Nat} (oT : c.1 T0 = some (1, 0)) (vT : c.2.1 1 0 0 = .ref N0) (oN : c.1 N0 = some (2, 0)) {n a : Nat} (hn : n < 256) (vn : c.2.1 2 0 n = .ref a) (oA : c.1 a = some (12, n)) {kd : Int} (vk : c.2.1 12 n 1 = vI kd) (hk : kd ≠ 1) (k1 : 0 ≤ kd) (k2 : kd ≤ 100) : Wp b L xs d mi_26 0 (ent (mL mi_26) [.ref T0, vI n]) [] (CH h c) (Rt (CH h c) (.null)) := by
  refine w_aload_n rfl rfl ?_
  refine w_iload_n rfl rfl ?_
  refine w_cvV rfl (by decide) (by first | omega | (simp only [Int.toNat_natCast, upF_2] at *; omega)) rfl (CH_ob oT rfl) mt_17 (Nat.le_of_ble_eq_true rfl) (Nat.le_of_ble_eq_true rfl) (k_nodeR _ (by omega) oT vT oN hn vn) ?_
  refine w_astore_n rfl (by decide) ?_
  refine w_aload_n rfl rfl ?_
  refine w_ifnull_r rfl ?_
  refine w_aload_n rfl rfl ?_
  refine k_get rfl oA rfl rfl ?_
  rw [vk]
  refine w_iconst rfl ?_
  refine w_icne_t rfl (by omega) (by omega) (by omega) (by omega) (by first | omega | (simp only [Int.toNat_natCast, upF_2] at *; omega)) ?_
  refine w_aconst_null rfl ?_
  refine w_areturnN rfl rfl ?_
  exact ⟨rfl, rfl⟩
theorem k_fileN (d : Nat) (hd : 2 ≤ d) {T0 N0 : Nat} (oT : c.1 T0 = some (1, 0)) (vT : c.2.1 1 0 0 = .ref N0) (oN : c.1 N0 = some (2, 0)) {n : Nat} (hn : n < 256) (vn : c.2.1 2 0 n = .null) : Wp b L xs d mi_26 0 (ent (mL mi_26) [.ref T0, vI n]) [] (CH h c) (Rt (CH h c) (.null)) := by
  refine w_aload_n rfl rfl ?_
  refine w_iload_n rfl rfl ?_
  refine w_cvV rfl (by decide) (by omega) rfl (CH_ob oT rfl) mt_17 (Nat.le_of_ble_eq_true rfl) (Nat.le_of_ble_eq_true rfl) (k_nodeN _ (by omega) oT vT oN hn vn) ?_
  refine w_astore_nQ (x := none) rfl (by decide) ?_
  refine w_aload_nQ (x := none) rfl rfl ?_
  refine w_ifnull_n rfl ?_
  refine w_aconst_null rfl ?_
  refine w_areturnN rfl rfl ?_
  exact ⟨rfl, rfl⟩
theorem k_file0 (d : Nat) (hd : 2 ≤ d) {T0 : Nat} (oT : c.1 T0 = some (1, 0)) {n : Int} (n1 : -2147483648 ≤ n) (n2 : n ≤ 2147483647) (hn : ¬ (0 ≤ n ∧ n < 256)) : Wp b L xs d mi_26 0 (ent (mL mi_26) [.ref T0, vI n]) [] (CH h c) (Rt (CH h c) (.null)) := by
  refine w_aload_n rfl rfl ?_
  refine w_iload_n rfl rfl ?_
  refine w_cvV rfl (by decide) (by omega) rfl (CH_ob oT rfl) mt_17 (Nat.le_of_ble_eq_true rfl) (Nat.le_of_ble_eq_true rfl) (k_node0 _ (by omega) n1 n2 hn) ?_
  refine w_astore_nQ (x := none) rfl (by decide) ?_
  refine w_aload_nQ (x := none) rfl rfl ?_
  refine w_ifnull_n rfl ?_
  refine w_aconst_null rfl ?_
  refine w_areturnN rfl rfl ?_
  exact ⟨rfl, rfl⟩
end Ct1
/-- the chain of a directory's entries: cs their numbers, ad their addresses -/
def ptr (ad : Nat → Nat) (i q : Nat) : Option Nat := if i < q then some (ad i) else none
def Chn (c : CS) (p : Nat) (cs ad : Nat → Nat) (nm : Nat → Int) (q : Nat) : Prop := c.2.1 12 p 7 = va_rf (ptr ad 0 q) ∧ ∀ i, i < q → c.1 (ad i) = some (12, cs i) ∧ c.2.1 12 (cs i) 3 = vI (nm i) ∧ c.2.1 12 (cs i) 8 = va_rf (ptr ad (i + 1) q) ∧ 0 ≤ nm i ∧ nm i ≤ 100000
section Ct2
variable {b L : Nat} {xs : Nat → Int32} {h : AH} {c : CS}
theorem k_chl (d : Nat) {p q a : Nat} {cs ad : Nat → Nat} {nm : Nat → Int} (hC : Chn c p cs ad nm q) {w : Int} (w1 : -2147483648 ≤ w) (w2 : w ≤ 2147483647) {x : Option Nat} {t : Nat} (ht : t ≤ q) (hx : x = ptr ad t q) (hw : t < q → nm t = w) (hj : ∀ j, j < t → nm j ≠ w) : ∀ m i : Nat, i + m = t → Wp b L xs d mi_20 5 [some (.ref a), some (vI w), some (va_rf (ptr ad i q))] [] (CH h c) (Rt (CH h c) (va_rf x)) := by
  intro m
  induction m with
  | zero =>
    intro i hi
    obtain rfl : i = t := hi
    subst hx
    by_cases q1 : i < q
    · obtain ⟨o1, o2, o3, o4, o5⟩ := hC.2 i q1
      have hw1 := hw q1
      rw [show ptr ad i q = some (ad i) from if_pos q1]
      refine w_aload_n rfl rfl ?_
      refine w_ifnull_r rfl ?_
      refine w_aload_n rfl rfl ?_
      refine k_get rfl o1 rfl rfl ?_
      rw [o2]
      refine w_iload_n rfl rfl ?_
      refine w_icne_f rfl (by omega) (by omega) (by omega) (by omega) (by first | omega | (simp only [Int.toNat_natCast, upF_2] at *; omega)) ?_
      refine w_aload_n rfl rfl ?_
      refine w_areturn rfl rfl ?_
      exact ⟨rfl, rfl⟩
    · rw [show ptr ad i q = none from if_neg q1]
      refine w_aload_nQ (x := none) rfl rfl ?_
      refine w_ifnull_n rfl ?_
      refine w_aconst_null rfl ?_
      refine w_areturnN rfl rfl ?_
      exact ⟨rfl, rfl⟩
  | succ m ih =>
    intro i hi
    obtain ⟨o1, o2, o3, o4, o5⟩ := hC.2 i (by omega)
    have hn := hj i (by omega)
    rw [show ptr ad i q = some (ad i) from if_pos (by omega)]
    refine w_aload_n rfl rfl ?_
    refine w_ifnull_r rfl ?_
    refine w_aload_n rfl rfl ?_
    refine k_get rfl o1 rfl rfl ?_
    rw [o2]
    refine w_iload_n rfl rfl ?_
    refine w_icne_t rfl (by omega) (by omega) (by omega) (by omega) (by first | omega | (simp only [Int.toNat_natCast, upF_2] at *; omega)) ?_
    refine w_aload_n rfl rfl ?_
    refine k_get rfl o1 rfl rfl ?_
    rw [o3]
    refine w_astore_nQ rfl (by decide) ?_
    refine w_goto rfl ?_
    exact ih (i + 1) (by omega)
theorem k_chF (d : Nat) {p q a : Nat} {cs ad : Nat → Nat} {nm : Nat → Int} (oA : c.1 a = some (12, p)) (hC : Chn c p cs ad nm q) {w : Int} (w1 : -2147483648 ≤ w) (w2 : w ≤ 2147483647) {t : Nat} (ht : t < q) (hw : nm t = w) (hj : ∀ j, j < t → nm j ≠ w) : Wp b L xs d mi_20 0 (ent (mL mi_20) [.ref a, vI w]) [] (CH h c) (Rt (CH h c) (.ref (ad t))) := by
  refine w_aload_n rfl rfl ?_
  refine k_get rfl oA rfl rfl ?_
  rw [hC.1]
  refine w_astore_nQ rfl (by decide) ?_
  exact k_chl d hC w1 w2 (t := t) (x := some (ad t)) (by omega) (if_pos ht).symm (fun _ => hw) hj t 0 (Nat.zero_add _)
theorem k_chN (d : Nat) {p q a : Nat} {cs ad : Nat → Nat} {nm : Nat → Int} (oA : c.1 a = some (12, p)) (hC : Chn c p cs ad nm q) {w : Int} (w1 : -2147483648 ≤ w) (w2 : w ≤ 2147483647) (hj : ∀ j, j < q → nm j ≠ w) : Wp b L xs d mi_20 0 (ent (mL mi_20) [.ref a, vI w]) [] (CH h c) (Rt (CH h c) (.null)) := by
  refine w_aload_n rfl rfl ?_
  refine k_get rfl oA rfl rfl ?_
  rw [hC.1]
  refine w_astore_nQ rfl (by decide) ?_
  exact k_chl d hC w1 w2 (t := q) (x := none) (Nat.le_refl _) (if_neg (Nat.lt_irrefl q)).symm (fun z => absurd z (Nat.lt_irrefl q)) hj q 0 (Nat.zero_add _)
theorem k_lfl (d : Nat) {T0 N0 : Nat} (oT : c.1 T0 = some (1, 0)) (vT : c.2.1 1 0 0 = .ref N0) (oN : c.1 N0 = some (2, 0)) (hb : N0 ≠ b) {n : Nat} (hn : n ≤ 256) (hj : ∀ j, j < n → ∃ a, c.2.1 2 0 j = .ref a) (hn2 : n < 256 → c.2.1 2 0 n = .null) : ∀ m i : Nat, i + m = n → Wp b L xs d mi_21 2 [some (.ref T0), some (vI i)] [] (CH h c) (Rt (CH h c) (vI (if n < 256 then n else -1))) := by
  intro m
  induction m with
  | zero =>
    intro i hi
    obtain rfl : i = n := hi
    by_cases q1 : i < 256
    · rw [if_pos q1]
      refine w_iload_n rfl rfl ?_
      refine w_aload_n rfl rfl ?_
      refine k_get rfl oT rfl rfl ?_
      rw [vT]
      refine k_alen rfl (by first | omega | (simp only [Int.toNat_natCast, upF_2] at *; omega)) oN rfl ?_
      refine w_icge_f rfl (by omega) (by omega) (by omega) (by omega) (by first | omega | (simp only [Int.toNat_natCast, upF_2] at *; omega)) ?_
      refine w_aload_n rfl rfl ?_
      refine k_get rfl oT rfl rfl ?_
      rw [vT]
      refine w_iload_n rfl rfl ?_
      refine k_aaload rfl oN rfl (by first | omega | (simp only [Int.toNat_natCast, upF_2] at *; omega)) (by first | omega | (simp only [Int.toNat_natCast, upF_2] at *; omega)) (by decide) (hn2 q1) ?_
      refine w_ifnonnull_n rfl ?_
      refine w_iload_n rfl rfl ?_
      refine w_ireturn rfl rfl ?_
      exact ⟨rfl, rfl⟩
    · rw [if_neg q1]
      refine w_iload_n rfl rfl ?_
      refine w_aload_n rfl rfl ?_
      refine k_get rfl oT rfl rfl ?_
      rw [vT]
      refine k_alen rfl (by first | omega | (simp only [Int.toNat_natCast, upF_2] at *; omega)) oN rfl ?_
      refine w_icge_t rfl (by omega) (by omega) (by omega) (by omega) (by first | omega | (simp only [Int.toNat_natCast, upF_2] at *; omega)) ?_
      refine w_iconst rfl ?_
      refine w_ireturn rfl rfl ?_
      exact ⟨rfl, rfl⟩
  | succ m ih =>
    intro i hi
    obtain ⟨a, ha⟩ := hj i (by omega)
    refine w_iload_n rfl rfl ?_
    refine w_aload_n rfl rfl ?_
    refine k_get rfl oT rfl rfl ?_
    rw [vT]
    refine k_alen rfl (by first | omega | (simp only [Int.toNat_natCast, upF_2] at *; omega)) oN rfl ?_
    refine w_icge_f rfl (by omega) (by omega) (by omega) (by omega) (by first | omega | (simp only [Int.toNat_natCast, upF_2] at *; omega)) ?_
    refine w_aload_n rfl rfl ?_
    refine k_get rfl oT rfl rfl ?_
    rw [vT]
    refine w_iload_n rfl rfl ?_
    refine k_aaload rfl oN rfl (by first | omega | (simp only [Int.toNat_natCast, upF_2] at *; omega)) (by first | omega | (simp only [Int.toNat_natCast, upF_2] at *; omega)) (by decide) ha ?_
    refine w_ifnonnull_r rfl ?_
    refine w_iinc rfl rfl (by decide) ?_
    refine w_goto rfl ?_
    exact ih (i + 1) (by omega)
theorem k_lf (d : Nat) {T0 N0 : Nat} (oT : c.1 T0 = some (1, 0)) (vT : c.2.1 1 0 0 = .ref N0) (oN : c.1 N0 = some (2, 0)) (hb : N0 ≠ b) {n : Nat} (hn : n ≤ 256) (hj : ∀ j, j < n → ∃ a, c.2.1 2 0 j = .ref a) (hn2 : n < 256 → c.2.1 2 0 n = .null) : Wp b L xs d mi_21 0 (ent (mL mi_21) [.ref T0]) [] (CH h c) (Rt (CH h c) (vI (if n < 256 then n else -1))) := by
  refine w_iconst rfl ?_
  refine w_istore_n rfl (by decide) ?_
  exact k_lfl d oT vT oN hb hn hj hn2 n 0 (Nat.zero_add _)
theorem k_root1 (d : Nat) {a n : Nat} (oA : c.1 a = some (12, n)) (v2 : c.2.1 12 n 2 = .null) : Wp b L xs d mi_34 0 (ent (mL mi_34) [.ref a]) [] (CH h c) (Rt (CH h c) (vI 1)) := by
  refine w_aload_n rfl rfl ?_
  refine k_get rfl oA rfl rfl ?_
  rw [v2]
  refine w_ifnonnull_n rfl ?_
  refine w_iconst rfl ?_
  refine w_goto rfl ?_
  refine w_zreturn rfl rfl (by first | omega | (simp only [Int.toNat_natCast, upF_2] at *; omega)) ?_
  exact ⟨rfl, rfl⟩
theorem k_root0 (d : Nat) {a n : Nat} (oA : c.1 a = some (12, n)) {p : Nat} (v2 : c.2.1 12 n 2 = .ref p) : Wp b L xs d mi_34 0 (ent (mL mi_34) [.ref a]) [] (CH h c) (Rt (CH h c) (vI 0)) := by
  refine w_aload_n rfl rfl ?_
  refine k_get rfl oA rfl rfl ?_
  rw [v2]
  refine w_ifnonnull_r rfl ?_
  refine w_iconst rfl ?_
  refine w_zreturn rfl rfl (by first | omega | (simp only [Int.toNat_natCast, upF_2] at *; omega)) ?_
  exact ⟨rfl, rfl⟩
theorem k_pn0 (d : Nat) {a n : Nat} (oA : c.1 a = some (12, n)) (v2 : c.2.1 12 n 2 = .null) : Wp b L xs d mi_64 0 (ent (mL mi_64) [.ref a]) [] (CH h c) (Rt (CH h c) (vI 0)) := by
  refine w_aload_n rfl rfl ?_
  refine k_get rfl oA rfl rfl ?_
  rw [v2]
  refine w_ifnonnull_n rfl ?_
  refine w_iconst rfl ?_
  refine w_goto rfl ?_
  refine w_ireturn rfl rfl ?_
  exact ⟨rfl, rfl⟩
theorem k_pn1 (d : Nat) {a n : Nat} (oA : c.1 a = some (12, n)) {p m : Nat} (v2 : c.2.1 12 n 2 = .ref p) (oP : c.1 p = some (12, m)) (v0 : c.2.1 12 m 0 = vI m) : Wp b L xs d mi_64 0 (ent (mL mi_64) [.ref a]) [] (CH h c) (Rt (CH h c) (vI m)) := by
  refine w_aload_n rfl rfl ?_
  refine k_get rfl oA rfl rfl ?_
  rw [v2]
  refine w_ifnonnull_r rfl ?_
  refine w_aload_n rfl rfl ?_
  refine k_get rfl oA rfl rfl ?_
  rw [v2]
  refine k_get rfl oP rfl rfl ?_
  rw [v0]
  refine w_ireturn rfl rfl ?_
  exact ⟨rfl, rfl⟩
theorem k_abl (d : Nat) {a a2 : Nat} {up pa : Nat → Nat} {t : Nat} {r : Int} (ho : ∀ s, s ≤ t → c.1 (pa s) = some (12, up s)) (hp : ∀ s, s < t → c.2.1 12 (up s) 2 = .ref (pa (s + 1))) (hne : ∀ s, s < t → pa s ≠ a2) (hr : (pa t = a2 ∧ r = 1) ∨ (pa t ≠ a2 ∧ c.2.1 12 (up t) 2 = .null ∧ r = 0)) : ∀ m i : Nat, i + m = t → Wp b L xs d mi_35 2 [some (.ref a), some (.ref a2), some (.ref (pa i))] [] (CH h c) (Rt (CH h c) (vI r)) := by
  intro m
  induction m with
  | zero =>
    intro i hi
    obtain rfl : i = t := hi
    have o1 := ho i (Nat.le_refl _)
    rcases hr with ⟨h1, rfl⟩ | ⟨h1, h2, rfl⟩
    · rw [h1]
      refine w_aload_n rfl rfl ?_
      refine w_ifnull_r rfl ?_
      refine w_aload_n rfl rfl ?_
      refine w_aload_n rfl rfl ?_
      refine w_acne (x := some a2) (y := some a2) rfl (fun z => absurd rfl z) (fun _ => ?_)
      refine w_iconst rfl ?_
      refine w_zreturn rfl rfl (by decide) ?_
      exact ⟨rfl, rfl⟩
    · refine w_aload_n rfl rfl ?_
      refine w_ifnull_r rfl ?_
      refine w_aload_n rfl rfl ?_
      refine w_aload_n rfl rfl ?_
      refine w_acne (x := some (pa i)) (y := some a2) rfl (fun _ => ?_) (fun z => absurd (Option.some.inj z) h1)
      refine w_aload_n rfl rfl ?_
      refine k_get rfl o1 rfl rfl ?_
      rw [h2]
      refine w_astore_nQ (x := none) rfl (by decide) ?_
      refine w_goto rfl ?_
      refine w_aload_nQ (x := none) rfl rfl ?_
      refine w_ifnull_n rfl ?_
      refine w_iconst rfl ?_
      refine w_zreturn rfl rfl (by decide) ?_
      exact ⟨rfl, rfl⟩
  | succ m ih =>
    intro i hi
    have o1 := ho i (by omega)
    have o2 := hp i (by omega)
    have o3 := hne i (by omega)
    refine w_aload_n rfl rfl ?_
    refine w_ifnull_r rfl ?_
    refine w_aload_n rfl rfl ?_
    refine w_aload_n rfl rfl ?_
    refine w_acne (x := some (pa i)) (y := some a2) rfl (fun _ => ?_) (fun z => absurd (Option.some.inj z) o3)
    refine w_aload_n rfl rfl ?_
    refine k_get rfl o1 rfl rfl ?_
    rw [o2]
    refine w_astore_n rfl (by decide) ?_
    refine w_goto rfl ?_
    exact ih (i + 1) (by omega)
theorem k_ab (d : Nat) {a2 : Nat} {up pa : Nat → Nat} {t : Nat} {r : Int} (ho : ∀ s, s ≤ t → c.1 (pa s) = some (12, up s)) (hp : ∀ s, s < t → c.2.1 12 (up s) 2 = .ref (pa (s + 1))) (hne : ∀ s, s < t → pa s ≠ a2) (hr : (pa t = a2 ∧ r = 1) ∨ (pa t ≠ a2 ∧ c.2.1 12 (up t) 2 = .null ∧ r = 0)) : Wp b L xs d mi_35 0 (ent (mL mi_35) [.ref (pa 0), .ref a2]) [] (CH h c) (Rt (CH h c) (vI r)) := by
  refine w_aload_n rfl rfl ?_
  refine w_astore_n rfl (by decide) ?_
  exact k_abl d ho hp hne hr t 0 (Nat.zero_add _)
end Ct2
