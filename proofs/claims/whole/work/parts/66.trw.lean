/-! the tree's writers -/
theorem upC_1 (c : CS) (k i f : Nat) (x : Value) : (upC c k i f x).1 = c.1 := rfl
theorem upC_g (c : CS) (k i f : Nat) (x : Value) (k' i' f' : Nat) : (upC c k i f x).2.1 k' i' f' = if k' = k ∧ i' = i ∧ f' = f then x else c.2.1 k' i' f' := by
  by_cases e : k' = k ∧ i' = i ∧ f' = f
  · rw [if_pos e, e.1, e.2.1, e.2.2, upC_eq]
  · rw [if_neg e, upC_ne e]
theorem nw_o {c : CS} {a k i : Nat} {v : Nat → Value} {len : Nat → Nat} {x : Nat} {q : Nat × Nat} (ha : c.1 a = none) (hx : c.1 x = some q) : (nwC c a k i v len).1 x = some q := by
  show (if x = a then some (k, i) else c.1 x) = _
  rw [if_neg (fun z => by rw [z, ha] at hx; cases hx), hx]
theorem nw_a (c : CS) (a k i : Nat) (v : Nat → Value) (len : Nat → Nat) : (nwC c a k i v len).1 a = some (k, i) := if_pos rfl
theorem nw_v {c : CS} {a k i : Nat} {v : Nat → Value} {len : Nat → Nat} {k' i' : Nat} (h : ¬ (k' = k ∧ i' = i)) : (nwC c a k i v len).2.1 k' i' = c.2.1 k' i' := if_neg h
theorem nw_s (c : CS) (a k i : Nat) (v : Nat → Value) (len : Nat → Nat) : (nwC c a k i v len).2.1 k i = v := if_pos ⟨rfl, rfl⟩
/-- a new node's row -/
def nd0 : Nat → Value := fun f => if f = 2 ∨ f = 6 ∨ f = 7 ∨ f = 8 then .null else vI 0
theorem Chn_c {c c' : CS} {p q : Nat} {cs ad : Nat → Nat} {nm : Nat → Int} (hC : Chn c p cs ad nm q) (h1 : c'.2.1 12 p 7 = c.2.1 12 p 7) (h2 : ∀ i, i < q → ∀ x, c.1 (ad i) = some x → c'.1 (ad i) = some x) (h3 : ∀ i, i < q → c'.2.1 12 (cs i) 3 = c.2.1 12 (cs i) 3 ∧ c'.2.1 12 (cs i) 8 = c.2.1 12 (cs i) 8) : Chn c' p cs ad nm q :=
  ⟨h1.trans hC.1, fun i hi => ⟨h2 i hi _ (hC.2 i hi).1, (h3 i hi).1.trans (hC.2 i hi).2.1, (h3 i hi).2.trans (hC.2 i hi).2.2.1, (hC.2 i hi).2.2.2⟩⟩
def adB (c : CS) (a n : Nat) (k T : Int) : CS := upC (upC (nwC (upC c 1 0 2 (vI (T + 1))) a 12 n nd0 c.2.2) 12 n 0 (vI n)) 12 n 1 (vI k)
def adC (c : CS) (n p a hp : Nat) (k w T C : Int) (t : Nat) (cs : Nat → Nat) (nx : Value) (s : Int) : CS := upC (upC (upC (upC (enC (adB c a n k T) n p a hp w t cs nx s) 12 n 5 (vI (T + 1))) 12 p 5 (vI (T + 1))) 2 0 n (.ref a)) 1 0 1 (vI (C + 1))
def tkC (c : CS) (p t : Nat) (cs : Nat → Nat) (nx : Value) (s T : Int) : CS := upC (lvC c p t cs nx s) 12 p 5 (vI T)
def rhC (c : CS) (n p a hp : Nat) (w T : Int) (t : Nat) (cs : Nat → Nat) (nx : Value) (s : Int) : CS := upC (upC (enC c n p a hp w t cs nx s) 12 n 5 (vI T)) 12 p 5 (vI T)
def drC (c : CS) (n p t : Nat) (cs : Nat → Nat) (nx : Value) (s T C : Int) : CS := upC (upC (tkC (upC c 1 0 2 (vI (T + 1))) p t cs nx s (T + 1)) 2 0 n .null) 1 0 1 (vI (C - 1))
theorem enC_1 (c : CS) (n p a hp : Nat) (w : Int) (t : Nat) (cs : Nat → Nat) (nx : Value) (s : Int) : (enC c n p a hp w t cs nx s).1 = c.1 := lnk_1 _ _ _ _ _
theorem lvC_1 (c : CS) (p t : Nat) (cs : Nat → Nat) (nx : Value) (s : Int) : (lvC c p t cs nx s).1 = c.1 := lnk_1 _ _ _ _ _
theorem tkC_1 (c : CS) (p t : Nat) (cs : Nat → Nat) (nx : Value) (s T : Int) : (tkC c p t cs nx s T).1 = c.1 := lvC_1 c p t cs nx s
theorem enC_k {c : CS} {n p a hp t k i f : Nat} {w s : Int} {cs : Nat → Nat} {nx : Value} (hk : k ≠ 12) : (enC c n p a hp w t cs nx s).2.1 k i f = c.2.1 k i f := by
  unfold enC
  rw [upC_ne (by omega), lnk_ne (Or.inl hk), upC_ne (by omega), upC_ne (by omega), upC_ne (by omega)]
theorem lvC_k {c : CS} {p t k i f : Nat} {s : Int} {cs : Nat → Nat} {nx : Value} (hk : k ≠ 12) : (lvC c p t cs nx s).2.1 k i f = c.2.1 k i f := by
  unfold lvC
  rw [upC_ne (by omega), lnk_ne (Or.inl hk)]
section Ce2
variable {b L V0 : Nat} {xs : Nat → Int32} {Z : Nat → Prop} {g : Nat → Option AO} {c : CS} {nc ns cap fi : Nat} {bl : Nat → Nat → Int} {sp ls : Nat → Int} {H : AH} {ρ : RS} {na : Nat → Option Nat} {T0 N0 R0 D0 : Nat}
theorem V_ninit (hH : VH b V0 Z g c nc ns cap fi bl sp ls H) (d : Nat) (hd : 1 ≤ d) {a n : Nat} {x k : Int} (oA : c.1 a = some (12, n)) : Wp b L xs d mi_8 0 (ent (mL mi_8) [.ref a, vI x, vI k]) [] H (fun h' o => o = .inl none ∧ h'.1 = H.1 ∧ VH b V0 Z g (upC (upC c 12 n 0 (vI x)) 12 n 1 (vI k)) nc ns cap fi bl sp ls h') := by
  refine w_aload_n rfl rfl ?_
  refine w_obj rfl hd (Nat.le_of_ble_eq_true rfl) ?_
  refine w_aload_n rfl rfl ?_
  refine w_iload_n rfl rfl ?_
  refine v_put hH rfl oA (by decide) (by decide) (by decide) rfl rfl rfl rfl ?_
  intro H1 eH1 hH
  refine w_aload_n rfl rfl ?_
  refine w_iload_n rfl rfl ?_
  refine v_put hH rfl oA (by decide) (by decide) (by decide) rfl rfl rfl rfl ?_
  intro H2 eH2 hH
  refine w_return rfl rfl ?_
  exact ⟨rfl, by omega, hH⟩
theorem V_add (hH : VH b V0 Z g c nc ns cap fi bl sp ls H) (d : Nat) (hd : 2 ≤ d) (oT : c.1 T0 = some (1, 0)) (vT : c.2.1 1 0 0 = .ref N0) (oN : c.1 N0 = some (2, 0)) {T C : Int} (vt : c.2.1 1 0 2 = vI T) (vc : c.2.1 1 0 1 = vI C) {n p hp q t : Nat} {cs ad : Nat → Nat} {nm : Nat → Int} {w s k : Int} (hn : n < 256) (oP : c.1 hp = some (12, p)) (hf : ∀ a, c.1 a ≠ some (12, n)) (hne : n ≠ p) (hC : Chn c p cs ad nm q) (hnc : ∀ i, i < q → cs i ≠ n) (ht : t ≤ q) (hlt : ∀ j, j < t → nm j < w) (hge : t < q → w ≤ nm t) (w1 : -2147483648 ≤ w) (w2 : w ≤ 2147483647) (f4 : c.2.1 12 p 4 = vI s) : Wp b L xs d mi_22 0 (ent (mL mi_22) [.ref T0, vI n, vI k, .ref hp, vI w]) [] H (fun h' o => o = .inl none ∧ h'.1 = H.1 + 1 ∧ VH b V0 Z g (adC c n p H.1 hp k w T C t cs (va_rf (ptr ad t q)) s) (nc + 1) (ns + 9) cap fi bl sp ls h') := by
  have fr := ((VH_fr hH).1 H.1 (Nat.le_refl _)).2
  refine w_aload_n rfl rfl ?_
  refine w_dupR rfl ?_
  refine w_getfield rfl (VH_at hH oT (by decide) (by decide) (by decide)) rfl ?_
  rw [vt]
  refine w_iconst rfl ?_
  refine w_iadd rfl ?_
  refine v_put hH rfl oT (by decide) (by decide) (by decide) rfl rfl rfl rfl ?_
  intro H1 eH1 hH
  refine v_new (v := nd0) (n := n) (k := 12) hH rfl rfl (by decide) (by decide) (by decide) hf rfl ?_
  rw [eH1]
  intro H2 eH2 hH
  refine w_dupR rfl ?_
  refine w_iload_n rfl rfl ?_
  refine w_iload_n rfl rfl ?_
  have oA : (nwC (upC c 1 0 2 (vI (T + 1))) H.1 12 n nd0 c.2.2).1 H.1 = some (12, n) := nw_a _ _ _ _ _ _
  refine w_ci rfl (by decide) (by omega) rfl mt_8 (Nat.le_of_ble_eq_true rfl) (Nat.le_of_ble_eq_true rfl) (V_ninit hH _ (by omega) oA) ?_
  rintro H3 _ ⟨rfl, eH3, hH⟩
  refine ⟨none, rfl, ?_⟩
  refine w_astore rfl (by decide) ?_
  refine w_aload rfl rfl ?_
  refine w_aload_n rfl rfl ?_
  refine w_iload rfl rfl ?_
  have no : ∀ x q, c.1 x = some q → (adB c H.1 n k T).1 x = some q := fun x q hx => nw_o (c := upC c 1 0 2 (vI (T + 1))) (v := nd0) (len := c.2.2) fr hx
  have oP2 : (adB c H.1 n k T).1 hp = some (12, p) := no _ _ oP
  have oA2 : (adB c H.1 n k T).1 H.1 = some (12, n) := oA
  have oT2 : (adB c H.1 n k T).1 T0 = some (1, 0) := no _ _ oT
  have oN2 : (adB c H.1 n k T).1 N0 = some (2, 0) := no _ _ oN
  have g1 : ∀ i f, i ≠ n → (adB c H.1 n k T).2.1 12 i f = c.2.1 12 i f := fun i f hi => by
    unfold adB
    rw [upC_ne (by omega), upC_ne (by omega), nw_v (by omega), upC_ne (by omega)]
  have g2 : ∀ k' f, k' ≠ 12 → ¬ (k' = 1 ∧ f = 2) → (adB c H.1 n k T).2.1 k' 0 f = c.2.1 k' 0 f := fun k' f hk hh => by
    unfold adB
    rw [upC_ne (by omega), upC_ne (by omega), nw_v (by omega), upC_ne (by omega)]
  have g3 : (adB c H.1 n k T).2.1 1 0 2 = vI (T + 1) := by
    unfold adB
    rw [upC_ne (by omega), upC_ne (by omega), nw_v (by omega), upC_eq]
  have hC2 : Chn (adB c H.1 n k T) p cs ad nm q := Chn_c hC (g1 p 7 (by omega)) (fun i hi x hx => no _ _ hx) (fun i hi => ⟨g1 _ _ (hnc i hi), g1 _ _ (hnc i hi)⟩)
  refine w_cv rfl (by decide) (by omega) rfl (VH_at hH oA2 (by decide) (by decide) (by decide)) mt_23 (Nat.le_of_ble_eq_true rfl) (Nat.le_of_ble_eq_true rfl) (V_enter (c := adB c H.1 n k T) hH _ oA2 oP2 hne hC2 hnc ht hlt hge w1 w2 (by rw [g1 p 4 (by omega)]; exact f4)) ?_
  rintro H4 _ ⟨rfl, eH4, hH⟩
  refine ⟨none, rfl, ?_⟩
  have oP3 : (enC (adB c H.1 n k T) n p H.1 hp w t cs (va_rf (ptr ad t q)) s).1 hp = some (12, p) := by rw [enC_1]; exact oP2
  have oA3 : (enC (adB c H.1 n k T) n p H.1 hp w t cs (va_rf (ptr ad t q)) s).1 H.1 = some (12, n) := by rw [enC_1]; exact oA2
  have oT3 : (enC (adB c H.1 n k T) n p H.1 hp w t cs (va_rf (ptr ad t q)) s).1 T0 = some (1, 0) := by rw [enC_1]; exact oT2
  have oN3 : (enC (adB c H.1 n k T) n p H.1 hp w t cs (va_rf (ptr ad t q)) s).1 N0 = some (2, 0) := by rw [enC_1]; exact oN2
  refine w_aload rfl rfl ?_
  refine w_aload_n rfl rfl ?_
  refine w_getfield rfl (VH_at hH oT3 (by decide) (by decide) (by decide)) rfl ?_
  rw [enC_k (by decide), g3]
  refine v_put hH rfl oA3 (by decide) (by decide) (by decide) rfl rfl rfl rfl ?_
  intro H5 eH5 hH
  refine w_aload_n rfl rfl ?_
  refine w_aload_n rfl rfl ?_
  refine w_getfield rfl (VH_at hH oT3 (by decide) (by decide) (by decide)) rfl ?_
  rw [upC_ne (by omega), enC_k (by decide), g3]
  refine v_put hH rfl oP3 (by decide) (by decide) (by decide) rfl rfl rfl rfl ?_
  intro H6 eH6 hH
  refine w_aload_n rfl rfl ?_
  refine w_getfield rfl (VH_at hH oT3 (by decide) (by decide) (by decide)) rfl ?_
  rw [upC_ne (by omega), upC_ne (by omega), enC_k (by decide), g2 1 0 (by decide) (by decide), vT]
  refine w_iload_n rfl rfl ?_
  refine w_aload rfl rfl ?_
  refine v_aastore hH rfl oN3 (by decide) (by decide) (by decide) (fun _ => rfl) oA3 (by decide) (by decide) (by decide) rfl rfl (by omega) (by omega) (by decide) ?_
  intro H7 eH7 hH
  rw [Int.toNat_natCast] at hH
  refine w_aload_n rfl rfl ?_
  refine w_dupR rfl ?_
  refine w_getfield rfl (VH_at hH oT3 (by decide) (by decide) (by decide)) rfl ?_
  rw [upC_ne (by omega), upC_ne (by omega), upC_ne (by omega), enC_k (by decide), g2 1 1 (by decide) (by decide), vc]
  refine w_iconst rfl ?_
  refine w_iadd rfl ?_
  refine v_put hH rfl oT3 (by decide) (by decide) (by decide) rfl rfl rfl rfl ?_
  intro H8 eH8 hH
  refine w_return rfl rfl ?_
  exact ⟨rfl, by omega, hH⟩
theorem V_take (hH : VH b V0 Z g c nc ns cap fi bl sp ls H) (d : Nat) (hd : 1 ≤ d) {n p a hp q t : Nat} {cs ad : Nat → Nat} {nm : Nat → Int} {s : Int} (oA : c.1 a = some (12, n)) (oP : c.1 hp = some (12, p)) (hC : Chn c p cs ad nm q) (ht : t < q) (hta : ad t = a) (hne : ∀ j, j < t → ad j ≠ a) (f4 : c.2.1 12 p 4 = vI s) (hcn : cs t = n) (f2 : c.2.1 12 n 2 = .ref hp) (oT : c.1 T0 = some (1, 0)) {T : Int} (vt : c.2.1 1 0 2 = vI T) : Wp b L xs d mi_37 0 (ent (mL mi_37) [.ref T0, .ref a]) [] H (fun h' o => o = .inl none ∧ h'.1 = H.1 ∧ VH b V0 Z g (tkC c p t cs (va_rf (ptr ad (t + 1) q)) s T) nc ns cap fi bl sp ls h') := by
  refine w_aload_n rfl rfl ?_
  refine w_getfield rfl (VH_at hH oA (by decide) (by decide) (by decide)) rfl ?_
  rw [f2]
  refine w_astore_n rfl (by decide) ?_
  refine w_aload_n rfl rfl ?_
  refine w_ifnull_r rfl ?_
  refine w_aload_n rfl rfl ?_
  refine w_aload_n rfl rfl ?_
  refine w_cv rfl (by decide) (by omega) rfl (VH_at hH oA (by decide) (by decide) (by decide)) mt_38 (Nat.le_of_ble_eq_true rfl) (Nat.le_of_ble_eq_true rfl) (V_leave hH _ oA oP hC ht hta hne f4 hcn) ?_
  rintro H3 _ ⟨rfl, eH3, hH⟩
  refine ⟨none, rfl, ?_⟩
  have oP3 : (lvC c p t cs (va_rf (ptr ad (t + 1) q)) s).1 hp = some (12, p) := by rw [lvC_1]; exact oP
  have oT3 : (lvC c p t cs (va_rf (ptr ad (t + 1) q)) s).1 T0 = some (1, 0) := by rw [lvC_1]; exact oT
  refine w_aload_n rfl rfl ?_
  refine w_aload_n rfl rfl ?_
  refine w_getfield rfl (VH_at hH oT3 (by decide) (by decide) (by decide)) rfl ?_
  rw [lvC_k (by decide), vt]
  refine v_put hH rfl oP3 (by decide) (by decide) (by decide) rfl rfl rfl rfl ?_
  intro H5 eH5 hH
  refine w_return rfl rfl ?_
  exact ⟨rfl, by omega, hH⟩
theorem V_drop (hH : VH b V0 Z g c nc ns cap fi bl sp ls H) (d : Nat) (hd : 2 ≤ d) {n p a hp q t : Nat} {cs ad : Nat → Nat} {nm : Nat → Int} {s : Int} (oA : c.1 a = some (12, n)) (oP : c.1 hp = some (12, p)) (hC : Chn c p cs ad nm q) (ht : t < q) (hta : ad t = a) (hne : ∀ j, j < t → ad j ≠ a) (f4 : c.2.1 12 p 4 = vI s) (hcn : cs t = n) (f2 : c.2.1 12 n 2 = .ref hp) (oT : c.1 T0 = some (1, 0)) (vT : c.2.1 1 0 0 = .ref N0) (oN : c.1 N0 = some (2, 0)) {T C : Int} (vt : c.2.1 1 0 2 = vI T) (vc : c.2.1 1 0 1 = vI C) (hn : n < 256) (f0 : c.2.1 12 n 0 = vI n) (hnp : n ≠ p) : Wp b L xs d mi_41 0 (ent (mL mi_41) [.ref T0, .ref a]) [] H (fun h' o => o = .inl none ∧ h'.1 = H.1 ∧ VH b V0 Z g (drC c n p t cs (va_rf (ptr ad (t + 1) q)) s T C) nc ns cap fi bl sp ls h') := by
  refine w_aload_n rfl rfl ?_
  refine w_dupR rfl ?_
  refine w_getfield rfl (VH_at hH oT (by decide) (by decide) (by decide)) rfl ?_
  rw [vt]
  refine w_iconst rfl ?_
  refine w_iadd rfl ?_
  refine v_put hH rfl oT (by decide) (by decide) (by decide) rfl rfl rfl rfl ?_
  intro H1 eH1 hH
  refine w_aload_n rfl rfl ?_
  refine w_aload_n rfl rfl ?_
  have hC2 : Chn (upC c 1 0 2 (vI (T + 1))) p cs ad nm q := Chn_c hC (upC_ne (by omega)) (fun _ _ _ hx => hx) (fun i hi => ⟨upC_ne (by omega), upC_ne (by omega)⟩)
  refine w_cv rfl (by decide) (by omega) rfl (VH_at hH oT (by decide) (by decide) (by decide)) mt_37 (Nat.le_of_ble_eq_true rfl) (Nat.le_of_ble_eq_true rfl) (V_take (c := upC c 1 0 2 (vI (T + 1))) hH _ (by omega) oA oP hC2 ht hta hne (by rw [upC_ne (by omega)]; exact f4) hcn (by rw [upC_ne (by omega)]; exact f2) oT (upC_eq _ _ _ _ _)) ?_
  rintro H3 _ ⟨rfl, eH3, hH⟩
  refine ⟨none, rfl, ?_⟩
  have g1 : (tkC (upC c 1 0 2 (vI (T + 1))) p t cs (va_rf (ptr ad (t + 1) q)) s (T + 1)).1 = c.1 := tkC_1 _ _ _ _ _ _ _
  have oT3 : (tkC (upC c 1 0 2 (vI (T + 1))) p t cs (va_rf (ptr ad (t + 1) q)) s (T + 1)).1 T0 = some (1, 0) := by rw [g1]; exact oT
  have oN3 : (tkC (upC c 1 0 2 (vI (T + 1))) p t cs (va_rf (ptr ad (t + 1) q)) s (T + 1)).1 N0 = some (2, 0) := by rw [g1]; exact oN
  have oA3 : (tkC (upC c 1 0 2 (vI (T + 1))) p t cs (va_rf (ptr ad (t + 1) q)) s (T + 1)).1 a = some (12, n) := by rw [g1]; exact oA
  have g2 : ∀ k i f, k ≠ 12 → (tkC (upC c 1 0 2 (vI (T + 1))) p t cs (va_rf (ptr ad (t + 1) q)) s (T + 1)).2.1 k i f = (upC c 1 0 2 (vI (T + 1))).2.1 k i f := fun k i f hk => by
    unfold tkC
    rw [upC_ne (by omega), lvC_k hk]
  refine w_aload_n rfl rfl ?_
  refine w_getfield rfl (VH_at hH oT3 (by decide) (by decide) (by decide)) rfl ?_
  rw [g2 _ _ _ (by decide), upC_ne (by omega), vT]
  refine w_aload_n rfl rfl ?_
  refine w_getfield rfl (VH_at hH oA3 (by decide) (by decide) (by decide)) rfl ?_
  rw [show (tkC (upC c 1 0 2 (vI (T + 1))) p t cs (va_rf (ptr ad (t + 1) q)) s (T + 1)).2.1 12 n 0 = vI n from by unfold tkC lvC; rw [upC_ne (by omega), upC_ne (by omega), lnk_ne (by omega), upC_ne (by omega), f0]]
  refine w_aconst_null rfl ?_
  refine v_aastoreN hH rfl oN3 (by decide) (by decide) (by decide) (fun _ => rfl) (by omega) (by omega) (by decide) ?_
  intro H7 eH7 hH
  rw [Int.toNat_natCast] at hH
  refine w_aload_n rfl rfl ?_
  refine w_dupR rfl ?_
  refine w_getfield rfl (VH_at hH oT3 (by decide) (by decide) (by decide)) rfl ?_
  rw [upC_ne (by omega), g2 _ _ _ (by decide), upC_ne (by omega), vc]
  refine w_iconst rfl ?_
  refine w_isub rfl ?_
  refine v_put hH rfl oT3 (by decide) (by decide) (by decide) rfl rfl rfl rfl ?_
  intro H8 eH8 hH
  refine w_return rfl rfl ?_
  exact ⟨rfl, by omega, hH⟩
theorem V_short (hH : VH b V0 Z g c nc ns cap fi bl sp ls H) (d : Nat) {n a : Nat} {z T : Int} (oA : c.1 a = some (12, n)) (oT : c.1 T0 = some (1, 0)) (vt : c.2.1 1 0 2 = vI T) : Wp b L xs d mi_31 0 (ent (mL mi_31) [.ref T0, .ref a, vI z]) [] H (fun h' o => o = .inl none ∧ h'.1 = H.1 ∧ VH b V0 Z g (upC (upC (upC c 1 0 2 (vI (T + 1))) 12 n 4 (vI z)) 12 n 5 (vI (T + 1))) nc ns cap fi bl sp ls h') := by
  refine w_aload_n rfl rfl ?_
  refine w_dupR rfl ?_
  refine w_getfield rfl (VH_at hH oT (by decide) (by decide) (by decide)) rfl ?_
  rw [vt]
  refine w_iconst rfl ?_
  refine w_iadd rfl ?_
  refine v_put hH rfl oT (by decide) (by decide) (by decide) rfl rfl rfl rfl ?_
  intro H1 eH1 hH
  refine w_aload_n rfl rfl ?_
  refine w_iload_n rfl rfl ?_
  refine v_put hH rfl oA (by decide) (by decide) (by decide) rfl rfl rfl rfl ?_
  intro H2 eH2 hH
  refine w_aload_n rfl rfl ?_
  refine w_aload_n rfl rfl ?_
  refine w_getfield rfl (VH_at hH oT (by decide) (by decide) (by decide)) rfl ?_
  rw [upC_ne (by omega), upC_eq]
  refine v_put hH rfl oA (by decide) (by decide) (by decide) rfl rfl rfl rfl ?_
  intro H3 eH3 hH
  refine w_return rfl rfl ?_
  exact ⟨rfl, by omega, hH⟩
theorem V_rehome (hH : VH b V0 Z g c nc ns cap fi bl sp ls H) (d : Nat) (hd : 2 ≤ d) {n p a hp q t : Nat} {cs ad : Nat → Nat} {nm : Nat → Int} {s : Int} (oA : c.1 a = some (12, n)) (oP : c.1 hp = some (12, p)) (hC : Chn c p cs ad nm q) (ht : t < q) (hta : ad t = a) (hne : ∀ j, j < t → ad j ≠ a) (f4 : c.2.1 12 p 4 = vI s) (hcn : cs t = n) (f2 : c.2.1 12 n 2 = .ref hp) (oT : c.1 T0 = some (1, 0)) {T : Int} (vt : c.2.1 1 0 2 = vI T) {p2 hp2 q2 t2 : Nat} {cs2 ad2 : Nat → Nat} {nm2 : Nat → Int} {w s2 : Int} {c2 : CS} (hc2 : c2 = tkC (upC c 1 0 2 (vI (T + 1))) p t cs (va_rf (ptr ad (t + 1) q)) s (T + 1)) (oP2 : c.1 hp2 = some (12, p2)) (hne2 : n ≠ p2) (hC2 : Chn c2 p2 cs2 ad2 nm2 q2) (hnc : ∀ i, i < q2 → cs2 i ≠ n) (ht2 : t2 ≤ q2) (hlt : ∀ j, j < t2 → nm2 j < w) (hge : t2 < q2 → w ≤ nm2 t2) (w1 : -2147483648 ≤ w) (w2 : w ≤ 2147483647) (f42 : c2.2.1 12 p2 4 = vI s2) : Wp b L xs d mi_36 0 (ent (mL mi_36) [.ref T0, .ref a, .ref hp2, vI w]) [] H (fun h' o => o = .inl none ∧ h'.1 = H.1 ∧ VH b V0 Z g (rhC c2 n p2 a hp2 w (T + 1) t2 cs2 (va_rf (ptr ad2 t2 q2)) s2) nc ns cap fi bl sp ls h') := by
  refine w_aload_n rfl rfl ?_
  refine w_dupR rfl ?_
  refine w_getfield rfl (VH_at hH oT (by decide) (by decide) (by decide)) rfl ?_
  rw [vt]
  refine w_iconst rfl ?_
  refine w_iadd rfl ?_
  refine v_put hH rfl oT (by decide) (by decide) (by decide) rfl rfl rfl rfl ?_
  intro H1 eH1 hH
  refine w_aload_n rfl rfl ?_
  refine w_aload_n rfl rfl ?_
  have hC1 : Chn (upC c 1 0 2 (vI (T + 1))) p cs ad nm q := Chn_c hC (upC_ne (by omega)) (fun _ _ _ hx => hx) (fun i hi => ⟨upC_ne (by omega), upC_ne (by omega)⟩)
  refine w_cv rfl (by decide) (by omega) rfl (VH_at hH oT (by decide) (by decide) (by decide)) mt_37 (Nat.le_of_ble_eq_true rfl) (Nat.le_of_ble_eq_true rfl) (V_take (c := (upC c 1 0 2 (vI (T + 1)))) hH _ (by omega) oA oP hC1 ht hta hne (by rw [upC_ne (by omega)]; exact f4) hcn (by rw [upC_ne (by omega)]; exact f2) oT (upC_eq _ _ _ _ _)) ?_
  rintro H3 _ ⟨rfl, eH3, hH⟩
  refine ⟨none, rfl, ?_⟩
  rw [← hc2] at hH
  have g1 : c2.1 = c.1 := by rw [hc2]; exact tkC_1 _ _ _ _ _ _ _
  have g3 : c2.2.1 1 0 2 = vI (T + 1) := by
    rw [hc2]
    unfold tkC
    rw [upC_ne (by omega), lvC_k (by decide), upC_eq]
  refine w_aload_n rfl rfl ?_
  refine w_aload_n rfl rfl ?_
  refine w_iload_n rfl rfl ?_
  refine w_cv rfl (by decide) (by omega) rfl (VH_at hH (by rw [g1]; exact oA) (by decide) (by decide) (by decide)) mt_23 (Nat.le_of_ble_eq_true rfl) (Nat.le_of_ble_eq_true rfl) (V_enter hH _ (by rw [g1]; exact oA) (by rw [g1]; exact oP2) hne2 hC2 hnc ht2 hlt hge w1 w2 f42) ?_
  rintro H4 _ ⟨rfl, eH4, hH⟩
  refine ⟨none, rfl, ?_⟩
  have g2 : (enC c2 n p2 a hp2 w t2 cs2 (va_rf (ptr ad2 t2 q2)) s2).1 = c.1 := by rw [enC_1, g1]
  have oP3 : (enC c2 n p2 a hp2 w t2 cs2 (va_rf (ptr ad2 t2 q2)) s2).1 hp2 = some (12, p2) := by rw [g2]; exact oP2
  have oA3 : (enC c2 n p2 a hp2 w t2 cs2 (va_rf (ptr ad2 t2 q2)) s2).1 a = some (12, n) := by rw [g2]; exact oA
  have oT3 : (enC c2 n p2 a hp2 w t2 cs2 (va_rf (ptr ad2 t2 q2)) s2).1 T0 = some (1, 0) := by rw [g2]; exact oT
  refine w_aload_n rfl rfl ?_
  refine w_aload_n rfl rfl ?_
  refine w_getfield rfl (VH_at hH oT3 (by decide) (by decide) (by decide)) rfl ?_
  rw [enC_k (by decide), g3]
  refine v_put hH rfl oA3 (by decide) (by decide) (by decide) rfl rfl rfl rfl ?_
  intro H5 eH5 hH
  refine w_aload_n rfl rfl ?_
  refine w_aload_n rfl rfl ?_
  refine w_getfield rfl (VH_at hH oT3 (by decide) (by decide) (by decide)) rfl ?_
  rw [upC_ne (by omega), enC_k (by decide), g3]
  refine v_put hH rfl oP3 (by decide) (by decide) (by decide) rfl rfl rfl rfl ?_
  intro H6 eH6 hH
  refine w_return rfl rfl ?_
  exact ⟨rfl, by omega, hH⟩
end Ce2
