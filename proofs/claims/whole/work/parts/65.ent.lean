/-! the tree's writers: chains -/
def bfr (ad : Nat → Nat) (t : Nat) : Option Nat := if t = 0 then none else some (ad (t - 1))
def lnk (c : CS) (p t : Nat) (cs : Nat → Nat) (v : Value) : CS := if t = 0 then upC c 12 p 7 v else upC c 12 (cs (t - 1)) 8 v
def enC (c : CS) (n p a hp : Nat) (w : Int) (t : Nat) (cs : Nat → Nat) (nx : Value) (s : Int) : CS := upC (lnk (upC (upC (upC c 12 n 2 (.ref hp)) 12 n 3 (vI w)) 12 n 8 nx) p t cs (.ref a)) 12 p 4 (vI (s + 1))
def lvC (c : CS) (p t : Nat) (cs : Nat → Nat) (nx : Value) (s : Int) : CS := upC (lnk c p t cs nx) 12 p 4 (vI (s - 1))
theorem lnk_1 (c : CS) (p t : Nat) (cs : Nat → Nat) (v : Value) : (lnk c p t cs v).1 = c.1 := by
  unfold lnk
  split <;> rfl
theorem lnk_ne {c : CS} {p t : Nat} {cs : Nat → Nat} {v : Value} {k i f : Nat} (h : k ≠ 12 ∨ (f ≠ 7 ∧ f ≠ 8)) : (lnk c p t cs v).2.1 k i f = c.2.1 k i f := by
  unfold lnk
  split <;> exact upC_ne (by omega)
section Ce1
variable {b L V0 : Nat} {xs : Nat → Int32} {Z : Nat → Prop} {g : Nat → Option AO} {c : CS} {nc ns cap fi : Nat} {bl : Nat → Nat → Int} {sp ls : Nat → Int} {H : AH} {ρ : RS} {na : Nat → Option Nat} {T0 N0 R0 D0 : Nat}
theorem V_en45 (d : Nat) {n p a hp t : Nat} {cs ad : Nat → Nat} {w s : Int} (oA : c.1 a = some (12, n)) (oP : c.1 hp = some (12, p)) (hne : n ≠ p) (x : Option Nat) (hbo : t ≠ 0 → c.1 (ad (t - 1)) = some (12, cs (t - 1))) (hbn : t ≠ 0 → cs (t - 1) ≠ n) (f4 : c.2.1 12 p 4 = vI s) (hH : VH b V0 Z g (upC (upC c 12 n 2 (.ref hp)) 12 n 3 (vI w)) nc ns cap fi bl sp ls H) : Wp b L xs d mi_23 45 [some (.ref a), some (.ref hp), some (vI w), some (va_rf (bfr ad t)), some (va_rf x)] [] H (fun h' o => o = .inl none ∧ h'.1 = H.1 ∧ VH b V0 Z g (enC c n p a hp w t cs (va_rf x) s) nc ns cap fi bl sp ls h') := by
  have eH0 : H.1 = H.1 := rfl
  refine w_aload_n rfl rfl ?_
  refine w_aloadQ (x := x) rfl rfl ?_
  refine v_put hH rfl oA (by decide) (by decide) (by decide) rfl rfl (by cases x <;> rfl) rfl ?_
  intro H1 eH hH
  by_cases e : t = 0
  · rw [show bfr ad t = none from if_pos e]
    refine w_aload_nQ (x := none) rfl rfl ?_
    refine w_ifnonnull_n rfl ?_
    refine w_aload_n rfl rfl ?_
    refine w_aload_n rfl rfl ?_
    refine v_put hH rfl oP (by decide) (by decide) (by decide) rfl rfl rfl rfl ?_
    intro H2 eH2 hH
    refine w_goto rfl ?_
    refine w_aload_n rfl rfl ?_
    refine w_dupR rfl ?_
    refine w_getfield rfl (VH_at hH oP (by decide) (by decide) (by decide)) rfl ?_
    rw [upC_ne (by omega), upC_ne (by omega), upC_ne (by omega), upC_ne (by omega), f4]
    refine w_iconst rfl ?_
    refine w_iadd rfl ?_
    refine v_put hH rfl oP (by decide) (by decide) (by decide) rfl rfl rfl rfl ?_
    intro H3 eH3 hH
    refine w_return rfl rfl ?_
    refine ⟨rfl, by omega, ?_⟩
    unfold enC lnk
    rw [if_pos e]
    exact hH
  · rw [show bfr ad t = some (ad (t - 1)) from if_neg e]
    have oB := hbo e
    refine w_aload_n rfl rfl ?_
    refine w_ifnonnull_r rfl ?_
    refine w_aload_n rfl rfl ?_
    refine w_aload_n rfl rfl ?_
    refine v_put hH rfl oB (by decide) (by decide) (by decide) rfl rfl rfl rfl ?_
    intro H2 eH2 hH
    refine w_aload_n rfl rfl ?_
    refine w_dupR rfl ?_
    refine w_getfield rfl (VH_at hH oP (by decide) (by decide) (by decide)) rfl ?_
    rw [upC_ne (by omega), upC_ne (by omega), upC_ne (by omega), upC_ne (by omega), f4]
    refine w_iconst rfl ?_
    refine w_iadd rfl ?_
    refine v_put hH rfl oP (by decide) (by decide) (by decide) rfl rfl rfl rfl ?_
    intro H3 eH3 hH
    refine w_return rfl rfl ?_
    refine ⟨rfl, by omega, ?_⟩
    unfold enC lnk
    rw [if_neg e]
    exact hH
theorem V_en_l2 (d : Nat) {n p a hp q t : Nat} {cs ad : Nat → Nat} {nm : Nat → Int} {w s : Int} (oA : c.1 a = some (12, n)) (oP : c.1 hp = some (12, p)) (hne : n ≠ p) (hC : Chn c p cs ad nm q) (hnc : ∀ i, i < q → cs i ≠ n) (ht : t ≤ q) (hlt : ∀ j, j < t → nm j < w) (hge : t < q → w ≤ nm t) (w1 : -2147483648 ≤ w) (w2 : w ≤ 2147483647) (f4 : c.2.1 12 p 4 = vI s) (hH : VH b V0 Z g (upC (upC c 12 n 2 (.ref hp)) 12 n 3 (vI w)) nc ns cap fi bl sp ls H) : ∀ m j : Nat, j + m = t → Wp b L xs d mi_23 18 [some (.ref a), some (.ref hp), some (vI w), some (va_rf (bfr ad j)), some (va_rf (ptr ad j q))] [] H (fun h' o => o = .inl none ∧ h'.1 = H.1 ∧ VH b V0 Z g (enC c n p a hp w t cs (va_rf (ptr ad t q)) s) nc ns cap fi bl sp ls h') := by
  intro m
  induction m with
  | zero =>
    intro j hj
    obtain rfl : j = t := hj
    have fin := V_en45 (L := L) (xs := xs) d (t := j) (cs := cs) (ad := ad) oA oP hne (ptr ad j q) (fun z => (hC.2 (j - 1) (by omega)).1) (fun z => hnc (j - 1) (by omega)) f4 hH
    by_cases q1 : j < q
    · obtain ⟨o1, o2, o3, o4, o5⟩ := hC.2 j q1
      have h1 := hge q1
      have h2 := hnc j q1
      rw [show ptr ad j q = some (ad j) from if_pos q1] at fin ⊢
      refine w_aload rfl rfl ?_
      refine w_ifnull_r rfl ?_
      refine w_aload rfl rfl ?_
      refine w_getfield rfl (VH_at hH o1 (by decide) (by decide) (by decide)) rfl ?_
      rw [upC_ne (by omega), upC_ne (by omega), o2]
      refine w_iload_n rfl rfl ?_
      refine w_icge_t rfl (by omega) (by omega) (by omega) (by omega) (by omega) ?_
      exact fin
    · rw [show ptr ad j q = none from if_neg q1] at fin ⊢
      refine w_aloadQ (x := none) rfl rfl ?_
      refine w_ifnull_n rfl ?_
      exact fin
  | succ m ih =>
    intro j hj
    obtain ⟨o1, o2, o3, o4, o5⟩ := hC.2 j (by omega)
    have h1 := hlt j (by omega)
    have h2 := hnc j (by omega)
    rw [show ptr ad j q = some (ad j) from if_pos (by omega)]
    refine w_aload rfl rfl ?_
    refine w_ifnull_r rfl ?_
    refine w_aload rfl rfl ?_
    refine w_getfield rfl (VH_at hH o1 (by decide) (by decide) (by decide)) rfl ?_
    rw [upC_ne (by omega), upC_ne (by omega), o2]
    refine w_iload_n rfl rfl ?_
    refine w_icge_f rfl (by omega) (by omega) (by omega) (by omega) (by omega) ?_
    refine w_aload rfl rfl ?_
    refine w_astore_n rfl (by decide) ?_
    refine w_aload rfl rfl ?_
    refine w_getfield rfl (VH_at hH o1 (by decide) (by decide) (by decide)) rfl ?_
    rw [upC_ne (by omega), upC_ne (by omega), o3]
    refine w_astoreQ rfl (by decide) ?_
    refine w_goto rfl ?_
    have e : some (ad j) = bfr ad (j + 1) := by unfold bfr; rw [if_neg (by omega), Nat.add_sub_cancel]
    have := ih (j + 1) (by omega)
    rw [← e] at this
    exact this
theorem V_enter (hH : VH b V0 Z g c nc ns cap fi bl sp ls H) (d : Nat) {n p a hp q t : Nat} {cs ad : Nat → Nat} {nm : Nat → Int} {w s : Int} (oA : c.1 a = some (12, n)) (oP : c.1 hp = some (12, p)) (hne : n ≠ p) (hC : Chn c p cs ad nm q) (hnc : ∀ i, i < q → cs i ≠ n) (ht : t ≤ q) (hlt : ∀ j, j < t → nm j < w) (hge : t < q → w ≤ nm t) (w1 : -2147483648 ≤ w) (w2 : w ≤ 2147483647) (f4 : c.2.1 12 p 4 = vI s) : Wp b L xs d mi_23 0 (ent (mL mi_23) [.ref a, .ref hp, vI w]) [] H (fun h' o => o = .inl none ∧ h'.1 = H.1 ∧ VH b V0 Z g (enC c n p a hp w t cs (va_rf (ptr ad t q)) s) nc ns cap fi bl sp ls h') := by
  refine w_aload_n rfl rfl ?_
  refine w_aload_n rfl rfl ?_
  refine v_put hH rfl oA (by decide) (by decide) (by decide) rfl rfl rfl rfl ?_
  intro H1 eH1 hH
  refine w_aload_n rfl rfl ?_
  refine w_iload_n rfl rfl ?_
  refine v_put hH rfl oA (by decide) (by decide) (by decide) rfl rfl rfl rfl ?_
  intro H2 eH2 hH
  refine w_aconst_null rfl ?_
  refine w_astore_nQ (x := none) rfl (by decide) ?_
  refine w_aload_n rfl rfl ?_
  refine w_getfield rfl (VH_at hH oP (by decide) (by decide) (by decide)) rfl ?_
  rw [upC_ne (by omega), upC_ne (by omega), hC.1]
  refine w_astoreQ rfl (by decide) ?_
  rw [show H.1 = H2.1 by omega]
  exact V_en_l2 d oA oP hne hC hnc ht hlt hge w1 w2 f4 hH t 0 (Nat.zero_add _)
theorem V_lv26 (d : Nat) {n p a hp t : Nat} {cs ad : Nat → Nat} {s : Int} (oA : c.1 a = some (12, n)) (oP : c.1 hp = some (12, p)) (x : Option Nat) (fx : c.2.1 12 n 8 = va_rf x) (hbo : t ≠ 0 → c.1 (ad (t - 1)) = some (12, cs (t - 1))) (f4 : c.2.1 12 p 4 = vI s) (u3 : Option Value) (hH : VH b V0 Z g c nc ns cap fi bl sp ls H) : Wp b L xs d mi_38 26 [some (.ref a), some (.ref hp), some (va_rf (bfr ad t)), u3] [] H (fun h' o => o = .inl none ∧ h'.1 = H.1 ∧ VH b V0 Z g (lvC c p t cs (va_rf x) s) nc ns cap fi bl sp ls h') := by
  by_cases e : t = 0
  · rw [show bfr ad t = none from if_pos e]
    refine w_aload_nQ (x := none) rfl rfl ?_
    refine w_ifnonnull_n rfl ?_
    refine w_aload_n rfl rfl ?_
    refine w_aload_n rfl rfl ?_
    refine w_getfield rfl (VH_at hH oA (by decide) (by decide) (by decide)) rfl ?_
    rw [fx]
    refine v_put hH rfl oP (by decide) (by decide) (by decide) rfl rfl (by cases x <;> rfl) rfl ?_
    intro H2 eH2 hH
    refine w_goto rfl ?_
    refine w_aload_n rfl rfl ?_
    refine w_dupR rfl ?_
    refine w_getfield rfl (VH_at hH oP (by decide) (by decide) (by decide)) rfl ?_
    rw [upC_ne (by omega), f4]
    refine w_iconst rfl ?_
    refine w_isub rfl ?_
    refine v_put hH rfl oP (by decide) (by decide) (by decide) rfl rfl rfl rfl ?_
    intro H3 eH3 hH
    refine w_return rfl rfl ?_
    refine ⟨rfl, by omega, ?_⟩
    unfold lvC lnk
    rw [if_pos e]
    exact hH
  · rw [show bfr ad t = some (ad (t - 1)) from if_neg e]
    have oB := hbo e
    refine w_aload_n rfl rfl ?_
    refine w_ifnonnull_r rfl ?_
    refine w_aload_n rfl rfl ?_
    refine w_aload_n rfl rfl ?_
    refine w_getfield rfl (VH_at hH oA (by decide) (by decide) (by decide)) rfl ?_
    rw [fx]
    refine v_put hH rfl oB (by decide) (by decide) (by decide) rfl rfl (by cases x <;> rfl) rfl ?_
    intro H2 eH2 hH
    refine w_aload_n rfl rfl ?_
    refine w_dupR rfl ?_
    refine w_getfield rfl (VH_at hH oP (by decide) (by decide) (by decide)) rfl ?_
    rw [upC_ne (by omega), f4]
    refine w_iconst rfl ?_
    refine w_isub rfl ?_
    refine v_put hH rfl oP (by decide) (by decide) (by decide) rfl rfl rfl rfl ?_
    intro H3 eH3 hH
    refine w_return rfl rfl ?_
    refine ⟨rfl, by omega, ?_⟩
    unfold lvC lnk
    rw [if_neg e]
    exact hH
theorem V_lv_l (d : Nat) {n p a hp q t : Nat} {cs ad : Nat → Nat} {nm : Nat → Int} {s : Int} (oA : c.1 a = some (12, n)) (oP : c.1 hp = some (12, p)) (hC : Chn c p cs ad nm q) (ht : t < q) (hta : ad t = a) (hne : ∀ j, j < t → ad j ≠ a) (f4 : c.2.1 12 p 4 = vI s) (hcn : cs t = n) (hH : VH b V0 Z g c nc ns cap fi bl sp ls H) : ∀ m j : Nat, j + m = t → Wp b L xs d mi_38 7 [some (.ref a), some (.ref hp), some (va_rf (bfr ad j)), some (va_rf (ptr ad j q))] [] H (fun h' o => o = .inl none ∧ h'.1 = H.1 ∧ VH b V0 Z g (lvC c p t cs (va_rf (ptr ad (t + 1) q)) s) nc ns cap fi bl sp ls h') := by
  intro m
  induction m with
  | zero =>
    intro j hj
    obtain rfl : j = t := hj
    obtain ⟨o1, o2, o3, o4, o5⟩ := hC.2 j ht
    have fin := V_lv26 (L := L) (xs := xs) d (t := j) (cs := cs) (ad := ad) oA oP (ptr ad (j + 1) q) (by rw [← hcn]; exact o3) (fun z => (hC.2 (j - 1) (by omega)).1) f4 (some (va_rf (ptr ad j q))) hH
    rw [show ptr ad j q = some (ad j) from if_pos ht, hta] at fin ⊢
    refine w_aload_n rfl rfl ?_
    refine w_ifnull_r rfl ?_
    refine w_aload_n rfl rfl ?_
    refine w_aload_n rfl rfl ?_
    refine w_aceq (x := some a) (y := some a) rfl (fun _ => ?_) (fun z => absurd rfl z)
    exact fin
  | succ m ih =>
    intro j hj
    obtain ⟨o1, o2, o3, o4, o5⟩ := hC.2 j (by omega)
    have h2 := hne j (by omega)
    rw [show ptr ad j q = some (ad j) from if_pos (by omega)]
    refine w_aload_n rfl rfl ?_
    refine w_ifnull_r rfl ?_
    refine w_aload_n rfl rfl ?_
    refine w_aload_n rfl rfl ?_
    refine w_aceq (x := some (ad j)) (y := some a) rfl (fun z => absurd (Option.some.inj z) h2) (fun _ => ?_)
    refine w_aload_n rfl rfl ?_
    refine w_astore_n rfl (by decide) ?_
    refine w_aload_n rfl rfl ?_
    refine w_getfield rfl (VH_at hH o1 (by decide) (by decide) (by decide)) rfl ?_
    rw [o3]
    refine w_astore_nQ rfl (by decide) ?_
    refine w_goto rfl ?_
    have e : some (ad j) = bfr ad (j + 1) := by unfold bfr; rw [if_neg (by omega), Nat.add_sub_cancel]
    have := ih (j + 1) (by omega)
    rw [← e] at this
    exact this
theorem V_leave (hH : VH b V0 Z g c nc ns cap fi bl sp ls H) (d : Nat) {n p a hp q t : Nat} {cs ad : Nat → Nat} {nm : Nat → Int} {s : Int} (oA : c.1 a = some (12, n)) (oP : c.1 hp = some (12, p)) (hC : Chn c p cs ad nm q) (ht : t < q) (hta : ad t = a) (hne : ∀ j, j < t → ad j ≠ a) (f4 : c.2.1 12 p 4 = vI s) (hcn : cs t = n) : Wp b L xs d mi_38 0 (ent (mL mi_38) [.ref a, .ref hp]) [] H (fun h' o => o = .inl none ∧ h'.1 = H.1 ∧ VH b V0 Z g (lvC c p t cs (va_rf (ptr ad (t + 1) q)) s) nc ns cap fi bl sp ls h') := by
  refine w_aconst_null rfl ?_
  refine w_astore_nQ (x := none) rfl (by decide) ?_
  refine w_aload_n rfl rfl ?_
  refine w_getfield rfl (VH_at hH oP (by decide) (by decide) (by decide)) rfl ?_
  rw [hC.1]
  refine w_astore_nQ rfl (by decide) ?_
  exact V_lv_l d oA oP hC ht hta hne f4 hcn hH t 0 (Nat.zero_add _)
end Ce1
