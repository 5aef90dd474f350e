/-! what is restored -/
def qfl (w : Nat → Value) (th cl lc rc : Int) : Nat → Value := fun f => if f = 4 then vI th else if f = 5 then vI cl else if f = 6 then vI lc else if f = 7 then vI rc else w f
def mkQ (c : CS) (th cl lc rc : Int) (fa ms lo : Nat → Int) : CS := (c.1, fun k i => if k = 7 ∧ i = 0 then qfl (c.2.1 7 0) th cl lc rc else if k = 8 ∧ i = 0 then (fun j => vI (fa j)) else if k = 9 ∧ i = 0 then (fun j => vI (ms j)) else if k = 10 ∧ i = 0 then (fun j => vI (lo j)) else c.2.1 k i, c.2.2)
theorem vB (f : Nat → Int) (j : Nat) (x : Int) : upV (fun i => vI (f i)) j (vI x) = fun i => vI (upB f j x i) := by
  funext i
  unfold upV upB
  by_cases e : i = j
  · rw [if_pos e, if_pos e]
  · rw [if_neg e, if_neg e]
section Mkq
variable (c : CS) (th cl lc rc : Int) (fa ms lo : Nat → Int)
theorem mkQ_8 (j : Nat) (x : Int) : upC (mkQ c th cl lc rc fa ms lo) 8 0 j (vI x) = mkQ c th cl lc rc (upB fa j x) ms lo := by
  refine Prod.ext rfl (Prod.ext (funext fun k => funext fun i => ?_) rfl)
  show (if k = 8 ∧ i = 0 then upV (fun j => vI (fa j)) j (vI x) else if k = 7 ∧ i = 0 then _ else if k = 8 ∧ i = 0 then _ else if k = 9 ∧ i = 0 then _ else if k = 10 ∧ i = 0 then _ else c.2.1 k i) = (if k = 7 ∧ i = 0 then _ else if k = 8 ∧ i = 0 then (fun i => vI (upB fa j x i)) else if k = 9 ∧ i = 0 then _ else if k = 10 ∧ i = 0 then _ else c.2.1 k i)
  by_cases e : k = 8 ∧ i = 0
  · rw [if_pos e, if_neg (by omega), if_pos e, vB]
  · rw [if_neg e, if_neg e, if_neg e]
theorem mkQ_9 (j : Nat) (x : Int) : upC (mkQ c th cl lc rc fa ms lo) 9 0 j (vI x) = mkQ c th cl lc rc fa (upB ms j x) lo := by
  refine Prod.ext rfl (Prod.ext (funext fun k => funext fun i => ?_) rfl)
  show (if k = 9 ∧ i = 0 then upV (fun j => vI (ms j)) j (vI x) else if k = 7 ∧ i = 0 then _ else if k = 8 ∧ i = 0 then _ else if k = 9 ∧ i = 0 then _ else if k = 10 ∧ i = 0 then _ else c.2.1 k i) = (if k = 7 ∧ i = 0 then _ else if k = 8 ∧ i = 0 then _ else if k = 9 ∧ i = 0 then (fun i => vI (upB ms j x i)) else if k = 10 ∧ i = 0 then _ else c.2.1 k i)
  by_cases e : k = 9 ∧ i = 0
  · rw [if_pos e, if_neg (by omega), if_neg (by omega), if_pos e, vB]
  · rw [if_neg e, if_neg e, if_neg e]
theorem mkQ_10 (j : Nat) (x : Int) : upC (mkQ c th cl lc rc fa ms lo) 10 0 j (vI x) = mkQ c th cl lc rc fa ms (upB lo j x) := by
  refine Prod.ext rfl (Prod.ext (funext fun k => funext fun i => ?_) rfl)
  show (if k = 10 ∧ i = 0 then upV (fun j => vI (lo j)) j (vI x) else if k = 7 ∧ i = 0 then _ else if k = 8 ∧ i = 0 then _ else if k = 9 ∧ i = 0 then _ else if k = 10 ∧ i = 0 then _ else c.2.1 k i) = (if k = 7 ∧ i = 0 then _ else if k = 8 ∧ i = 0 then _ else if k = 9 ∧ i = 0 then _ else if k = 10 ∧ i = 0 then (fun i => vI (upB lo j x i)) else c.2.1 k i)
  by_cases e : k = 10 ∧ i = 0
  · rw [if_pos e, if_neg (by omega), if_neg (by omega), if_neg (by omega), if_pos e, vB]
  · rw [if_neg e, if_neg e, if_neg e]
theorem mkQ_7 {th' cl' lc' rc' : Int} {f : Nat} {x : Value} (hx : upV (qfl (c.2.1 7 0) th cl lc rc) f x = qfl (c.2.1 7 0) th' cl' lc' rc') : upC (mkQ c th cl lc rc fa ms lo) 7 0 f x = mkQ c th' cl' lc' rc' fa ms lo := by
  refine Prod.ext rfl (Prod.ext (funext fun k => funext fun i => ?_) rfl)
  show (if k = 7 ∧ i = 0 then upV (qfl (c.2.1 7 0) th cl lc rc) f x else if k = 7 ∧ i = 0 then _ else if k = 8 ∧ i = 0 then _ else if k = 9 ∧ i = 0 then _ else if k = 10 ∧ i = 0 then _ else c.2.1 k i) = (if k = 7 ∧ i = 0 then qfl (c.2.1 7 0) th' cl' lc' rc' else if k = 8 ∧ i = 0 then _ else if k = 9 ∧ i = 0 then _ else if k = 10 ∧ i = 0 then _ else c.2.1 k i)
  by_cases e : k = 7 ∧ i = 0
  · rw [if_pos e, if_pos e, hx]
  · rw [if_neg e, if_neg e, if_neg e]
end Mkq
theorem qfl_4 (w : Nat → Value) (th cl lc rc x : Int) : upV (qfl w th cl lc rc) 4 (vI x) = qfl w x cl lc rc := by
  funext f
  unfold upV qfl
  by_cases e : f = 4
  · rw [if_pos e, if_pos e]
  · rw [if_neg e, if_neg e, if_neg e]
theorem qfl_5 (w : Nat → Value) (th cl lc rc x : Int) : upV (qfl w th cl lc rc) 5 (vI x) = qfl w th x lc rc := by
  funext f
  unfold upV qfl
  by_cases e : f = 5
  · rw [if_pos e, if_neg (by omega), if_pos e]
  · rw [if_neg e, if_neg e, if_neg e]
theorem qfl_6 (w : Nat → Value) (th cl lc rc x : Int) : upV (qfl w th cl lc rc) 6 (vI x) = qfl w th cl x rc := by
  funext f
  unfold upV qfl
  by_cases e : f = 6
  · rw [if_pos e, if_neg (by omega), if_neg (by omega), if_pos e]
  · rw [if_neg e, if_neg e, if_neg e]
theorem qfl_7 (w : Nat → Value) (th cl lc rc x : Int) : upV (qfl w th cl lc rc) 7 (vI x) = qfl w th cl lc x := by
  funext f
  unfold upV qfl
  by_cases e : f = 7
  · rw [if_pos e, if_neg (by omega), if_neg (by omega), if_neg (by omega), if_pos e]
  · rw [if_neg e, if_neg e, if_neg e]
def QI (b : Nat) (c : CS) (V0 Q0 F0 M0 L0 : Nat) : Prop := c.1 Q0 = some (7, 0) ∧ c.2.1 7 0 0 = .ref V0 ∧ c.2.1 7 0 1 = .ref F0 ∧ c.2.1 7 0 2 = .ref M0 ∧ c.2.1 7 0 3 = .ref L0 ∧ c.1 F0 = some (8, 0) ∧ c.1 M0 = some (9, 0) ∧ c.1 L0 = some (10, 0) ∧ F0 ≠ b ∧ M0 ≠ b
/-- a dump's object -/
def DmIs (c : CS) (ρ : RS) (da cn : Nat → Nat) (e : Nat) : Prop := c.1 (da e) = some (14, e) ∧ c.2.1 14 e 0 = vI e ∧ c.2.1 14 e 1 = vI (ρ.2 10 0 e) ∧ c.2.1 14 e 2 = vI (ρ.2 11 0 e) ∧ c.2.1 14 e 3 = va_rf (if ρ.2 12 0 e < 0 then none else some (da (ρ.2 12 0 e).toNat)) ∧ c.2.1 14 e 4 = vI (cn e) ∧ c.2.1 14 e 5 = vI (ρ.2 14 0 (e + 1) - ρ.2 14 0 e) ∧ c.2.1 14 e 6 = vI (ρ.2 13 0 e) ∧ c.2.1 14 e 7 = vI (ρ.2 13 0 (e + 1) - ρ.2 13 0 e)
def msk (g : Nat → Bool) : Nat → Nat
  | 0 => 0
  | m + 1 => msk g m ||| (if g m = true then 2 ^ m else 0)
theorem msk_lt (g : Nat → Bool) : ∀ m, msk g m < 2 ^ m
  | 0 => Nat.zero_lt_one
  | m + 1 => by
    have h1 := msk_lt g m
    have h2 : 2 ^ m < 2 ^ (m + 1) := Nat.pow_lt_pow_right (by decide) (by omega)
    show msk g m ||| _ < _
    refine Nat.or_lt_two_pow (by omega) ?_
    split
    · exact h2
    · exact Nat.pow_pos (by decide)
theorem msk_bit (g : Nat → Bool) : ∀ m i, (msk g m).testBit i = (decide (i < m) && g i)
  | 0, i => by
    show (0 : Nat).testBit i = _
    rw [Nat.zero_testBit]
    simp
  | m + 1, i => by
    show (msk g m ||| _).testBit i = _
    rw [Nat.testBit_or, msk_bit g m i]
    by_cases hg : g m = true
    · rw [if_pos hg, Nat.testBit_two_pow]
      by_cases e : m = i
      · subst e
        simp [hg]
      · have e1 : decide (i < m + 1) = decide (i < m) := decide_eq_decide.mpr (by omega)
        rw [e1]
        simp [e]
    · rw [if_neg hg, Nat.zero_testBit, Bool.or_false]
      by_cases e : i = m
      · subst e
        simp [hg]
      · have e1 : decide (i < m + 1) = decide (i < m) := decide_eq_decide.mpr (by omega)
        rw [e1]
theorem msk_0 (g : Nat → Bool) : ∀ m, msk g m = 0 ↔ ¬ 0 < cnt (fun i => g i = true) 0 m
  | 0 => by
    show (0 : Nat) = 0 ↔ ¬ 0 < 0
    omega
  | m + 1 => by
    have ih := msk_0 g m
    rw [cnt_snoc]
    show (msk g m ||| _) = 0 ↔ _
    rw [Nat.or_eq_zero_iff, ih]
    by_cases hg : g m = true
    · rw [if_pos hg, if_pos hg]
      have : 0 < 2 ^ m := Nat.pow_pos (by decide)
      omega
    · rw [if_neg hg, if_neg hg]
      omega
def QY (ρ : RS) (fa ms lo : Nat → Int) (Y : YS) : Prop := ∀ n, n < 256 → lo n = (if (Y n).2 = true then 1 else 0) ∧ (match (Y n).1 with
  | none => fa n = -1
  | some q => fa n = q.2.1 ∧ ms n = (msk q.2.2 (cont ρ q.1).toNat : Int))
section Cq1
variable {b L V0 : Nat} {xs : Nat → Int32} {Z : Nat → Prop} {g : Nat → Option AO} {c : CS} {nc ns cap fi : Nat} {bl : Nat → Nat → Int} {ls : Nat → Int} {H : AH} {ρ : RS} {Q0 F0 M0 L0 : Nat} {th cl lc rc : Int} {fa ms lo : Nat → Int} {da cn : Nat → Nat}
theorem V_setN (hH : VH b V0 Z g (mkQ c th cl lc rc fa ms lo) nc ns cap fi bl (ρ.2 30 0) ls H) (d : Nat) (hQ : QI b c V0 Q0 F0 M0 L0) {n : Nat} (hn : n < 256) : Wp b L xs d mi_11 0 (ent (mL mi_11) [.ref Q0, vI n]) [] H (fun h' o => o = .inl none ∧ VH b V0 Z g (mkQ c th cl lc rc (upB fa n (-1)) (upB ms n 0) (upB lo n 0)) nc ns cap fi bl (ρ.2 30 0) ls h') := by
  obtain ⟨oQ, q0, q1, q2, q3, oF, oM, oL, hFb, hMb⟩ := hQ
  have p0 : ∀ th cl lc rc fa ms lo, (mkQ c th cl lc rc fa ms lo).2.1 7 0 0 = .ref V0 := fun _ _ _ _ _ _ _ => q0
  have p1 : ∀ th cl lc rc fa ms lo, (mkQ c th cl lc rc fa ms lo).2.1 7 0 1 = .ref F0 := fun _ _ _ _ _ _ _ => q1
  have p2 : ∀ th cl lc rc fa ms lo, (mkQ c th cl lc rc fa ms lo).2.1 7 0 2 = .ref M0 := fun _ _ _ _ _ _ _ => q2
  have p3 : ∀ th cl lc rc fa ms lo, (mkQ c th cl lc rc fa ms lo).2.1 7 0 3 = .ref L0 := fun _ _ _ _ _ _ _ => q3
  have p5 : ∀ th cl lc rc fa ms lo, (mkQ c th cl lc rc fa ms lo).2.1 7 0 5 = vI cl := fun _ _ _ _ _ _ _ => rfl
  have p6 : ∀ th cl lc rc fa ms lo, (mkQ c th cl lc rc fa ms lo).2.1 7 0 6 = vI lc := fun _ _ _ _ _ _ _ => rfl
  have p7 : ∀ th cl lc rc fa ms lo, (mkQ c th cl lc rc fa ms lo).2.1 7 0 7 = vI rc := fun _ _ _ _ _ _ _ => rfl
  refine w_aload_n rfl rfl ?_
  refine w_getfield rfl (VH_at hH oQ (by decide) (by decide) (by decide)) rfl ?_
  rw [p1]
  refine w_iload_n rfl rfl ?_
  refine w_iconst rfl ?_
  refine v_iastore hH rfl oF (by decide) (by decide) (by decide) (fun _ => rfl) (by first | omega | (simp only [Int.toNat_natCast, upF_2] at *; omega)) (by first | omega | (simp only [Int.toNat_natCast, upF_2] at *; omega)) (by decide) ?_
  intro H eH hH
  rw [mkQ_8, Int.toNat_natCast] at hH
  refine w_aload_n rfl rfl ?_
  refine w_getfield rfl (VH_at hH oQ (by decide) (by decide) (by decide)) rfl ?_
  rw [p2]
  refine w_iload_n rfl rfl ?_
  refine w_iconst rfl ?_
  refine v_iastore hH rfl oM (by decide) (by decide) (by decide) (fun _ => rfl) (by first | omega | (simp only [Int.toNat_natCast, upF_2] at *; omega)) (by first | omega | (simp only [Int.toNat_natCast, upF_2] at *; omega)) (by decide) ?_
  intro H eH hH
  rw [mkQ_9, Int.toNat_natCast] at hH
  refine w_aload_n rfl rfl ?_
  refine w_getfield rfl (VH_at hH oQ (by decide) (by decide) (by decide)) rfl ?_
  rw [p3]
  refine w_iload_n rfl rfl ?_
  refine w_iconst rfl ?_
  refine v_zastore hH rfl oL (by decide) (by decide) (by decide) (fun _ => rfl) (by first | omega | (simp only [Int.toNat_natCast, upF_2] at *; omega)) (by first | omega | (simp only [Int.toNat_natCast, upF_2] at *; omega)) (by decide) (Or.inl rfl) ?_
  intro H eH hH
  rw [mkQ_10, Int.toNat_natCast] at hH
  refine w_return rfl rfl ?_
  exact ⟨rfl, hH⟩
theorem upB_s (f : Nat → Int) (x : Int) (k : Nat) : upB (fun j => if j < k then x else f j) k x = fun j => if j < k + 1 then x else f j := by
  funext j
  unfold upB
  by_cases e : j = k
  · rw [if_pos e, if_pos (by omega)]
  · rw [if_neg e]
    dsimp only
    by_cases e2 : j < k
    · rw [if_pos e2, if_pos (by omega)]
    · rw [if_neg e2, if_neg (by omega)]
theorem V_qcl_l (d : Nat) (hd : 1 ≤ d) (hQ : QI b c V0 Q0 F0 M0 L0) : ∀ (m k : Nat) (H : AH), k + m = 256 → VH b V0 Z g (mkQ c th cl lc rc (fun j => if j < k then -1 else fa j) (fun j => if j < k then 0 else ms j) (fun j => if j < k then 0 else lo j)) nc ns cap fi bl (ρ.2 30 0) ls H → Wp b L xs d mi_10 22 [some (.ref Q0), some (vI k)] [] H (fun h' o => o = .inl none ∧ VH b V0 Z g (mkQ c th cl lc rc (fun j => if j < 256 then -1 else fa j) (fun j => if j < 256 then 0 else ms j) (fun j => if j < 256 then 0 else lo j)) nc ns cap fi bl (ρ.2 30 0) ls h') := by
  have hQ0 := hQ
  obtain ⟨oQ, q0, q1, q2, q3, oF, oM, oL, hFb, hMb⟩ := hQ
  have p0 : ∀ th cl lc rc fa ms lo, (mkQ c th cl lc rc fa ms lo).2.1 7 0 0 = .ref V0 := fun _ _ _ _ _ _ _ => q0
  have p1 : ∀ th cl lc rc fa ms lo, (mkQ c th cl lc rc fa ms lo).2.1 7 0 1 = .ref F0 := fun _ _ _ _ _ _ _ => q1
  have p2 : ∀ th cl lc rc fa ms lo, (mkQ c th cl lc rc fa ms lo).2.1 7 0 2 = .ref M0 := fun _ _ _ _ _ _ _ => q2
  have p3 : ∀ th cl lc rc fa ms lo, (mkQ c th cl lc rc fa ms lo).2.1 7 0 3 = .ref L0 := fun _ _ _ _ _ _ _ => q3
  have p5 : ∀ th cl lc rc fa ms lo, (mkQ c th cl lc rc fa ms lo).2.1 7 0 5 = vI cl := fun _ _ _ _ _ _ _ => rfl
  have p6 : ∀ th cl lc rc fa ms lo, (mkQ c th cl lc rc fa ms lo).2.1 7 0 6 = vI lc := fun _ _ _ _ _ _ _ => rfl
  have p7 : ∀ th cl lc rc fa ms lo, (mkQ c th cl lc rc fa ms lo).2.1 7 0 7 = vI rc := fun _ _ _ _ _ _ _ => rfl
  intro m
  induction m with
  | zero =>
    intro k H hk hH
    obtain rfl : k = 256 := hk
    refine w_iload_n rfl rfl ?_
    refine w_sipush rfl rfl ?_
    refine w_icge_t rfl (by omega) (by omega) (by omega) (by omega) (by first | omega | (simp only [Int.toNat_natCast, upF_2] at *; omega)) ?_
    refine w_return rfl rfl ?_
    exact ⟨rfl, hH⟩
  | succ m ih =>
    intro k H hk hH
    refine w_iload_n rfl rfl ?_
    refine w_sipush rfl rfl ?_
    refine w_icge_f rfl (by omega) (by omega) (by omega) (by omega) (by first | omega | (simp only [Int.toNat_natCast, upF_2] at *; omega)) ?_
    refine w_aload_n rfl rfl ?_
    refine w_iload_n rfl rfl ?_
    refine w_cv rfl (by decide) (by first | omega | (simp only [Int.toNat_natCast, upF_2] at *; omega)) rfl (VH_at hH oQ (by decide) (by decide) (by decide)) mt_11 (Nat.le_of_ble_eq_true rfl) (Nat.le_of_ble_eq_true rfl) (V_setN hH _ hQ0 (by omega)) ?_
    rintro _ _ ⟨rfl, hH⟩
    refine ⟨none, rfl, ?_⟩
    refine w_iinc rfl rfl (by decide) ?_
    refine w_goto rfl ?_
    rw [upB_s, upB_s, upB_s] at hH
    exact ih (k + 1) _ (by omega) hH
theorem V_qclr (hH : VH b V0 Z g (mkQ c th cl lc rc fa ms lo) nc ns cap fi bl (ρ.2 30 0) ls H) (d : Nat) (hd : 1 ≤ d) (hQ : QI b c V0 Q0 F0 M0 L0) : Wp b L xs d mi_10 0 (ent (mL mi_10) [.ref Q0]) [] H (fun h' o => o = .inl none ∧ VH b V0 Z g (mkQ c 0 0 0 0 (fun j => if j < 256 then -1 else fa j) (fun j => if j < 256 then 0 else ms j) (fun j => if j < 256 then 0 else lo j)) nc ns cap fi bl (ρ.2 30 0) ls h') := by
  have hQ0 := hQ
  obtain ⟨oQ, q0, q1, q2, q3, oF, oM, oL, hFb, hMb⟩ := hQ
  have p0 : ∀ th cl lc rc fa ms lo, (mkQ c th cl lc rc fa ms lo).2.1 7 0 0 = .ref V0 := fun _ _ _ _ _ _ _ => q0
  have p1 : ∀ th cl lc rc fa ms lo, (mkQ c th cl lc rc fa ms lo).2.1 7 0 1 = .ref F0 := fun _ _ _ _ _ _ _ => q1
  have p2 : ∀ th cl lc rc fa ms lo, (mkQ c th cl lc rc fa ms lo).2.1 7 0 2 = .ref M0 := fun _ _ _ _ _ _ _ => q2
  have p3 : ∀ th cl lc rc fa ms lo, (mkQ c th cl lc rc fa ms lo).2.1 7 0 3 = .ref L0 := fun _ _ _ _ _ _ _ => q3
  have p5 : ∀ th cl lc rc fa ms lo, (mkQ c th cl lc rc fa ms lo).2.1 7 0 5 = vI cl := fun _ _ _ _ _ _ _ => rfl
  have p6 : ∀ th cl lc rc fa ms lo, (mkQ c th cl lc rc fa ms lo).2.1 7 0 6 = vI lc := fun _ _ _ _ _ _ _ => rfl
  have p7 : ∀ th cl lc rc fa ms lo, (mkQ c th cl lc rc fa ms lo).2.1 7 0 7 = vI rc := fun _ _ _ _ _ _ _ => rfl
  refine w_aload_n rfl rfl ?_
  refine w_iconst rfl ?_
  refine v_put hH rfl oQ (by decide) (by decide) (by decide) rfl rfl rfl rfl ?_
  intro H eH hH
  rw [mkQ_7 _ _ _ _ _ _ _ _ (qfl_4 _ _ _ _ _ _)] at hH
  refine w_aload_n rfl rfl ?_
  refine w_iconst rfl ?_
  refine v_put hH rfl oQ (by decide) (by decide) (by decide) rfl rfl rfl rfl ?_
  intro H eH hH
  rw [mkQ_7 _ _ _ _ _ _ _ _ (qfl_5 _ _ _ _ _ _)] at hH
  refine w_aload_n rfl rfl ?_
  refine w_iconst rfl ?_
  refine v_put hH rfl oQ (by decide) (by decide) (by decide) rfl rfl rfl rfl ?_
  intro H eH hH
  rw [mkQ_7 _ _ _ _ _ _ _ _ (qfl_6 _ _ _ _ _ _)] at hH
  refine w_aload_n rfl rfl ?_
  refine w_iconst rfl ?_
  refine v_put hH rfl oQ (by decide) (by decide) (by decide) rfl rfl rfl rfl ?_
  intro H eH hH
  rw [mkQ_7 _ _ _ _ _ _ _ _ (qfl_7 _ _ _ _ _ _)] at hH
  refine w_iconst rfl ?_
  refine w_istore_n rfl (by decide) ?_
  refine V_qcl_l d hd hQ0 256 0 _ rfl ?_
  rw [show (fun j => if j < 0 then (-1 : Int) else fa j) = fa from by funext j; rw [if_neg (by omega)], show (fun j => if j < 0 then (0 : Int) else ms j) = ms from by funext j; rw [if_neg (by omega)], show (fun j => if j < 0 then (0 : Int) else lo j) = lo from by funext j; rw [if_neg (by omega)]]
  exact hH
theorem V_bbn (hH : VH b V0 Z g (mkQ c th cl lc rc fa ms lo) nc ns cap fi bl (ρ.2 30 0) ls H) (d : Nat) (hd : 1 ≤ d) {e : Nat} (hDo : DumpOk ρ e) (f2 : ρ.2 13 0 (e + 1) ≤ 4000) (hD : DmIs c ρ da cn e) : Wp b L xs d mi_49 0 (ent (mL mi_49) [.ref (da e)]) [] H (Rt H (vI (2 + nix ρ e))) := by
  obtain ⟨-, -, -, -, -, -, -, u1, u2, u3, u4, -⟩ := hDo
  obtain ⟨oD, d0, d1, d2, d3, d4, d5, d6, d7⟩ := hD
  have x3 : ∀ th cl lc rc fa ms lo, (mkQ c th cl lc rc fa ms lo).2.1 14 e 3 = va_rf (if ρ.2 12 0 e < 0 then none else some (da (ρ.2 12 0 e).toNat)) := fun _ _ _ _ _ _ _ => d3
  have x4 : ∀ th cl lc rc fa ms lo, (mkQ c th cl lc rc fa ms lo).2.1 14 e 4 = vI (cn e) := fun _ _ _ _ _ _ _ => d4
  have x5 : ∀ th cl lc rc fa ms lo, (mkQ c th cl lc rc fa ms lo).2.1 14 e 5 = vI (ρ.2 14 0 (e + 1) - ρ.2 14 0 e) := fun _ _ _ _ _ _ _ => d5
  have x6 : ∀ th cl lc rc fa ms lo, (mkQ c th cl lc rc fa ms lo).2.1 14 e 6 = vI (ρ.2 13 0 e) := fun _ _ _ _ _ _ _ => d6
  have x7 : ∀ th cl lc rc fa ms lo, (mkQ c th cl lc rc fa ms lo).2.1 14 e 7 = vI (ρ.2 13 0 (e + 1) - ρ.2 13 0 e) := fun _ _ _ _ _ _ _ => d7
  refine w_iconst rfl ?_
  refine w_aload_n rfl rfl ?_
  refine w_getfield rfl (VH_at hH oD (by decide) (by decide) (by decide)) rfl ?_
  rw [x5]
  refine w_bipush rfl rfl ?_
  refine w_csV rfl (by decide) (by first | omega | (simp only [Int.toNat_natCast, upF_2] at *; omega)) rfl mt_50 (Nat.le_of_ble_eq_true rfl) (Nat.le_of_ble_eq_true rfl) (k_quo _ (by omega) (by omega) (by omega) (by omega)) ?_
  refine w_iadd rfl ?_
  refine w_ireturn rfl rfl ?_
  exact ⟨rfl, rfl⟩
theorem V_mapb (hH : VH b V0 Z g (mkQ c th cl lc rc fa ms lo) nc ns cap fi bl (ρ.2 30 0) ls H) (d : Nat) {e : Nat} (hD : DmIs c ρ da cn e) : Wp b L xs d mi_84 0 (ent (mL mi_84) [.ref (da e)]) [] H (Rt H (vI (ρ.2 13 0 e + 1))) := by
  obtain ⟨oD, d0, d1, d2, d3, d4, d5, d6, d7⟩ := hD
  have x3 : ∀ th cl lc rc fa ms lo, (mkQ c th cl lc rc fa ms lo).2.1 14 e 3 = va_rf (if ρ.2 12 0 e < 0 then none else some (da (ρ.2 12 0 e).toNat)) := fun _ _ _ _ _ _ _ => d3
  have x4 : ∀ th cl lc rc fa ms lo, (mkQ c th cl lc rc fa ms lo).2.1 14 e 4 = vI (cn e) := fun _ _ _ _ _ _ _ => d4
  have x5 : ∀ th cl lc rc fa ms lo, (mkQ c th cl lc rc fa ms lo).2.1 14 e 5 = vI (ρ.2 14 0 (e + 1) - ρ.2 14 0 e) := fun _ _ _ _ _ _ _ => d5
  have x6 : ∀ th cl lc rc fa ms lo, (mkQ c th cl lc rc fa ms lo).2.1 14 e 6 = vI (ρ.2 13 0 e) := fun _ _ _ _ _ _ _ => d6
  have x7 : ∀ th cl lc rc fa ms lo, (mkQ c th cl lc rc fa ms lo).2.1 14 e 7 = vI (ρ.2 13 0 (e + 1) - ρ.2 13 0 e) := fun _ _ _ _ _ _ _ => d7
  refine w_aload_n rfl rfl ?_
  refine w_getfield rfl (VH_at hH oD (by decide) (by decide) (by decide)) rfl ?_
  rw [x6]
  refine w_iconst rfl ?_
  refine w_iadd rfl ?_
  refine w_ireturn rfl rfl ?_
  exact ⟨rfl, rfl⟩
theorem V_fib (hH : VH b V0 Z g (mkQ c th cl lc rc fa ms lo) nc ns cap fi bl (ρ.2 30 0) ls H) (d : Nat) {e : Nat} (hD : DmIs c ρ da cn e) : Wp b L xs d mi_87 0 (ent (mL mi_87) [.ref (da e)]) [] H (Rt H (vI (ρ.2 13 0 e + 2))) := by
  obtain ⟨oD, d0, d1, d2, d3, d4, d5, d6, d7⟩ := hD
  have x3 : ∀ th cl lc rc fa ms lo, (mkQ c th cl lc rc fa ms lo).2.1 14 e 3 = va_rf (if ρ.2 12 0 e < 0 then none else some (da (ρ.2 12 0 e).toNat)) := fun _ _ _ _ _ _ _ => d3
  have x4 : ∀ th cl lc rc fa ms lo, (mkQ c th cl lc rc fa ms lo).2.1 14 e 4 = vI (cn e) := fun _ _ _ _ _ _ _ => d4
  have x5 : ∀ th cl lc rc fa ms lo, (mkQ c th cl lc rc fa ms lo).2.1 14 e 5 = vI (ρ.2 14 0 (e + 1) - ρ.2 14 0 e) := fun _ _ _ _ _ _ _ => d5
  have x6 : ∀ th cl lc rc fa ms lo, (mkQ c th cl lc rc fa ms lo).2.1 14 e 6 = vI (ρ.2 13 0 e) := fun _ _ _ _ _ _ _ => d6
  have x7 : ∀ th cl lc rc fa ms lo, (mkQ c th cl lc rc fa ms lo).2.1 14 e 7 = vI (ρ.2 13 0 (e + 1) - ρ.2 13 0 e) := fun _ _ _ _ _ _ _ => d7
  refine w_aload_n rfl rfl ?_
  refine w_getfield rfl (VH_at hH oD (by decide) (by decide) (by decide)) rfl ?_
  rw [x6]
  refine w_iconst rfl ?_
  refine w_iadd rfl ?_
  refine w_ireturn rfl rfl ?_
  exact ⟨rfl, rfl⟩
end Cq1
