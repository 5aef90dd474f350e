/-! what is restored: entries -/
section Cq6
variable {b L V0 : Nat} {xs : Nat → Int32} {Z : Nat → Prop} {g : Nat → Option AO} {c : CS} {nc ns cap fi : Nat} {bl : Nat → Nat → Int} {ls : Nat → Int} {H : AH} {ρ : RS} {Q0 F0 M0 L0 : Nat} {th cl lc rc : Int} {fa ms lo : Nat → Int} {da cn : Nat → Nat}
variable {E : Nat}
theorem V_ren_l (d : Nat) (hd : 3 ≤ d) (hH : VH b V0 Z g (mkQ c th cl lc rc fa ms lo) nc ns cap fi bl (ρ.2 30 0) ls H) (hQ : QI b c V0 Q0 F0 M0 L0) (hE : EntOk ρ) {n r a : Nat} {gg : Nat → Bool} {w : Int} (w1 : -2147483648 ≤ w) (w2 : w ≤ 2147483647) (hn : n < 256) (hR : RecOk ρ r) (kr : ρ.2 18 0 r = 2) (y3 : fa n = a) (y4 : ms n = (msk gg (cont ρ r).toNat : Int)) (ha1 : (a : Int) + 1 + cont ρ r ≤ fi) (ha2 : (a : Int) + 1 + cont ρ r ≤ 4000) (hb : ∀ c : Nat, (c : Int) ≤ cont ρ r → ∀ j, j < 64 → bl (a + c) j = ndB ρ r c j) : ∀ (m k : Nat) (v5 v6 v7 : Option Value), ((k + m : Nat) : Int) = ρ.2 21 0 r → Wp b L xs d mi_105 29 [some (.ref Q0), some (vI n), some (vI w), some (vI (ρ.2 21 0 r)), some (vI k), v5, v6, v7] [] H (Rt H (vI (fnd2 (fun k => gg (k / 21) = false ∧ ρ.2 25 0 ((ρ.2 23 0 r).toNat + k) = w) (fun k => ρ.2 26 0 ((ρ.2 23 0 r).toNat + k)) k m))) := by
  have hQ0 := hQ
  have hc := cont_ok hR
  have ce : cont ρ r = (ρ.2 21 0 r + 20) / 21 := by unfold cont pts; rw [if_neg (by rw [kr]; decide)]; omega
  have sz : ρ.2 21 0 r ≤ 255 := (hR.2.2.2.2.2.2.2.2.2.2.2.2.2 kr).2
  obtain ⟨oQ, q0, q1, q2, q3, oF, oM, oL, hFb, hMb⟩ := hQ
  have p0 : ∀ th cl lc rc fa ms lo, (mkQ c th cl lc rc fa ms lo).2.1 7 0 0 = .ref V0 := fun _ _ _ _ _ _ _ => q0
  have p1 : ∀ th cl lc rc fa ms lo, (mkQ c th cl lc rc fa ms lo).2.1 7 0 1 = .ref F0 := fun _ _ _ _ _ _ _ => q1
  have p2 : ∀ th cl lc rc fa ms lo, (mkQ c th cl lc rc fa ms lo).2.1 7 0 2 = .ref M0 := fun _ _ _ _ _ _ _ => q2
  have p3 : ∀ th cl lc rc fa ms lo, (mkQ c th cl lc rc fa ms lo).2.1 7 0 3 = .ref L0 := fun _ _ _ _ _ _ _ => q3
  have p5 : ∀ th cl lc rc fa ms lo, (mkQ c th cl lc rc fa ms lo).2.1 7 0 5 = vI cl := fun _ _ _ _ _ _ _ => rfl
  have p6 : ∀ th cl lc rc fa ms lo, (mkQ c th cl lc rc fa ms lo).2.1 7 0 6 = vI lc := fun _ _ _ _ _ _ _ => rfl
  have p7 : ∀ th cl lc rc fa ms lo, (mkQ c th cl lc rc fa ms lo).2.1 7 0 7 = vI rc := fun _ _ _ _ _ _ _ => rfl
  have pf : (mkQ c th cl lc rc fa ms lo).2.1 8 0 (n : Int).toNat = vI (fa n) := by rw [Int.toNat_natCast]; rfl
  have pm : (mkQ c th cl lc rc fa ms lo).2.1 9 0 (n : Int).toNat = vI (ms n) := by rw [Int.toNat_natCast]; rfl
  have pl : (mkQ c th cl lc rc fa ms lo).2.1 10 0 (n : Int).toNat = vI (lo n) := by rw [Int.toNat_natCast]; rfl
  intro m
  induction m with
  | zero =>
    intro k v5 v6 v7 hk
    refine w_iload rfl rfl ?_
    refine w_iload_n rfl rfl ?_
    refine w_icge_t rfl (by omega) (by omega) (by omega) (by omega) (by first | omega | (simp only [Int.toNat_natCast, upF_2] at *; omega)) ?_
    refine w_iconst rfl ?_
    refine w_ireturn rfl rfl ?_
    exact ⟨rfl, rfl⟩
  | succ m ih =>
    intro k v5 v6 v7 hk
    have hE1 := hE ((ρ.2 23 0 r).toNat + k)
    have e1 : (k : Int) / 21 = ((k / 21 : Nat) : Int) := by omega
    have e2 : (3 : Int) * ((k : Int) % 21) = ((3 * (k % 21) : Nat) : Int) := by omega
    have e3 : (a : Int) + 1 + ((k / 21 : Nat) : Int) = ((a + (k / 21 + 1) : Nat) : Int) := by omega
    have wr := V_was (L := L) (xs := xs) hH (d - 1) hQ0 (n := n) (i := k / 21) (C := (cont ρ r).toNat) hn (by omega) (by omega) y4
    have bb := hb (k / 21 + 1) (by omega)
    have en := enB_at (fun k => ρ.2 25 0 ((ρ.2 23 0 r).toNat + k)) (fun k => ρ.2 26 0 ((ρ.2 23 0 r).toNat + k)) zB 0 (21 * (k / 21)) (min (ρ.2 21 0 r).toNat (21 * (k / 21 + 1)) - 21 * (k / 21)) (k % 21) (by omega)
    rw [Nat.zero_add, show 21 * (k / 21) + k % 21 = k by omega] at en
    have nde : ∀ j, ndB ρ r (k / 21 + 1) j = enB (fun k => ρ.2 25 0 ((ρ.2 23 0 r).toNat + k)) (fun k => ρ.2 26 0 ((ρ.2 23 0 r).toNat + k)) zB 0 (21 * (k / 21)) (min (ρ.2 21 0 r).toNat (21 * (k / 21 + 1)) - 21 * (k / 21)) j := fun j => by
      unfold ndB
      rw [if_neg (by omega), if_neg (by rw [kr]; decide), Nat.add_sub_cancel]
    have g2 : nmL (bl (a + (k / 21 + 1))) (3 * (k % 21)) 2 0 = ρ.2 25 0 ((ρ.2 23 0 r).toNat + k) := by
      rw [nm2, bb _ (by omega), bb _ (by omega), nde, nde, en.1, en.2.1]
      omega
    have g1 : bl (a + (k / 21 + 1)) (3 * (k % 21) + 2) = ρ.2 26 0 ((ρ.2 23 0 r).toNat + k) := by
      rw [bb _ (by omega), nde, en.2.2]
      omega
    show Wp b L xs d mi_105 29 _ _ _ (Rt H (vI (if gg (k / 21) = false ∧ ρ.2 25 0 ((ρ.2 23 0 r).toNat + k) = w then ρ.2 26 0 ((ρ.2 23 0 r).toNat + k) else fnd2 _ _ (k + 1) m)))
    by_cases q : gg (k / 21) = true
    · rw [if_pos q] at wr
      rw [if_neg (fun z => by rw [q] at z; exact absurd z.1 (by decide))]
      refine w_iload rfl rfl ?_
      refine w_iload_n rfl rfl ?_
      refine w_icge_f rfl (by omega) (by omega) (by omega) (by omega) (by first | omega | (simp only [Int.toNat_natCast, upF_2] at *; omega)) ?_
      refine w_iload rfl rfl ?_
      refine w_bipush rfl rfl ?_
      refine w_idiv rfl (by first | omega | (simp only [Int.toNat_natCast, upF_2] at *; omega)) (by first | omega | (simp only [Int.toNat_natCast, upF_2] at *; omega)) (by first | omega | (simp only [Int.toNat_natCast, upF_2] at *; omega)) (by first | omega | (simp only [Int.toNat_natCast, upF_2] at *; omega)) ?_
      rw [e1]
      refine w_istore rfl (by decide) ?_
      refine w_aload_n rfl rfl ?_
      refine w_getfield rfl (VH_at hH oQ (by decide) (by decide) (by decide)) rfl ?_
      rw [p1]
      refine w_iload_n rfl rfl ?_
      refine v_iaload hH rfl hFb oF (by decide) (by decide) (by decide) rfl (by first | omega | (simp only [Int.toNat_natCast, upF_2] at *; omega)) (by first | omega | (simp only [Int.toNat_natCast, upF_2] at *; omega)) (by decide) pf ?_
      refine w_iconst rfl ?_
      refine w_iadd rfl ?_
      refine w_iload rfl rfl ?_
      refine w_iadd rfl ?_
      rw [y3, e3]
      refine w_istore rfl (by decide) ?_
      refine w_iconst rfl ?_
      refine w_iload rfl rfl ?_
      refine w_bipush rfl rfl ?_
      refine w_irem rfl (by first | omega | (simp only [Int.toNat_natCast, upF_2] at *; omega)) (by first | omega | (simp only [Int.toNat_natCast, upF_2] at *; omega)) (by first | omega | (simp only [Int.toNat_natCast, upF_2] at *; omega)) (by first | omega | (simp only [Int.toNat_natCast, upF_2] at *; omega)) ?_
      refine w_imul rfl ?_
      rw [e2]
      refine w_istore rfl (by decide) ?_
      refine w_aload_n rfl rfl ?_
      refine w_iload_n rfl rfl ?_
      refine w_iload rfl rfl ?_
      refine w_cvV rfl (by decide) (by first | omega | (simp only [Int.toNat_natCast, upF_2] at *; omega)) rfl (VH_at hH oQ (by decide) (by decide) (by decide)) mt_101 (Nat.le_of_ble_eq_true rfl) (Nat.le_of_ble_eq_true rfl) wr ?_
      refine w_ifeq_t rfl (by omega) (by omega) (by first | omega | (simp only [Int.toNat_natCast, upF_2] at *; omega)) ?_
      refine w_iinc rfl rfl (by decide) ?_
      refine w_goto rfl ?_
      exact ih (k + 1) _ _ _ (by omega)
    · rw [if_neg q] at wr
      have q2 : gg (k / 21) = false := by simpa using q
      by_cases qn : ρ.2 25 0 ((ρ.2 23 0 r).toNat + k) = w
      · rw [if_pos ⟨q2, qn⟩, ← g1]
        refine w_iload rfl rfl ?_
        refine w_iload_n rfl rfl ?_
        refine w_icge_f rfl (by omega) (by omega) (by omega) (by omega) (by first | omega | (simp only [Int.toNat_natCast, upF_2] at *; omega)) ?_
        refine w_iload rfl rfl ?_
        refine w_bipush rfl rfl ?_
        refine w_idiv rfl (by first | omega | (simp only [Int.toNat_natCast, upF_2] at *; omega)) (by first | omega | (simp only [Int.toNat_natCast, upF_2] at *; omega)) (by first | omega | (simp only [Int.toNat_natCast, upF_2] at *; omega)) (by first | omega | (simp only [Int.toNat_natCast, upF_2] at *; omega)) ?_
        rw [e1]
        refine w_istore rfl (by decide) ?_
        refine w_aload_n rfl rfl ?_
        refine w_getfield rfl (VH_at hH oQ (by decide) (by decide) (by decide)) rfl ?_
        rw [p1]
        refine w_iload_n rfl rfl ?_
        refine v_iaload hH rfl hFb oF (by decide) (by decide) (by decide) rfl (by first | omega | (simp only [Int.toNat_natCast, upF_2] at *; omega)) (by first | omega | (simp only [Int.toNat_natCast, upF_2] at *; omega)) (by decide) pf ?_
        refine w_iconst rfl ?_
        refine w_iadd rfl ?_
        refine w_iload rfl rfl ?_
        refine w_iadd rfl ?_
        rw [y3, e3]
        refine w_istore rfl (by decide) ?_
        refine w_iconst rfl ?_
        refine w_iload rfl rfl ?_
        refine w_bipush rfl rfl ?_
        refine w_irem rfl (by first | omega | (simp only [Int.toNat_natCast, upF_2] at *; omega)) (by first | omega | (simp only [Int.toNat_natCast, upF_2] at *; omega)) (by first | omega | (simp only [Int.toNat_natCast, upF_2] at *; omega)) (by first | omega | (simp only [Int.toNat_natCast, upF_2] at *; omega)) ?_
        refine w_imul rfl ?_
        rw [e2]
        refine w_istore rfl (by decide) ?_
        refine w_aload_n rfl rfl ?_
        refine w_iload_n rfl rfl ?_
        refine w_iload rfl rfl ?_
        refine w_cvV rfl (by decide) (by first | omega | (simp only [Int.toNat_natCast, upF_2] at *; omega)) rfl (VH_at hH oQ (by decide) (by decide) (by decide)) mt_101 (Nat.le_of_ble_eq_true rfl) (Nat.le_of_ble_eq_true rfl) wr ?_
        refine w_ifeq_f rfl (by omega) (by omega) (by first | omega | (simp only [Int.toNat_natCast, upF_2] at *; omega)) ?_
        refine w_aload_n rfl rfl ?_
        refine w_getfield rfl (VH_at hH oQ (by decide) (by decide) (by decide)) rfl ?_
        rw [p0]
        refine w_iload rfl rfl ?_
        refine w_iload rfl rfl ?_
        refine w_iconst rfl ?_
        refine w_cvV rfl (by decide) (by first | omega | (simp only [Int.toNat_natCast, upF_2] at *; omega)) rfl (VH_ob hH).choose_spec mt_85 (Nat.le_of_ble_eq_true rfl) (Nat.le_of_ble_eq_true rfl) (V_num hH _ (by omega) (k := a + (k / 21 + 1)) (at_ := 3 * (k % 21)) (wd := 2) (by omega) (by omega) (by rw [g2]; omega)) ?_
        rw [g2]
        refine w_iload_n rfl rfl ?_
        refine w_icne_f rfl (by omega) (by omega) (by omega) (by omega) (by first | omega | (simp only [Int.toNat_natCast, upF_2] at *; omega)) ?_
        refine w_aload_n rfl rfl ?_
        refine w_getfield rfl (VH_at hH oQ (by decide) (by decide) (by decide)) rfl ?_
        rw [p0]
        refine w_iload rfl rfl ?_
        refine w_iload rfl rfl ?_
        refine w_iconst rfl ?_
        refine w_iadd rfl ?_
        refine w_iconst rfl ?_
        refine w_cvV rfl (by decide) (by first | omega | (simp only [Int.toNat_natCast, upF_2] at *; omega)) rfl (VH_ob hH).choose_spec mt_85 (Nat.le_of_ble_eq_true rfl) (Nat.le_of_ble_eq_true rfl) (V_num1 hH _ (by omega) (k := a + (k / 21 + 1)) (at_ := 3 * (k % 21) + 2) (by omega) (by omega) (by omega) (by omega)) ?_
        refine w_ireturn rfl rfl ?_
        exact ⟨rfl, rfl⟩
      · rw [if_neg (fun z => qn z.2)]
        refine w_iload rfl rfl ?_
        refine w_iload_n rfl rfl ?_
        refine w_icge_f rfl (by omega) (by omega) (by omega) (by omega) (by first | omega | (simp only [Int.toNat_natCast, upF_2] at *; omega)) ?_
        refine w_iload rfl rfl ?_
        refine w_bipush rfl rfl ?_
        refine w_idiv rfl (by first | omega | (simp only [Int.toNat_natCast, upF_2] at *; omega)) (by first | omega | (simp only [Int.toNat_natCast, upF_2] at *; omega)) (by first | omega | (simp only [Int.toNat_natCast, upF_2] at *; omega)) (by first | omega | (simp only [Int.toNat_natCast, upF_2] at *; omega)) ?_
        rw [e1]
        refine w_istore rfl (by decide) ?_
        refine w_aload_n rfl rfl ?_
        refine w_getfield rfl (VH_at hH oQ (by decide) (by decide) (by decide)) rfl ?_
        rw [p1]
        refine w_iload_n rfl rfl ?_
        refine v_iaload hH rfl hFb oF (by decide) (by decide) (by decide) rfl (by first | omega | (simp only [Int.toNat_natCast, upF_2] at *; omega)) (by first | omega | (simp only [Int.toNat_natCast, upF_2] at *; omega)) (by decide) pf ?_
        refine w_iconst rfl ?_
        refine w_iadd rfl ?_
        refine w_iload rfl rfl ?_
        refine w_iadd rfl ?_
        rw [y3, e3]
        refine w_istore rfl (by decide) ?_
        refine w_iconst rfl ?_
        refine w_iload rfl rfl ?_
        refine w_bipush rfl rfl ?_
        refine w_irem rfl (by first | omega | (simp only [Int.toNat_natCast, upF_2] at *; omega)) (by first | omega | (simp only [Int.toNat_natCast, upF_2] at *; omega)) (by first | omega | (simp only [Int.toNat_natCast, upF_2] at *; omega)) (by first | omega | (simp only [Int.toNat_natCast, upF_2] at *; omega)) ?_
        refine w_imul rfl ?_
        rw [e2]
        refine w_istore rfl (by decide) ?_
        refine w_aload_n rfl rfl ?_
        refine w_iload_n rfl rfl ?_
        refine w_iload rfl rfl ?_
        refine w_cvV rfl (by decide) (by first | omega | (simp only [Int.toNat_natCast, upF_2] at *; omega)) rfl (VH_at hH oQ (by decide) (by decide) (by decide)) mt_101 (Nat.le_of_ble_eq_true rfl) (Nat.le_of_ble_eq_true rfl) wr ?_
        refine w_ifeq_f rfl (by omega) (by omega) (by first | omega | (simp only [Int.toNat_natCast, upF_2] at *; omega)) ?_
        refine w_aload_n rfl rfl ?_
        refine w_getfield rfl (VH_at hH oQ (by decide) (by decide) (by decide)) rfl ?_
        rw [p0]
        refine w_iload rfl rfl ?_
        refine w_iload rfl rfl ?_
        refine w_iconst rfl ?_
        refine w_cvV rfl (by decide) (by first | omega | (simp only [Int.toNat_natCast, upF_2] at *; omega)) rfl (VH_ob hH).choose_spec mt_85 (Nat.le_of_ble_eq_true rfl) (Nat.le_of_ble_eq_true rfl) (V_num hH _ (by omega) (k := a + (k / 21 + 1)) (at_ := 3 * (k % 21)) (wd := 2) (by omega) (by omega) (by rw [g2]; omega)) ?_
        rw [g2]
        refine w_iload_n rfl rfl ?_
        refine w_icne_t rfl (by omega) (by omega) (by omega) (by omega) (by first | omega | (simp only [Int.toNat_natCast, upF_2] at *; omega)) ?_
        refine w_iinc rfl rfl (by decide) ?_
        refine w_goto rfl ?_
        exact ih (k + 1) _ _ _ (by omega)
theorem V_ren (hH : VH b V0 Z g (mkQ c th cl lc rc fa ms lo) nc ns cap fi bl (ρ.2 30 0) ls H) (d : Nat) (hd : 4 ≤ d) (hQ : QI b c V0 Q0 F0 M0 L0) {Y : YS} (hY : QY ρ fa ms lo Y) (hX : XInv ρ Y) (hA : ∀ n, n < 256 → ∀ q, (Y n).1 = some q → RecAt ρ E q.1 q.2.1) (hK : KB ρ E bl) (hDk : DumpsOk ρ E) (hf : ∀ e, e < E → ρ.2 13 0 (e + 1) ≤ fi) (hE : EntOk ρ) {n : Nat} {w : Int} (w1 : -2147483648 ≤ w) (w2 : w ≤ 2147483647) (hn : n < 256) (hk1 : ρ.2 32 0 n = 2) : ∃ e : Nat, (e : Int) = ρ.2 37 0 n ∧ e ≤ 256 ∧ Wp b L xs d mi_105 0 (ent (mL mi_105) [.ref Q0, vI n, vI w]) [] H (Rt H (vI (fnd2 (fun k => ρ.2 40 n k = w) (fun k => ρ.2 41 n k) 0 e))) := by
  have hQ0 := hQ
  have fct := V_fact (L := L) (xs := xs) hH (d - 1) (by omega) hQ hY hX hA hK hDk hf (n := n) (w := 3) (by decide) (by decide) hn
  obtain ⟨y1, y2⟩ := hY n hn
  obtain ⟨x1, x2⟩ := hX n hn
  obtain ⟨oQ, q0, q1, q2, q3, oF, oM, oL, hFb, hMb⟩ := hQ
  have p0 : ∀ th cl lc rc fa ms lo, (mkQ c th cl lc rc fa ms lo).2.1 7 0 0 = .ref V0 := fun _ _ _ _ _ _ _ => q0
  have p1 : ∀ th cl lc rc fa ms lo, (mkQ c th cl lc rc fa ms lo).2.1 7 0 1 = .ref F0 := fun _ _ _ _ _ _ _ => q1
  have p2 : ∀ th cl lc rc fa ms lo, (mkQ c th cl lc rc fa ms lo).2.1 7 0 2 = .ref M0 := fun _ _ _ _ _ _ _ => q2
  have p3 : ∀ th cl lc rc fa ms lo, (mkQ c th cl lc rc fa ms lo).2.1 7 0 3 = .ref L0 := fun _ _ _ _ _ _ _ => q3
  have p5 : ∀ th cl lc rc fa ms lo, (mkQ c th cl lc rc fa ms lo).2.1 7 0 5 = vI cl := fun _ _ _ _ _ _ _ => rfl
  have p6 : ∀ th cl lc rc fa ms lo, (mkQ c th cl lc rc fa ms lo).2.1 7 0 6 = vI lc := fun _ _ _ _ _ _ _ => rfl
  have p7 : ∀ th cl lc rc fa ms lo, (mkQ c th cl lc rc fa ms lo).2.1 7 0 7 = vI rc := fun _ _ _ _ _ _ _ => rfl
  have pf : (mkQ c th cl lc rc fa ms lo).2.1 8 0 (n : Int).toNat = vI (fa n) := by rw [Int.toNat_natCast]; rfl
  have pm : (mkQ c th cl lc rc fa ms lo).2.1 9 0 (n : Int).toNat = vI (ms n) := by rw [Int.toNat_natCast]; rfl
  have pl : (mkQ c th cl lc rc fa ms lo).2.1 10 0 (n : Int).toNat = vI (lo n) := by rw [Int.toNat_natCast]; rfl
  cases hy : (Y n).1 with
  | none =>
    rw [hy] at x2
    have x2 : ρ.2 32 0 n = 0 := x2
    omega
  | some qq =>
    obtain ⟨r, a, gg⟩ := qq
    rw [hy] at x2 y2
    have x2 : XIs ρ n r gg := x2
    obtain ⟨y3, y4⟩ := y2
    have y3 : fa n = a := y3
    obtain ⟨hR, ha1, ha2, hb⟩ := nd_read hK hDk hf (show RecAt ρ E r a from hA n hn _ hy)
    have hc := cont_ok hR
    obtain ⟨x3, x4, x5, x6, x7, -, x8⟩ := x2
    have kr : ρ.2 18 0 r = 2 := by omega
    obtain ⟨x9, x10⟩ := x8 (by rw [kr]; decide)
    have sz0 := hR.2.2.2.2.2.2.2.1
    have sz : ρ.2 21 0 r ≤ 255 := (hR.2.2.2.2.2.2.2.2.2.2.2.2.2 kr).2
    have ec : cnt (fun k => gg (k / 21) = false) 0 (ρ.2 21 0 r).toNat ≤ (ρ.2 21 0 r).toNat := cnt_le _ _ _
    refine ⟨_, x9.symm, by omega, ?_⟩
    have cm := fnd2_cmp (q := fun k => gg (k / 21) = false) (A := fun k => ρ.2 40 n k) (B := fun k => ρ.2 41 n k) (nm := (fun k => ρ.2 25 0 ((ρ.2 23 0 r).toNat + k))) (nd := (fun k => ρ.2 26 0 ((ρ.2 23 0 r).toNat + k))) (c := w) (sz := (ρ.2 21 0 r).toNat) (fun k h1 h2 => x10 k (by omega) h2) (ρ.2 21 0 r).toNat 0 (Nat.zero_add _)
    have cm : fnd2 (fun k => ρ.2 40 n k = w) (fun k => ρ.2 41 n k) 0 (cnt (fun k => gg (k / 21) = false) 0 (ρ.2 21 0 r).toNat) = _ := cm
    rw [cm]
    have e3 : rNode1 ρ n 3 = ρ.2 21 0 r := by
      unfold rNode1
      rw [if_neg (by decide), if_neg (by decide), if_neg (by omega), if_neg (by decide), if_neg (by decide), if_pos rfl, x6]
    rw [e3] at fct
    refine w_iload_n rfl rfl ?_
    refine w_csV rfl (by decide) (by first | omega | (simp only [Int.toNat_natCast, upF_2] at *; omega)) rfl mt_18 (Nat.le_of_ble_eq_true rfl) (Nat.le_of_ble_eq_true rfl) (k_isN1 _ (by omega) (by omega)) ?_
    refine w_ifeq_f rfl (by omega) (by omega) (by first | omega | (simp only [Int.toNat_natCast, upF_2] at *; omega)) ?_
    refine w_aload_n rfl rfl ?_
    refine w_getfield rfl (VH_at hH oQ (by decide) (by decide) (by decide)) rfl ?_
    rw [p1]
    refine w_iload_n rfl rfl ?_
    refine v_iaload hH rfl hFb oF (by decide) (by decide) (by decide) rfl (by first | omega | (simp only [Int.toNat_natCast, upF_2] at *; omega)) (by first | omega | (simp only [Int.toNat_natCast, upF_2] at *; omega)) (by decide) pf ?_
    refine w_iconst rfl ?_
    refine w_icne_t rfl (by omega) (by omega) (by omega) (by omega) (by first | omega | (simp only [Int.toNat_natCast, upF_2] at *; omega)) ?_
    refine w_aload_n rfl rfl ?_
    refine w_iload_n rfl rfl ?_
    refine w_iconst rfl ?_
    refine w_cvV rfl (by decide) (by first | omega | (simp only [Int.toNat_natCast, upF_2] at *; omega)) rfl (VH_at hH oQ (by decide) (by decide) (by decide)) mt_96 (Nat.le_of_ble_eq_true rfl) (Nat.le_of_ble_eq_true rfl) fct ?_
    refine w_istore_n rfl (by decide) ?_
    refine w_iconst rfl ?_
    refine w_istore rfl (by decide) ?_
    exact V_ren_l d (by omega) hH hQ0 hE w1 w2 hn hR kr y3 y4 ha1 ha2 hb (ρ.2 21 0 r).toNat 0 _ _ _ (by omega)
end Cq6
