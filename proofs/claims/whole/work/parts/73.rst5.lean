/-! what is restored: looked at -/
theorem sumC_add (ρ : RS) : ∀ (m s n : Nat), sumC ρ s (m + n) = sumC ρ s m + sumC ρ (s + m) n
  | 0, s, n => by rw [Nat.zero_add, Nat.add_zero]; exact (Int.zero_add _).symm
  | m + 1, s, n => by
    rw [show m + 1 + n = (m + n) + 1 by omega]
    show 1 + cont ρ s + sumC ρ (s + 1) (m + n) = 1 + cont ρ s + sumC ρ (s + 1) m + sumC ρ (s + (m + 1)) n
    rw [sumC_add ρ m (s + 1) n, show s + 1 + m = s + (m + 1) by omega]
    omega
def RecAt (ρ : RS) (E r a : Nat) : Prop := ∃ e m : Nat, e < E ∧ (m : Int) < ρ.2 14 0 (e + 1) - ρ.2 14 0 e ∧ r = (ρ.2 14 0 e).toNat + m ∧ (a : Int) = ρ.2 13 0 e + (2 + nix ρ e) + sumC ρ (ρ.2 14 0 e).toNat m
theorem nd_read {ρ : RS} {E r a fi : Nat} {bl : Nat → Nat → Int} (hK : KB ρ E bl) (hDk : DumpsOk ρ E) (hf : ∀ e, e < E → ρ.2 13 0 (e + 1) ≤ fi) (hA : RecAt ρ E r a) : RecOk ρ r ∧ (a : Int) + 1 + cont ρ r ≤ fi ∧ (a : Int) + 1 + cont ρ r ≤ 4000 ∧ ∀ c : Nat, (c : Int) ≤ cont ρ r → ∀ j, j < 64 → bl (a + c) j = ndB ρ r c j := by
  obtain ⟨e, m, he, hm, rfl, ha⟩ := hA
  obtain ⟨hDo, ht, h4, hs⟩ := hDk e he
  have fe := hf e he
  obtain ⟨w1, w2, w3, w4, w5, w6, u0, u1, u2, u3, u4, u5⟩ := hDo
  have hR := u5 ((ρ.2 14 0 e).toNat + m) (by omega) (by omega)
  have hc := cont_ok hR
  have n1 : 0 ≤ nix ρ e := Int.ediv_nonneg (by omega) (by decide)
  have s1 := sumC_add ρ m (ρ.2 14 0 e).toNat ((ρ.2 14 0 (e + 1) - ρ.2 14 0 e).toNat - m - 1 + 1)
  rw [show m + ((ρ.2 14 0 (e + 1) - ρ.2 14 0 e).toNat - m - 1 + 1) = (ρ.2 14 0 (e + 1) - ρ.2 14 0 e).toNat by omega] at s1
  have s2 : sumC ρ ((ρ.2 14 0 e).toNat + m) ((ρ.2 14 0 (e + 1) - ρ.2 14 0 e).toNat - m - 1 + 1) = 1 + cont ρ ((ρ.2 14 0 e).toNat + m) + sumC ρ ((ρ.2 14 0 e).toNat + m + 1) ((ρ.2 14 0 (e + 1) - ρ.2 14 0 e).toNat - m - 1) := rfl
  have s3 := (sumC_pos ((ρ.2 14 0 (e + 1) - ρ.2 14 0 e).toNat - m - 1) ((ρ.2 14 0 e).toNat + m + 1) (fun j j1 j2 => u5 j (by omega) (by omega))).1
  have s4 := (sumC_pos m (ρ.2 14 0 e).toNat (fun j j1 j2 => u5 j (by omega) (by omega))).1
  refine ⟨hR, by omega, by omega, fun c hcc j hj => ?_⟩
  have hB : BlkIs ρ e ((2 + (nix ρ e).toNat + ((sumC ρ (ρ.2 14 0 e).toNat m).toNat + c) : Nat) : Int) (ndB ρ ((ρ.2 14 0 e).toNat + m) c) := Or.inr (Or.inr (Or.inr ⟨m, c, by omega, hcc, by omega, rfl⟩))
  have := hK e _ _ he hB j hj
  rw [show (ρ.2 13 0 e).toNat + (2 + (nix ρ e).toNat + ((sumC ρ (ρ.2 14 0 e).toNat m).toNat + c)) = a + c by omega] at this
  exact this
theorem fnd2_cmp {q : Nat → Prop} [DecidablePred q] {A B nm nd : Nat → Int} {c : Int} {sz : Nat} (h : ∀ k, k < sz → q k → A (cnt q 0 k) = nm k ∧ B (cnt q 0 k) = nd k) : ∀ (m k : Nat), k + m = sz → fnd2 (fun k => A k = c) B (cnt q 0 k) (cnt q k m) = fnd2 (fun k => q k ∧ nm k = c) nd k m
  | 0, _, _ => rfl
  | m + 1, k, hk => by
    rw [cnt_pos_s]
    have ih := fnd2_cmp (c := c) h m (k + 1) (by omega)
    rw [cnt_snoc] at ih
    by_cases hq : q k
    · rw [if_pos hq] at ih ⊢
      have h1 := h k (by omega) hq
      rw [Nat.add_comm 1]
      show (if A (cnt q 0 k) = c then B (cnt q 0 k) else fnd2 (fun k => A k = c) B (cnt q 0 k + 1) (cnt q (k + 1) m)) = (if q k ∧ nm k = c then nd k else fnd2 (fun k => q k ∧ nm k = c) nd (k + 1) m)
      rw [ih, h1.1, h1.2]
      by_cases e : nm k = c
      · rw [if_pos e, if_pos ⟨hq, e⟩]
      · rw [if_neg e, if_neg (fun z => e z.2)]
    · rw [if_neg hq] at ih ⊢
      rw [Nat.zero_add]
      show _ = (if q k ∧ nm k = c then nd k else fnd2 (fun k => q k ∧ nm k = c) nd (k + 1) m)
      rw [if_neg (fun z => hq z.1)]
      exact ih
section Cq5
variable {b L V0 : Nat} {xs : Nat → Int32} {Z : Nat → Prop} {g : Nat → Option AO} {c : CS} {nc ns cap fi : Nat} {bl : Nat → Nat → Int} {ls : Nat → Int} {H : AH} {ρ : RS} {Q0 F0 M0 L0 : Nat} {th cl lc rc : Int} {fa ms lo : Nat → Int} {da cn : Nat → Nat}
variable {E : Nat}
theorem V_fact0 (hH : VH b V0 Z g (mkQ c th cl lc rc fa ms lo) nc ns cap fi bl (ρ.2 30 0) ls H) (d : Nat) (hd : 1 ≤ d) {n w : Int} (n1 : -2147483648 ≤ n) (n2 : n ≤ 2147483647) (hn : ¬ (0 ≤ n ∧ n < 256)) : Wp b L xs d mi_96 0 (ent (mL mi_96) [.ref Q0, vI n, vI w]) [] H (Rt H (vI 0)) := by
  refine w_iload_n rfl rfl ?_
  refine w_csV rfl (by decide) (by first | omega | (simp only [Int.toNat_natCast, upF_2] at *; omega)) rfl mt_18 (Nat.le_of_ble_eq_true rfl) (Nat.le_of_ble_eq_true rfl) (k_isN0 _ n1 n2 hn) ?_
  refine w_ifne_f rfl (by omega) (by omega) (by first | omega | (simp only [Int.toNat_natCast, upF_2] at *; omega)) ?_
  refine w_iconst rfl ?_
  refine w_ireturn rfl rfl ?_
  exact ⟨rfl, rfl⟩
theorem V_fact (hH : VH b V0 Z g (mkQ c th cl lc rc fa ms lo) nc ns cap fi bl (ρ.2 30 0) ls H) (d : Nat) (hd : 3 ≤ d) (hQ : QI b c V0 Q0 F0 M0 L0) {Y : YS} (hY : QY ρ fa ms lo Y) (hX : XInv ρ Y) (hA : ∀ n, n < 256 → ∀ q, (Y n).1 = some q → RecAt ρ E q.1 q.2.1) (hK : KB ρ E bl) (hDk : DumpsOk ρ E) (hf : ∀ e, e < E → ρ.2 13 0 (e + 1) ≤ fi) {n : Nat} {w : Int} (q1 : 0 ≤ w) (q2 : w ≤ 5) (hn : n < 256) : Wp b L xs d mi_96 0 (ent (mL mi_96) [.ref Q0, vI n, vI w]) [] H (Rt H (vI (rNode1 ρ n w))) := by
  obtain ⟨y1, y2⟩ := hY n hn
  obtain ⟨x1, x2⟩ := hX n hn
  obtain ⟨oQ, q0, q1, q2, q3, oF, oM, oL, hFb, hMb⟩ := hQ
  have p0 : ∀ th cl lc rc fa ms lo, (mkQ c th cl lc rc fa ms lo).2.1 7 0 0 = .ref V0 := fun _ _ _ _ _ _ _ => q0
  have p1 : ∀ th cl lc rc fa ms lo, (mkQ c th cl lc rc fa ms lo).2.1 7 0 1 = .ref F0 := fun _ _ _ _ _ _ _ => q1
  have p2 : ∀ th cl lc rc fa ms lo, (mkQ c th cl lc rc fa ms lo).2.1 7 0 2 = .ref M0 := fun _ _ _ _ _ _ _ => q2
  have p3 : ∀ th cl lc rc fa ms lo, (mkQ c th cl lc rc fa ms lo).2.1 7 0 3 = .ref L0 := fun _ _ _ _ _ _ _ => q3
  have p5 : ∀ th cl lc rc fa ms lo, (mkQ c th cl lc rc fa ms lo).2.1 7 0 5 = vI cl := fun _ _ _ _ _ _ _ => rfl
  have p6 : ∀ th cl lc rc fa ms lo, (mkQ c th cl lc rc fa ms lo).2.1 7 0 6 = vI lc := fun _ _ _ _ _ _ _ => rfl
  have p7 : ∀ th cl lc rc fa ms lo, (mkQ c th cl lc rc fa ms lo).2.1 7 0 7 = vI rc := fun _ _ _ _ _ _ _ => rfl
  have pf : (mkQ c th cl lc rc fa ms lo).2.1 8 0 (n : Int).toNat = vI (fa n) := by rw [Int.toNat_natCast]; rfl
  have pm : (mkQ c th cl lc rc fa ms lo).2.1 9 0 (n : Int).toNat = vI (ms n) := by rw [Int.toNat_natCast]; rfl
  have pl : (mkQ c th cl lc rc fa ms lo).2.1 10 0 (n : Int).toNat = vI (lo n) := by rw [Int.toNat_natCast]; rfl
  by_cases e5 : w = 5
  · subst e5
    have e1 : rNode1 ρ n 5 = (if ρ.2 38 0 n = 0 then 0 else 1) := by
      unfold rNode1
      rw [if_neg (by decide), if_pos rfl]
    rw [e1, x1]
    by_cases q : (Y n).2 = true
    · rw [if_pos q] at y1 ⊢
      refine w_iload_n rfl rfl ?_
      refine w_csV rfl (by decide) (by first | omega | (simp only [Int.toNat_natCast, upF_2] at *; omega)) rfl mt_18 (Nat.le_of_ble_eq_true rfl) (Nat.le_of_ble_eq_true rfl) (k_isN1 _ (by omega) (by omega)) ?_
      refine w_ifne_t rfl (by omega) (by omega) (by first | omega | (simp only [Int.toNat_natCast, upF_2] at *; omega)) ?_
      refine w_iload_n rfl rfl ?_
      refine w_iconst rfl ?_
      refine w_icne_f rfl (by omega) (by omega) (by omega) (by omega) (by first | omega | (simp only [Int.toNat_natCast, upF_2] at *; omega)) ?_
      refine w_aload_n rfl rfl ?_
      refine w_getfield rfl (VH_at hH oQ (by decide) (by decide) (by decide)) rfl ?_
      rw [p3]
      refine w_iload_n rfl rfl ?_
      refine v_baload hH rfl oL (by decide) (by decide) (by decide) rfl (by decide) (by first | omega | (simp only [Int.toNat_natCast, upF_2] at *; omega)) (by first | omega | (simp only [Int.toNat_natCast, upF_2] at *; omega)) (by decide) pl ?_
      refine w_ifeq_f rfl (by omega) (by omega) (by first | omega | (simp only [Int.toNat_natCast, upF_2] at *; omega)) ?_
      refine w_iconst rfl ?_
      refine w_goto rfl ?_
      refine w_ireturn rfl rfl ?_
      exact ⟨rfl, rfl⟩
    · rw [if_neg q] at y1 ⊢
      refine w_iload_n rfl rfl ?_
      refine w_csV rfl (by decide) (by first | omega | (simp only [Int.toNat_natCast, upF_2] at *; omega)) rfl mt_18 (Nat.le_of_ble_eq_true rfl) (Nat.le_of_ble_eq_true rfl) (k_isN1 _ (by omega) (by omega)) ?_
      refine w_ifne_t rfl (by omega) (by omega) (by first | omega | (simp only [Int.toNat_natCast, upF_2] at *; omega)) ?_
      refine w_iload_n rfl rfl ?_
      refine w_iconst rfl ?_
      refine w_icne_f rfl (by omega) (by omega) (by omega) (by omega) (by first | omega | (simp only [Int.toNat_natCast, upF_2] at *; omega)) ?_
      refine w_aload_n rfl rfl ?_
      refine w_getfield rfl (VH_at hH oQ (by decide) (by decide) (by decide)) rfl ?_
      rw [p3]
      refine w_iload_n rfl rfl ?_
      refine v_baload hH rfl oL (by decide) (by decide) (by decide) rfl (by decide) (by first | omega | (simp only [Int.toNat_natCast, upF_2] at *; omega)) (by first | omega | (simp only [Int.toNat_natCast, upF_2] at *; omega)) (by decide) pl ?_
      refine w_ifeq_t rfl (by omega) (by omega) (by first | omega | (simp only [Int.toNat_natCast, upF_2] at *; omega)) ?_
      refine w_iconst rfl ?_
      refine w_ireturn rfl rfl ?_
      exact ⟨rfl, rfl⟩
  cases hy : (Y n).1 with
  | none =>
    rw [hy] at x2 y2
    have x2 : ρ.2 32 0 n = 0 := x2
    have y2 : fa n = -1 := y2
    have e1 : rNode1 ρ n w = 0 := by
      unfold rNode1
      rw [x2, if_neg e5, if_pos rfl]
      split <;> rfl
    rw [e1]
    refine w_iload_n rfl rfl ?_
    refine w_csV rfl (by decide) (by first | omega | (simp only [Int.toNat_natCast, upF_2] at *; omega)) rfl mt_18 (Nat.le_of_ble_eq_true rfl) (Nat.le_of_ble_eq_true rfl) (k_isN1 _ (by omega) (by omega)) ?_
    refine w_ifne_t rfl (by omega) (by omega) (by first | omega | (simp only [Int.toNat_natCast, upF_2] at *; omega)) ?_
    refine w_iload_n rfl rfl ?_
    refine w_iconst rfl ?_
    refine w_icne_t rfl (by omega) (by omega) (by omega) (by omega) (by first | omega | (simp only [Int.toNat_natCast, upF_2] at *; omega)) ?_
    refine w_aload_n rfl rfl ?_
    refine w_getfield rfl (VH_at hH oQ (by decide) (by decide) (by decide)) rfl ?_
    rw [p1]
    refine w_iload_n rfl rfl ?_
    refine v_iaload hH rfl hFb oF (by decide) (by decide) (by decide) rfl (by first | omega | (simp only [Int.toNat_natCast, upF_2] at *; omega)) (by first | omega | (simp only [Int.toNat_natCast, upF_2] at *; omega)) (by decide) pf ?_
    refine w_istore_n rfl (by decide) ?_
    refine w_iload_n rfl rfl ?_
    refine w_iconst rfl ?_
    refine w_icne_f rfl (by omega) (by omega) (by omega) (by omega) (by first | omega | (simp only [Int.toNat_natCast, upF_2] at *; omega)) ?_
    refine w_iconst rfl ?_
    refine w_ireturn rfl rfl ?_
    exact ⟨rfl, rfl⟩
  | some qq =>
    obtain ⟨r, a, gg⟩ := qq
    rw [hy] at x2 y2
    have x2 : XIs ρ n r gg := x2
    obtain ⟨y3, y4⟩ := y2
    have y3 : fa n = a := y3
    obtain ⟨hR, ha1, ha2, hb⟩ := nd_read hK hDk hf (show RecAt ρ E r a from hA n hn _ hy)
    have hc := cont_ok hR
    obtain ⟨c1, c2, c3, c4, c5⟩ := fcB_read hR
    obtain ⟨x3, x4, x5, x6, x7, -⟩ := x2
    have bf : ∀ j, j < 64 → bl a j = fcB ρ r j := fun j hj => hb 0 (by omega) j hj
    have kd := hR.2.2.1
    have rr := hR
    obtain ⟨a1, a2, a3, a4, a5, a6, a7, a8, a9, a10, a11, -⟩ := rr
    have kn : ¬ (ρ.2 32 0 n = 0) := by omega
    have nmc : ∀ f wd, f + wd ≤ 64 → nmL (bl a) f wd 0 = nmL (fcB ρ r) f wd 0 := fun f wd h1 => nmL_c wd f 0 (fun j j1 j2 => bf j (by omega))
    obtain rfl | rfl | rfl | rfl | rfl : w = 0 ∨ w = 1 ∨ w = 2 ∨ w = 3 ∨ w = 4 := by omega
    · have e1 : rNode1 ρ n 0 = nmL (bl a) 2 1 0 := by
        rw [nmc _ _ (by decide), nm1, c1]
        unfold rNode1; rw [if_pos rfl, x3]
      rw [e1]
      have bd : nmL (bl a) 2 1 0 ≤ 2147483647 := by rw [nmc _ _ (by decide), nm1, c1]; omega
      refine w_iload_n rfl rfl ?_
      refine w_csV rfl (by decide) (by first | omega | (simp only [Int.toNat_natCast, upF_2] at *; omega)) rfl mt_18 (Nat.le_of_ble_eq_true rfl) (Nat.le_of_ble_eq_true rfl) (k_isN1 _ (by omega) (by omega)) ?_
      refine w_ifne_t rfl (by omega) (by omega) (by first | omega | (simp only [Int.toNat_natCast, upF_2] at *; omega)) ?_
      refine w_iload_n rfl rfl ?_
      refine w_iconst rfl ?_
      refine w_icne_t rfl (by omega) (by omega) (by omega) (by omega) (by first | omega | (simp only [Int.toNat_natCast, upF_2] at *; omega)) ?_
      refine w_aload_n rfl rfl ?_
      refine w_getfield rfl (VH_at hH oQ (by decide) (by decide) (by decide)) rfl ?_
      rw [p1]
      refine w_iload_n rfl rfl ?_
      refine v_iaload hH rfl hFb oF (by decide) (by decide) (by decide) rfl (by first | omega | (simp only [Int.toNat_natCast, upF_2] at *; omega)) (by first | omega | (simp only [Int.toNat_natCast, upF_2] at *; omega)) (by decide) pf ?_
      refine w_istore_n rfl (by decide) ?_
      refine w_iload_n rfl rfl ?_
      refine w_iconst rfl ?_
      refine w_icne_t rfl (by omega) (by omega) (by omega) (by omega) (by first | omega | (simp only [Int.toNat_natCast, upF_2] at *; omega)) ?_
      refine w_iload_n rfl rfl ?_
      refine w_tsw rfl (by omega) (by omega) (by first | omega | (simp only [Int.toNat_natCast, upF_2] at *; omega)) (by first | omega | (simp only [Int.toNat_natCast, upF_2] at *; omega)) rfl ?_
      refine w_aload_n rfl rfl ?_
      refine w_getfield rfl (VH_at hH oQ (by decide) (by decide) (by decide)) rfl ?_
      rw [p0]
      refine w_iload_n rfl rfl ?_
      refine w_iconst rfl ?_
      refine w_iconst rfl ?_
      rw [y3]
      refine w_cvV rfl (by decide) (by first | omega | (simp only [Int.toNat_natCast, upF_2] at *; omega)) rfl (VH_ob hH).choose_spec mt_85 (Nat.le_of_ble_eq_true rfl) (Nat.le_of_ble_eq_true rfl) (V_num hH _ (by omega) (k := a) (at_ := 2) (wd := 1) (by omega) (by decide) bd) ?_
      refine w_ireturn rfl rfl ?_
      exact ⟨rfl, rfl⟩
    · have e1 : rNode1 ρ n 1 = nmL (bl a) 5 1 0 := by
        rw [nmc _ _ (by decide), nm1, c3]
        unfold rNode1; rw [if_neg (by decide), if_neg (by decide), if_neg kn, if_pos rfl, x4]
      rw [e1]
      have bd : nmL (bl a) 5 1 0 ≤ 2147483647 := by rw [nmc _ _ (by decide), nm1, c3]; omega
      refine w_iload_n rfl rfl ?_
      refine w_csV rfl (by decide) (by first | omega | (simp only [Int.toNat_natCast, upF_2] at *; omega)) rfl mt_18 (Nat.le_of_ble_eq_true rfl) (Nat.le_of_ble_eq_true rfl) (k_isN1 _ (by omega) (by omega)) ?_
      refine w_ifne_t rfl (by omega) (by omega) (by first | omega | (simp only [Int.toNat_natCast, upF_2] at *; omega)) ?_
      refine w_iload_n rfl rfl ?_
      refine w_iconst rfl ?_
      refine w_icne_t rfl (by omega) (by omega) (by omega) (by omega) (by first | omega | (simp only [Int.toNat_natCast, upF_2] at *; omega)) ?_
      refine w_aload_n rfl rfl ?_
      refine w_getfield rfl (VH_at hH oQ (by decide) (by decide) (by decide)) rfl ?_
      rw [p1]
      refine w_iload_n rfl rfl ?_
      refine v_iaload hH rfl hFb oF (by decide) (by decide) (by decide) rfl (by first | omega | (simp only [Int.toNat_natCast, upF_2] at *; omega)) (by first | omega | (simp only [Int.toNat_natCast, upF_2] at *; omega)) (by decide) pf ?_
      refine w_istore_n rfl (by decide) ?_
      refine w_iload_n rfl rfl ?_
      refine w_iconst rfl ?_
      refine w_icne_t rfl (by omega) (by omega) (by omega) (by omega) (by first | omega | (simp only [Int.toNat_natCast, upF_2] at *; omega)) ?_
      refine w_iload_n rfl rfl ?_
      refine w_tsw rfl (by omega) (by omega) (by first | omega | (simp only [Int.toNat_natCast, upF_2] at *; omega)) (by first | omega | (simp only [Int.toNat_natCast, upF_2] at *; omega)) rfl ?_
      refine w_aload_n rfl rfl ?_
      refine w_getfield rfl (VH_at hH oQ (by decide) (by decide) (by decide)) rfl ?_
      rw [p0]
      refine w_iload_n rfl rfl ?_
      refine w_iconst rfl ?_
      refine w_iconst rfl ?_
      rw [y3]
      refine w_cvV rfl (by decide) (by first | omega | (simp only [Int.toNat_natCast, upF_2] at *; omega)) rfl (VH_ob hH).choose_spec mt_85 (Nat.le_of_ble_eq_true rfl) (Nat.le_of_ble_eq_true rfl) (V_num hH _ (by omega) (k := a) (at_ := 5) (wd := 1) (by omega) (by decide) bd) ?_
      refine w_ireturn rfl rfl ?_
      exact ⟨rfl, rfl⟩
    · have e1 : rNode1 ρ n 2 = nmL (bl a) 3 2 0 := by
        rw [nmc _ _ (by decide), c2]
        unfold rNode1; rw [if_neg (by decide), if_neg (by decide), if_neg kn, if_neg (by decide), if_pos rfl, x5]
      rw [e1]
      have bd : nmL (bl a) 3 2 0 ≤ 2147483647 := by rw [nmc _ _ (by decide), c2]; omega
      refine w_iload_n rfl rfl ?_
      refine w_csV rfl (by decide) (by first | omega | (simp only [Int.toNat_natCast, upF_2] at *; omega)) rfl mt_18 (Nat.le_of_ble_eq_true rfl) (Nat.le_of_ble_eq_true rfl) (k_isN1 _ (by omega) (by omega)) ?_
      refine w_ifne_t rfl (by omega) (by omega) (by first | omega | (simp only [Int.toNat_natCast, upF_2] at *; omega)) ?_
      refine w_iload_n rfl rfl ?_
      refine w_iconst rfl ?_
      refine w_icne_t rfl (by omega) (by omega) (by omega) (by omega) (by first | omega | (simp only [Int.toNat_natCast, upF_2] at *; omega)) ?_
      refine w_aload_n rfl rfl ?_
      refine w_getfield rfl (VH_at hH oQ (by decide) (by decide) (by decide)) rfl ?_
      rw [p1]
      refine w_iload_n rfl rfl ?_
      refine v_iaload hH rfl hFb oF (by decide) (by decide) (by decide) rfl (by first | omega | (simp only [Int.toNat_natCast, upF_2] at *; omega)) (by first | omega | (simp only [Int.toNat_natCast, upF_2] at *; omega)) (by decide) pf ?_
      refine w_istore_n rfl (by decide) ?_
      refine w_iload_n rfl rfl ?_
      refine w_iconst rfl ?_
      refine w_icne_t rfl (by omega) (by omega) (by omega) (by omega) (by first | omega | (simp only [Int.toNat_natCast, upF_2] at *; omega)) ?_
      refine w_iload_n rfl rfl ?_
      refine w_tsw rfl (by omega) (by omega) (by first | omega | (simp only [Int.toNat_natCast, upF_2] at *; omega)) (by first | omega | (simp only [Int.toNat_natCast, upF_2] at *; omega)) rfl ?_
      refine w_aload_n rfl rfl ?_
      refine w_getfield rfl (VH_at hH oQ (by decide) (by decide) (by decide)) rfl ?_
      rw [p0]
      refine w_iload_n rfl rfl ?_
      refine w_iconst rfl ?_
      refine w_iconst rfl ?_
      rw [y3]
      refine w_cvV rfl (by decide) (by first | omega | (simp only [Int.toNat_natCast, upF_2] at *; omega)) rfl (VH_ob hH).choose_spec mt_85 (Nat.le_of_ble_eq_true rfl) (Nat.le_of_ble_eq_true rfl) (V_num hH _ (by omega) (k := a) (at_ := 3) (wd := 2) (by omega) (by decide) bd) ?_
      refine w_ireturn rfl rfl ?_
      exact ⟨rfl, rfl⟩
    · have e1 : rNode1 ρ n 3 = nmL (bl a) 6 2 0 := by
        rw [nmc _ _ (by decide), c4]
        unfold rNode1; rw [if_neg (by decide), if_neg (by decide), if_neg kn, if_neg (by decide), if_neg (by decide), if_pos rfl, x6]
      rw [e1]
      have bd : nmL (bl a) 6 2 0 ≤ 2147483647 := by rw [nmc _ _ (by decide), c4]; omega
      refine w_iload_n rfl rfl ?_
      refine w_csV rfl (by decide) (by first | omega | (simp only [Int.toNat_natCast, upF_2] at *; omega)) rfl mt_18 (Nat.le_of_ble_eq_true rfl) (Nat.le_of_ble_eq_true rfl) (k_isN1 _ (by omega) (by omega)) ?_
      refine w_ifne_t rfl (by omega) (by omega) (by first | omega | (simp only [Int.toNat_natCast, upF_2] at *; omega)) ?_
      refine w_iload_n rfl rfl ?_
      refine w_iconst rfl ?_
      refine w_icne_t rfl (by omega) (by omega) (by omega) (by omega) (by first | omega | (simp only [Int.toNat_natCast, upF_2] at *; omega)) ?_
      refine w_aload_n rfl rfl ?_
      refine w_getfield rfl (VH_at hH oQ (by decide) (by decide) (by decide)) rfl ?_
      rw [p1]
      refine w_iload_n rfl rfl ?_
      refine v_iaload hH rfl hFb oF (by decide) (by decide) (by decide) rfl (by first | omega | (simp only [Int.toNat_natCast, upF_2] at *; omega)) (by first | omega | (simp only [Int.toNat_natCast, upF_2] at *; omega)) (by decide) pf ?_
      refine w_istore_n rfl (by decide) ?_
      refine w_iload_n rfl rfl ?_
      refine w_iconst rfl ?_
      refine w_icne_t rfl (by omega) (by omega) (by omega) (by omega) (by first | omega | (simp only [Int.toNat_natCast, upF_2] at *; omega)) ?_
      refine w_iload_n rfl rfl ?_
      refine w_tsw rfl (by omega) (by omega) (by first | omega | (simp only [Int.toNat_natCast, upF_2] at *; omega)) (by first | omega | (simp only [Int.toNat_natCast, upF_2] at *; omega)) rfl ?_
      refine w_aload_n rfl rfl ?_
      refine w_getfield rfl (VH_at hH oQ (by decide) (by decide) (by decide)) rfl ?_
      rw [p0]
      refine w_iload_n rfl rfl ?_
      refine w_bipush rfl rfl ?_
      refine w_iconst rfl ?_
      rw [y3]
      refine w_cvV rfl (by decide) (by first | omega | (simp only [Int.toNat_natCast, upF_2] at *; omega)) rfl (VH_ob hH).choose_spec mt_85 (Nat.le_of_ble_eq_true rfl) (Nat.le_of_ble_eq_true rfl) (V_num hH _ (by omega) (k := a) (at_ := 6) (wd := 2) (by omega) (by decide) bd) ?_
      refine w_ireturn rfl rfl ?_
      exact ⟨rfl, rfl⟩
    · have e1 : rNode1 ρ n 4 = nmL (bl a) 8 4 0 := by
        rw [nmc _ _ (by decide), c5]
        unfold rNode1; rw [if_neg (by decide), if_neg (by decide), if_neg kn, if_neg (by decide), if_neg (by decide), if_neg (by decide), x7]
      rw [e1]
      have bd : nmL (bl a) 8 4 0 ≤ 2147483647 := by rw [nmc _ _ (by decide), c5]; omega
      refine w_iload_n rfl rfl ?_
      refine w_csV rfl (by decide) (by first | omega | (simp only [Int.toNat_natCast, upF_2] at *; omega)) rfl mt_18 (Nat.le_of_ble_eq_true rfl) (Nat.le_of_ble_eq_true rfl) (k_isN1 _ (by omega) (by omega)) ?_
      refine w_ifne_t rfl (by omega) (by omega) (by first | omega | (simp only [Int.toNat_natCast, upF_2] at *; omega)) ?_
      refine w_iload_n rfl rfl ?_
      refine w_iconst rfl ?_
      refine w_icne_t rfl (by omega) (by omega) (by omega) (by omega) (by first | omega | (simp only [Int.toNat_natCast, upF_2] at *; omega)) ?_
      refine w_aload_n rfl rfl ?_
      refine w_getfield rfl (VH_at hH oQ (by decide) (by decide) (by decide)) rfl ?_
      rw [p1]
      refine w_iload_n rfl rfl ?_
      refine v_iaload hH rfl hFb oF (by decide) (by decide) (by decide) rfl (by first | omega | (simp only [Int.toNat_natCast, upF_2] at *; omega)) (by first | omega | (simp only [Int.toNat_natCast, upF_2] at *; omega)) (by decide) pf ?_
      refine w_istore_n rfl (by decide) ?_
      refine w_iload_n rfl rfl ?_
      refine w_iconst rfl ?_
      refine w_icne_t rfl (by omega) (by omega) (by omega) (by omega) (by first | omega | (simp only [Int.toNat_natCast, upF_2] at *; omega)) ?_
      refine w_iload_n rfl rfl ?_
      refine w_tsw rfl (by omega) (by omega) (by first | omega | (simp only [Int.toNat_natCast, upF_2] at *; omega)) (by first | omega | (simp only [Int.toNat_natCast, upF_2] at *; omega)) rfl ?_
      refine w_aload_n rfl rfl ?_
      refine w_getfield rfl (VH_at hH oQ (by decide) (by decide) (by decide)) rfl ?_
      rw [p0]
      refine w_iload_n rfl rfl ?_
      refine w_bipush rfl rfl ?_
      refine w_iconst rfl ?_
      rw [y3]
      refine w_cvV rfl (by decide) (by first | omega | (simp only [Int.toNat_natCast, upF_2] at *; omega)) rfl (VH_ob hH).choose_spec mt_85 (Nat.le_of_ble_eq_true rfl) (Nat.le_of_ble_eq_true rfl) (V_num hH _ (by omega) (k := a) (at_ := 8) (wd := 4) (by omega) (by decide) bd) ?_
      refine w_ireturn rfl rfl ?_
      exact ⟨rfl, rfl⟩
theorem V_was (hH : VH b V0 Z g (mkQ c th cl lc rc fa ms lo) nc ns cap fi bl (ρ.2 30 0) ls H) (d : Nat) (hQ : QI b c V0 Q0 F0 M0 L0) {n i C : Nat} {gg : Nat → Bool} (hn : n < 256) (hi : i < C) (hC : C ≤ 13) (hm : ms n = (msk gg C : Int)) : Wp b L xs d mi_101 0 (ent (mL mi_101) [.ref Q0, vI n, vI i]) [] H (Rt H (vI (if gg i = true then 0 else 1))) := by
  obtain ⟨oQ, q0, q1, q2, q3, oF, oM, oL, hFb, hMb⟩ := hQ
  have p0 : ∀ th cl lc rc fa ms lo, (mkQ c th cl lc rc fa ms lo).2.1 7 0 0 = .ref V0 := fun _ _ _ _ _ _ _ => q0
  have p1 : ∀ th cl lc rc fa ms lo, (mkQ c th cl lc rc fa ms lo).2.1 7 0 1 = .ref F0 := fun _ _ _ _ _ _ _ => q1
  have p2 : ∀ th cl lc rc fa ms lo, (mkQ c th cl lc rc fa ms lo).2.1 7 0 2 = .ref M0 := fun _ _ _ _ _ _ _ => q2
  have p3 : ∀ th cl lc rc fa ms lo, (mkQ c th cl lc rc fa ms lo).2.1 7 0 3 = .ref L0 := fun _ _ _ _ _ _ _ => q3
  have p5 : ∀ th cl lc rc fa ms lo, (mkQ c th cl lc rc fa ms lo).2.1 7 0 5 = vI cl := fun _ _ _ _ _ _ _ => rfl
  have p6 : ∀ th cl lc rc fa ms lo, (mkQ c th cl lc rc fa ms lo).2.1 7 0 6 = vI lc := fun _ _ _ _ _ _ _ => rfl
  have p7 : ∀ th cl lc rc fa ms lo, (mkQ c th cl lc rc fa ms lo).2.1 7 0 7 = vI rc := fun _ _ _ _ _ _ _ => rfl
  have pf : (mkQ c th cl lc rc fa ms lo).2.1 8 0 (n : Int).toNat = vI (fa n) := by rw [Int.toNat_natCast]; rfl
  have pm : (mkQ c th cl lc rc fa ms lo).2.1 9 0 (n : Int).toNat = vI (ms n) := by rw [Int.toNat_natCast]; rfl
  have pl : (mkQ c th cl lc rc fa ms lo).2.1 10 0 (n : Int).toNat = vI (lo n) := by rw [Int.toNat_natCast]; rfl
  have lt := msk_lt gg C
  have pw : 2 ^ C ≤ 8192 := Nat.pow_le_pow_right (show 0 < 2 by decide) hC
  have tb := msk_bit gg C i
  rw [decide_eq_true hi, Bool.true_and, Nat.testBit_eq_decide_div_mod_eq] at tb
  rw [hm] at pm
  have e1 : ((msk gg C : Nat) : Int) / 2 ^ (i : Int).toNat % 2 = ((msk gg C / 2 ^ i % 2 : Nat) : Int) := by
    rw [Int.toNat_natCast, Int.natCast_emod, Int.natCast_ediv]
    simp
  by_cases q : gg i = true
  · rw [if_pos q]
    rw [q, decide_eq_true_eq] at tb
    refine w_aload_n rfl rfl ?_
    refine w_getfield rfl (VH_at hH oQ (by decide) (by decide) (by decide)) rfl ?_
    rw [p2]
    refine w_iload_n rfl rfl ?_
    refine v_iaload hH rfl hMb oM (by decide) (by decide) (by decide) rfl (by first | omega | (simp only [Int.toNat_natCast, upF_2] at *; omega)) (by first | omega | (simp only [Int.toNat_natCast, upF_2] at *; omega)) (by decide) pm ?_
    refine w_iload_n rfl rfl ?_
    refine w_ishr rfl (by omega) (by omega) (by omega) (by omega) ?_
    refine w_iconst rfl ?_
    refine w_and1 rfl ?_
    rw [e1, tb]
    refine w_ifne_t rfl (by omega) (by omega) (by first | omega | (simp only [Int.toNat_natCast, upF_2] at *; omega)) ?_
    refine w_iconst rfl ?_
    refine w_zreturn rfl rfl (by first | omega | (simp only [Int.toNat_natCast, upF_2] at *; omega)) ?_
    exact ⟨rfl, rfl⟩
  · rw [if_neg q]
    have q2 : gg i = false := by simpa using q
    rw [q2, decide_eq_false_iff_not] at tb
    have tb2 : msk gg C / 2 ^ i % 2 = 0 := by omega
    refine w_aload_n rfl rfl ?_
    refine w_getfield rfl (VH_at hH oQ (by decide) (by decide) (by decide)) rfl ?_
    rw [p2]
    refine w_iload_n rfl rfl ?_
    refine v_iaload hH rfl hMb oM (by decide) (by decide) (by decide) rfl (by first | omega | (simp only [Int.toNat_natCast, upF_2] at *; omega)) (by first | omega | (simp only [Int.toNat_natCast, upF_2] at *; omega)) (by decide) pm ?_
    refine w_iload_n rfl rfl ?_
    refine w_ishr rfl (by omega) (by omega) (by omega) (by omega) ?_
    refine w_iconst rfl ?_
    refine w_and1 rfl ?_
    rw [e1, tb2]
    refine w_ifne_f rfl (by omega) (by omega) (by first | omega | (simp only [Int.toNat_natCast, upF_2] at *; omega)) ?_
    refine w_iconst rfl ?_
    refine w_goto rfl ?_
    refine w_zreturn rfl rfl (by first | omega | (simp only [Int.toNat_natCast, upF_2] at *; omega)) ?_
    exact ⟨rfl, rfl⟩
theorem V_rocs (hH : VH b V0 Z g (mkQ c th cl lc rc fa ms lo) nc ns cap fi bl (ρ.2 30 0) ls H) (d : Nat) (hd : 3 ≤ d) (hQ : QI b c V0 Q0 F0 M0 L0) {Y : YS} (hY : QY ρ fa ms lo Y) (hX : XInv ρ Y) (hA : ∀ n, n < 256 → ∀ q, (Y n).1 = some q → RecAt ρ E q.1 q.2.1) (hK : KB ρ E bl) (hDk : DumpsOk ρ E) (hf : ∀ e, e < E → ρ.2 13 0 (e + 1) ≤ fi) {n k : Nat} (hn : n < 256) (hk1 : ρ.2 32 0 n = 1) (hk : (k : Int) < ρ.2 35 0 n) : Wp b L xs d mi_100 0 (ent (mL mi_100) [.ref Q0, vI n, vI k]) [] H (Rt H (vI (ρ.2 39 n k % 256))) := by
  have hQ0 := hQ
  obtain ⟨y1, y2⟩ := hY n hn
  obtain ⟨x1, x2⟩ := hX n hn
  obtain ⟨oQ, q0, q1, q2, q3, oF, oM, oL, hFb, hMb⟩ := hQ
  have p0 : ∀ th cl lc rc fa ms lo, (mkQ c th cl lc rc fa ms lo).2.1 7 0 0 = .ref V0 := fun _ _ _ _ _ _ _ => q0
  have p1 : ∀ th cl lc rc fa ms lo, (mkQ c th cl lc rc fa ms lo).2.1 7 0 1 = .ref F0 := fun _ _ _ _ _ _ _ => q1
  have p2 : ∀ th cl lc rc fa ms lo, (mkQ c th cl lc rc fa ms lo).2.1 7 0 2 = .ref M0 := fun _ _ _ _ _ _ _ => q2
  have p3 : ∀ th cl lc rc fa ms lo, (mkQ c th cl lc rc fa ms lo).2.1 7 0 3 = .ref L0 := fun _ _ _ _ _ _ _ => q3
  have p5 : ∀ th cl lc rc fa ms lo, (mkQ c th cl lc rc fa ms lo).2.1 7 0 5 = vI cl := fun _ _ _ _ _ _ _ => rfl
  have p6 : ∀ th cl lc rc fa ms lo, (mkQ c th cl lc rc fa ms lo).2.1 7 0 6 = vI lc := fun _ _ _ _ _ _ _ => rfl
  have p7 : ∀ th cl lc rc fa ms lo, (mkQ c th cl lc rc fa ms lo).2.1 7 0 7 = vI rc := fun _ _ _ _ _ _ _ => rfl
  have pf : (mkQ c th cl lc rc fa ms lo).2.1 8 0 (n : Int).toNat = vI (fa n) := by rw [Int.toNat_natCast]; rfl
  have pm : (mkQ c th cl lc rc fa ms lo).2.1 9 0 (n : Int).toNat = vI (ms n) := by rw [Int.toNat_natCast]; rfl
  have pl : (mkQ c th cl lc rc fa ms lo).2.1 10 0 (n : Int).toNat = vI (lo n) := by rw [Int.toNat_natCast]; rfl
  cases hy : (Y n).1 with
  | none =>
    rw [hy] at x2
    have x2 : ρ.2 32 0 n = 0 := x2
    omega
  | some qq =>
    obtain ⟨r, a, gg⟩ := qq
    rw [hy] at x2 y2
    have x2 : XIs ρ n r gg := x2
    obtain ⟨y3, y4⟩ := y2
    have y3 : fa n = a := y3
    obtain ⟨hR, ha1, ha2, hb⟩ := nd_read hK hDk hf (show RecAt ρ E r a from hA n hn _ hy)
    have hc := cont_ok hR
    obtain ⟨x3, x4, x5, x6, x7, x8, -⟩ := x2
    have kr : ρ.2 18 0 r = 1 := by omega
    have x9 := x8 kr k (by omega)
    have ce : cont ρ r = (ρ.2 21 0 r + 63) / 64 := by unfold cont pts; rw [if_pos kr]; omega
    have sz : ρ.2 21 0 r ≤ 512 := hR.2.2.2.2.2.2.2.2.1
    have e1 : (k : Int) / 64 = ((k / 64 : Nat) : Int) := by omega
    have wr := V_was (L := L) (xs := xs) hH (d - 1) hQ0 (n := n) (i := k / 64) (C := (cont ρ r).toNat) hn (by omega) (by omega) y4
    rw [x9]
    by_cases q : gg (k / 64) = true
    · rw [if_pos q] at wr ⊢
      refine w_iload_n rfl rfl ?_
      refine w_csV rfl (by decide) (by first | omega | (simp only [Int.toNat_natCast, upF_2] at *; omega)) rfl mt_18 (Nat.le_of_ble_eq_true rfl) (Nat.le_of_ble_eq_true rfl) (k_isN1 _ (by omega) (by omega)) ?_
      refine w_ifeq_f rfl (by omega) (by omega) (by first | omega | (simp only [Int.toNat_natCast, upF_2] at *; omega)) ?_
      refine w_aload_n rfl rfl ?_
      refine w_getfield rfl (VH_at hH oQ (by decide) (by decide) (by decide)) rfl ?_
      rw [p1]
      refine w_iload_n rfl rfl ?_
      refine v_iaload hH rfl hFb oF (by decide) (by decide) (by decide) rfl (by first | omega | (simp only [Int.toNat_natCast, upF_2] at *; omega)) (by first | omega | (simp only [Int.toNat_natCast, upF_2] at *; omega)) (by decide) pf ?_
      refine w_iconst rfl ?_
      refine w_icne_t rfl (by omega) (by omega) (by omega) (by omega) (by first | omega | (simp only [Int.toNat_natCast, upF_2] at *; omega)) ?_
      refine w_iload_n rfl rfl ?_
      refine w_bipush rfl rfl ?_
      refine w_idiv rfl (by first | omega | (simp only [Int.toNat_natCast, upF_2] at *; omega)) (by first | omega | (simp only [Int.toNat_natCast, upF_2] at *; omega)) (by first | omega | (simp only [Int.toNat_natCast, upF_2] at *; omega)) (by first | omega | (simp only [Int.toNat_natCast, upF_2] at *; omega)) ?_
      rw [e1]
      refine w_istore_n rfl (by decide) ?_
      refine w_aload_n rfl rfl ?_
      refine w_iload_n rfl rfl ?_
      refine w_iload_n rfl rfl ?_
      refine w_cvV rfl (by decide) (by first | omega | (simp only [Int.toNat_natCast, upF_2] at *; omega)) rfl (VH_at hH oQ (by decide) (by decide) (by decide)) mt_101 (Nat.le_of_ble_eq_true rfl) (Nat.le_of_ble_eq_true rfl) wr ?_
      refine w_ifeq_t rfl (by omega) (by omega) (by first | omega | (simp only [Int.toNat_natCast, upF_2] at *; omega)) ?_
      refine w_iconst rfl ?_
      refine w_ireturn rfl rfl ?_
      exact ⟨rfl, rfl⟩
    · rw [if_neg q] at wr ⊢
      have bv : bl (a + (k / 64 + 1)) (k % 64) = ρ.2 24 0 ((ρ.2 23 0 r).toNat + k) % 256 := by
        rw [hb (k / 64 + 1) (by omega) _ (by omega)]
        unfold ndB
        rw [if_neg (by omega), if_pos kr, Nat.add_sub_cancel]
        have := ocB_at (fun i => ρ.2 24 0 ((ρ.2 23 0 r).toNat + i) % 256) zB 0 (64 * (k / 64)) (min (ρ.2 21 0 r).toNat (64 * (k / 64 + 1)) - 64 * (k / 64)) (k % 64) (by omega)
        rw [Nat.zero_add, show 64 * (k / 64) + k % 64 = k by omega] at this
        rw [this]
        omega
      rw [← bv]
      refine w_iload_n rfl rfl ?_
      refine w_csV rfl (by decide) (by first | omega | (simp only [Int.toNat_natCast, upF_2] at *; omega)) rfl mt_18 (Nat.le_of_ble_eq_true rfl) (Nat.le_of_ble_eq_true rfl) (k_isN1 _ (by omega) (by omega)) ?_
      refine w_ifeq_f rfl (by omega) (by omega) (by first | omega | (simp only [Int.toNat_natCast, upF_2] at *; omega)) ?_
      refine w_aload_n rfl rfl ?_
      refine w_getfield rfl (VH_at hH oQ (by decide) (by decide) (by decide)) rfl ?_
      rw [p1]
      refine w_iload_n rfl rfl ?_
      refine v_iaload hH rfl hFb oF (by decide) (by decide) (by decide) rfl (by first | omega | (simp only [Int.toNat_natCast, upF_2] at *; omega)) (by first | omega | (simp only [Int.toNat_natCast, upF_2] at *; omega)) (by decide) pf ?_
      refine w_iconst rfl ?_
      refine w_icne_t rfl (by omega) (by omega) (by omega) (by omega) (by first | omega | (simp only [Int.toNat_natCast, upF_2] at *; omega)) ?_
      refine w_iload_n rfl rfl ?_
      refine w_bipush rfl rfl ?_
      refine w_idiv rfl (by first | omega | (simp only [Int.toNat_natCast, upF_2] at *; omega)) (by first | omega | (simp only [Int.toNat_natCast, upF_2] at *; omega)) (by first | omega | (simp only [Int.toNat_natCast, upF_2] at *; omega)) (by first | omega | (simp only [Int.toNat_natCast, upF_2] at *; omega)) ?_
      rw [e1]
      refine w_istore_n rfl (by decide) ?_
      refine w_aload_n rfl rfl ?_
      refine w_iload_n rfl rfl ?_
      refine w_iload_n rfl rfl ?_
      refine w_cvV rfl (by decide) (by first | omega | (simp only [Int.toNat_natCast, upF_2] at *; omega)) rfl (VH_at hH oQ (by decide) (by decide) (by decide)) mt_101 (Nat.le_of_ble_eq_true rfl) (Nat.le_of_ble_eq_true rfl) wr ?_
      refine w_ifeq_f rfl (by omega) (by omega) (by first | omega | (simp only [Int.toNat_natCast, upF_2] at *; omega)) ?_
      refine w_aload_n rfl rfl ?_
      refine w_getfield rfl (VH_at hH oQ (by decide) (by decide) (by decide)) rfl ?_
      rw [p0]
      refine w_aload_n rfl rfl ?_
      refine w_getfield rfl (VH_at hH oQ (by decide) (by decide) (by decide)) rfl ?_
      rw [p1]
      refine w_iload_n rfl rfl ?_
      refine v_iaload hH rfl hFb oF (by decide) (by decide) (by decide) rfl (by first | omega | (simp only [Int.toNat_natCast, upF_2] at *; omega)) (by first | omega | (simp only [Int.toNat_natCast, upF_2] at *; omega)) (by decide) pf ?_
      refine w_iconst rfl ?_
      refine w_iadd rfl ?_
      refine w_iload_n rfl rfl ?_
      refine w_iadd rfl ?_
      refine w_iload_n rfl rfl ?_
      refine w_bipush rfl rfl ?_
      refine w_irem rfl (by first | omega | (simp only [Int.toNat_natCast, upF_2] at *; omega)) (by first | omega | (simp only [Int.toNat_natCast, upF_2] at *; omega)) (by first | omega | (simp only [Int.toNat_natCast, upF_2] at *; omega)) (by first | omega | (simp only [Int.toNat_natCast, upF_2] at *; omega)) ?_
      refine w_iconst rfl ?_
      rw [y3]
      refine w_cvV rfl (by decide) (by first | omega | (simp only [Int.toNat_natCast, upF_2] at *; omega)) rfl (VH_ob hH).choose_spec mt_85 (Nat.le_of_ble_eq_true rfl) (Nat.le_of_ble_eq_true rfl) (V_num1 hH _ (by omega) (k := a + (k / 64 + 1)) (at_ := k % 64) (by omega) (by omega) (by omega) (by omega)) ?_
      refine w_goto rfl ?_
      refine w_ireturn rfl rfl ?_
      exact ⟨rfl, rfl⟩
end Cq5
