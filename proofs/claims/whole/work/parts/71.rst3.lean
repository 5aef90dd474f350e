/-! what is restored: nodes -/
def KB (ρ : RS) (E : Nat) (bl : Nat → Nat → Int) : Prop := ∀ (e a : Nat) (B : Nat → Int), e < E → BlkIs ρ e a B → ∀ j, j < 64 → bl ((ρ.2 13 0 e).toNat + a) j = B j
def dU (ρ : RS) (e : Nat) (x : Int) (f : Nat → Int) (k : Nat) : Nat → Int := fun n => if n < k ∧ ρ.2 15 e n = 0 then x else f n
theorem dU_1 {ρ : RS} {e k : Nat} (x : Int) (f : Nat → Int) (h : ρ.2 15 e k = 0) : upB (dU ρ e x f k) k x = dU ρ e x f (k + 1) := by
  funext n
  unfold upB dU
  by_cases e1 : n = k
  · rw [if_pos e1, if_pos ⟨by omega, by rw [e1]; exact h⟩]
  · rw [if_neg e1]
    by_cases e2 : n < k ∧ ρ.2 15 e n = 0
    · rw [if_pos e2, if_pos ⟨by omega, e2.2⟩]
    · rw [if_neg e2, if_neg (fun z => e2 ⟨by omega, z.2⟩)]
theorem dU_0 {ρ : RS} {e k : Nat} (x : Int) (f : Nat → Int) (h : ρ.2 15 e k ≠ 0) : dU ρ e x f k = dU ρ e x f (k + 1) := by
  funext n
  unfold dU
  by_cases e2 : n < k ∧ ρ.2 15 e n = 0
  · rw [if_pos e2, if_pos ⟨by omega, e2.2⟩]
  · rw [if_neg e2, if_neg (fun z => e2 ⟨by
      have : n ≠ k := fun y => h (y ▸ z.2)
      omega, z.2⟩)]
theorem dU_z (ρ : RS) (e : Nat) (x : Int) (f : Nat → Int) : dU ρ e x f 0 = f := by
  funext n
  unfold dU
  rw [if_neg (by omega)]
theorem QY_dr {ρ : RS} {fa ms lo : Nat → Int} {Y : YS} (hY : QY ρ fa ms lo Y) (e : Nat) : QY ρ (dU ρ e (-1) fa 256) (dU ρ e 0 ms 256) (dU ρ e 0 lo 256) (ydr ρ e 256 Y) := by
  intro n hn
  unfold dU ydr
  by_cases e1 : n < 256 ∧ ρ.2 15 e n = 0
  · rw [if_pos e1, if_pos e1, if_pos e1, if_pos e1]
    exact ⟨rfl, rfl⟩
  · rw [if_neg e1, if_neg e1, if_neg e1, if_neg e1]
    exact hY n hn
theorem upB_2 (f : Nat → Int) (n : Nat) (x y : Int) : upB (upB f n x) n y = upB f n y := by
  funext j
  unfold upB
  by_cases e : j = n
  · rw [if_pos e, if_pos e]
  · rw [if_neg e, if_neg e, if_neg e]
theorem upB_eq (f : Nat → Int) (n : Nat) (x : Int) : upB f n x n = x := by unfold upB; rw [if_pos rfl]
theorem upB_ne {f : Nat → Int} {n m : Nat} {x : Int} (h : m ≠ n) : upB f n x m = f m := by unfold upB; rw [if_neg h]
theorem con13 {ρ : RS} {r : Nat} (hR : RecOk ρ r) : 0 ≤ cont ρ r ∧ cont ρ r ≤ 13 := by
  obtain ⟨a1, a2, a3, a4, a5, a6, a7, a8, a9, a10, a11, a12, a13, a14⟩ := hR
  unfold cont pts
  rcases a3 with e | e
  · rw [if_pos e]
    omega
  · rw [if_neg (by rw [e]; decide)]
    have := (a14 e).2
    omega
/-- a node taken -/
theorem QY_sp {ρ : RS} {fa ms lo : Nat → Int} {Y : YS} (hY : QY ρ fa ms lo Y) {r a n : Nat} (hr : ρ.2 17 0 r = n) (hs : ρ.2 30 0 a ≠ 0) : QY ρ fa ms (upB lo n 1) (yback ρ r a Y) := by
  intro m hm
  unfold yback
  by_cases e : m = n
  · subst e
    rw [if_pos hr.symm, if_pos hs, upB_eq]
    exact ⟨rfl, (hY m hm).2⟩
  · rw [if_neg (show ¬ ((m : Int) = ρ.2 17 0 r) from fun z => e (by rw [hr] at z; omega)), upB_ne e]
    exact hY m hm
theorem QY_tk {ρ : RS} {fa ms lo : Nat → Int} {Y : YS} (hY : QY ρ fa ms lo Y) {r a n : Nat} (hr : ρ.2 17 0 r = n) (hs : ρ.2 30 0 a = 0) : QY ρ (upB fa n a) (upB ms n (msk (gone ρ a) (cont ρ r).toNat)) (upB lo n (if msk (gone ρ a) (cont ρ r).toNat = 0 then 0 else 1)) (yback ρ r a Y) := by
  intro m hm
  unfold yback
  by_cases e : m = n
  · subst e
    rw [if_pos hr.symm, if_neg (show ¬ (ρ.2 30 0 a ≠ 0) from fun z => z hs), upB_eq, upB_eq, upB_eq]
    refine ⟨?_, rfl, rfl⟩
    have h0 := msk_0 (gone ρ a) (cont ρ r).toNat
    by_cases q : msk (gone ρ a) (cont ρ r).toNat = 0
    · rw [if_pos q, if_neg (by rw [decide_eq_true_eq]; exact h0.mp q)]
    · rw [if_neg q, if_pos (by rw [decide_eq_true_eq]; exact Decidable.byContradiction (fun z => q (h0.mpr z)))]
  · rw [if_neg (show ¬ ((m : Int) = ρ.2 17 0 r) from fun z => e (by rw [hr] at z; omega)), upB_ne e, upB_ne e, upB_ne e]
    exact hY m hm
section Cq3
variable {b L V0 : Nat} {xs : Nat → Int32} {Z : Nat → Prop} {g : Nat → Option AO} {c : CS} {nc ns cap fi : Nat} {bl : Nat → Nat → Int} {ls : Nat → Int} {H : AH} {ρ : RS} {Q0 F0 M0 L0 : Nat} {th cl lc rc : Int} {fa ms lo : Nat → Int} {da cn : Nat → Nat}
variable {E : Nat}
theorem VH_bl (hH : VH b V0 Z g (mkQ c th cl lc rc fa ms lo) nc ns cap fi bl (ρ.2 30 0) ls H) {k j : Nat} (hk : k < fi) (hj : j < 64) : 0 ≤ bl k j ∧ bl k j ≤ 255 := by
  obtain ⟨h, W0, P0, len, wr, W, S, rfl, hV, hv⟩ := VV_len hH
  rw [← (hv.2.1 k hk).1 j hj]
  exact ocW_ok _ _ _
theorem V_num1 (hH : VH b V0 Z g (mkQ c th cl lc rc fa ms lo) nc ns cap fi bl (ρ.2 30 0) ls H) (d : Nat) (hd : 1 ≤ d) {k at_ : Nat} {x y : Int} (hx : x = k) (hy : y = at_) (hk : k < fi) (hw : at_ < 64) : Wp b L xs d mi_85 0 (ent (mL mi_85) [.ref V0, vI x, vI y, vI 1]) [] H (Rt H (vI (bl k at_))) := by
  have g := VH_bl hH hk hw
  subst hx hy
  have := V_num (L := L) (xs := xs) hH d hd (at_ := at_) (wd := 1) hk (by omega) (by rw [nm1]; omega)
  rw [nm1] at this
  exact this
theorem V_dru_l (d : Nat) (hd : 2 ≤ d) (hQ : QI b c V0 Q0 F0 M0 L0) {e : Nat} (hDo : DumpOk ρ e) (f2 : ρ.2 13 0 (e + 1) ≤ 4000) (f3 : ρ.2 13 0 (e + 1) ≤ fi) (hD : DmIs c ρ da cn e) (hK : KB ρ E bl) (he : e < E) (hb : ρ.2 13 0 e + 2 ≤ ρ.2 13 0 (e + 1)) : ∀ (m k : Nat) (H : AH) (u : Option Value), k + m = 256 → VH b V0 Z g (mkQ c th cl lc rc (dU ρ e (-1) fa k) (dU ρ e 0 ms k) (dU ρ e 0 lo k)) nc ns cap fi bl (ρ.2 30 0) ls H → Wp b L xs d mi_83 2 [some (.ref Q0), some (.ref (da e)), some (vI k), u] [] H (fun h' o => o = .inl none ∧ VH b V0 Z g (mkQ c th cl lc rc (dU ρ e (-1) fa 256) (dU ρ e 0 ms 256) (dU ρ e 0 lo 256)) nc ns cap fi bl (ρ.2 30 0) ls h') := by
  have hQ0 := hQ
  have hD0 := hD
  have hDo0 := hDo
  obtain ⟨w1, w2, w3, w4, w5, w6, u0, u1, u2, u3, u4, u5⟩ := hDo
  obtain ⟨oQ, q0, q1, q2, q3, oF, oM, oL, hFb, hMb⟩ := hQ
  have p0 : ∀ th cl lc rc fa ms lo, (mkQ c th cl lc rc fa ms lo).2.1 7 0 0 = .ref V0 := fun _ _ _ _ _ _ _ => q0
  have p1 : ∀ th cl lc rc fa ms lo, (mkQ c th cl lc rc fa ms lo).2.1 7 0 1 = .ref F0 := fun _ _ _ _ _ _ _ => q1
  have p2 : ∀ th cl lc rc fa ms lo, (mkQ c th cl lc rc fa ms lo).2.1 7 0 2 = .ref M0 := fun _ _ _ _ _ _ _ => q2
  have p3 : ∀ th cl lc rc fa ms lo, (mkQ c th cl lc rc fa ms lo).2.1 7 0 3 = .ref L0 := fun _ _ _ _ _ _ _ => q3
  have p5 : ∀ th cl lc rc fa ms lo, (mkQ c th cl lc rc fa ms lo).2.1 7 0 5 = vI cl := fun _ _ _ _ _ _ _ => rfl
  have p6 : ∀ th cl lc rc fa ms lo, (mkQ c th cl lc rc fa ms lo).2.1 7 0 6 = vI lc := fun _ _ _ _ _ _ _ => rfl
  have p7 : ∀ th cl lc rc fa ms lo, (mkQ c th cl lc rc fa ms lo).2.1 7 0 7 = vI rc := fun _ _ _ _ _ _ _ => rfl
  obtain ⟨oD, d0, d1, d2, d3, d4, d5, d6, d7⟩ := hD
  have x3 : ∀ th cl lc rc fa ms lo, (mkQ c th cl lc rc fa ms lo).2.1 14 e 3 = va_rf (if ρ.2 12 0 e < 0 then none else some (da (ρ.2 12 0 e).toNat)) := fun _ _ _ _ _ _ _ => d3
  have x4 : ∀ th cl lc rc fa ms lo, (mkQ c th cl lc rc fa ms lo).2.1 14 e 4 = vI (cn e) := fun _ _ _ _ _ _ _ => d4
  have x5 : ∀ th cl lc rc fa ms lo, (mkQ c th cl lc rc fa ms lo).2.1 14 e 5 = vI (ρ.2 14 0 (e + 1) - ρ.2 14 0 e) := fun _ _ _ _ _ _ _ => d5
  have x6 : ∀ th cl lc rc fa ms lo, (mkQ c th cl lc rc fa ms lo).2.1 14 e 6 = vI (ρ.2 13 0 e) := fun _ _ _ _ _ _ _ => d6
  have x7 : ∀ th cl lc rc fa ms lo, (mkQ c th cl lc rc fa ms lo).2.1 14 e 7 = vI (ρ.2 13 0 (e + 1) - ρ.2 13 0 e) := fun _ _ _ _ _ _ _ => d7
  intro m
  induction m with
  | zero =>
    intro k H u hk hH
    obtain rfl : k = 256 := hk
    refine w_iload_n rfl rfl ?_
    refine w_sipush rfl rfl ?_
    refine w_icge_t rfl (by omega) (by omega) (by omega) (by omega) (by first | omega | (simp only [Int.toNat_natCast, upF_2] at *; omega)) ?_
    refine w_return rfl rfl ?_
    exact ⟨rfl, hH⟩
  | succ m ih =>
    intro k H u hk hH
    have e1 : (7 - (k : Int) % 8).toNat = 7 - k % 8 := by omega
    have bk := hK e 1 _ he (Or.inr (Or.inl ⟨rfl, rfl⟩)) (1 + k / 8) (by omega)
    have rd := mpB_read (fun n => ρ.2 15 e n ≠ 0) (n := k) (by omega)
    rw [← bk] at rd
    have bd := VH_bl hH (k := (ρ.2 13 0 e).toNat + 1) (j := 1 + k / 8) (by omega) (by omega)
    by_cases q : ρ.2 15 e k = 0
    · rw [if_neg (fun z => z q)] at rd
      refine w_iload_n rfl rfl ?_
      refine w_sipush rfl rfl ?_
      refine w_icge_f rfl (by omega) (by omega) (by omega) (by omega) (by first | omega | (simp only [Int.toNat_natCast, upF_2] at *; omega)) ?_
      refine w_aload_n rfl rfl ?_
      refine w_getfield rfl (VH_at hH oQ (by decide) (by decide) (by decide)) rfl ?_
      rw [p0]
      refine w_aload_n rfl rfl ?_
      refine w_cvV rfl (by decide) (by first | omega | (simp only [Int.toNat_natCast, upF_2] at *; omega)) rfl (VH_at hH oD (by decide) (by decide) (by decide)) mt_84 (Nat.le_of_ble_eq_true rfl) (Nat.le_of_ble_eq_true rfl) (V_mapb hH _ hD0) ?_
      refine w_iconst rfl ?_
      refine w_iload_n rfl rfl ?_
      refine w_bipush rfl rfl ?_
      refine w_idiv rfl (by first | omega | (simp only [Int.toNat_natCast, upF_2] at *; omega)) (by first | omega | (simp only [Int.toNat_natCast, upF_2] at *; omega)) (by first | omega | (simp only [Int.toNat_natCast, upF_2] at *; omega)) (by first | omega | (simp only [Int.toNat_natCast, upF_2] at *; omega)) ?_
      refine w_iadd rfl ?_
      refine w_iconst rfl ?_
      refine w_cvV rfl (by decide) (by first | omega | (simp only [Int.toNat_natCast, upF_2] at *; omega)) rfl (VH_ob hH).choose_spec mt_85 (Nat.le_of_ble_eq_true rfl) (Nat.le_of_ble_eq_true rfl) (V_num1 hH _ (by omega) (k := (ρ.2 13 0 e).toNat + 1) (at_ := 1 + k / 8) (by omega) (by omega) (by omega) (by omega)) ?_
      refine w_istore_n rfl (by decide) ?_
      refine w_iload_n rfl rfl ?_
      refine w_bipush rfl rfl ?_
      refine w_iload_n rfl rfl ?_
      refine w_bipush rfl rfl ?_
      refine w_irem rfl (by first | omega | (simp only [Int.toNat_natCast, upF_2] at *; omega)) (by first | omega | (simp only [Int.toNat_natCast, upF_2] at *; omega)) (by first | omega | (simp only [Int.toNat_natCast, upF_2] at *; omega)) (by first | omega | (simp only [Int.toNat_natCast, upF_2] at *; omega)) ?_
      refine w_isub rfl ?_
      refine w_ishr rfl bd.1 (by omega) (by omega) (by omega) ?_
      refine w_iconst rfl ?_
      refine w_and1 rfl ?_
      rw [e1]
      refine w_ifne_f rfl (by omega) (by omega) (by first | omega | (simp only [Int.toNat_natCast, upF_2] at *; omega)) ?_
      refine w_aload_n rfl rfl ?_
      refine w_iload_n rfl rfl ?_
      refine w_cv rfl (by decide) (by first | omega | (simp only [Int.toNat_natCast, upF_2] at *; omega)) rfl (VH_at hH oQ (by decide) (by decide) (by decide)) mt_11 (Nat.le_of_ble_eq_true rfl) (Nat.le_of_ble_eq_true rfl) (V_setN hH _ hQ0 (by omega)) ?_
      rintro _ _ ⟨rfl, hH⟩
      refine ⟨none, rfl, ?_⟩
      refine w_iinc rfl rfl (by decide) ?_
      refine w_goto rfl ?_
      rw [dU_1 _ _ q, dU_1 _ _ q, dU_1 _ _ q] at hH
      exact ih (k + 1) _ _ (by omega) hH
    · rw [if_pos q] at rd
      refine w_iload_n rfl rfl ?_
      refine w_sipush rfl rfl ?_
      refine w_icge_f rfl (by omega) (by omega) (by omega) (by omega) (by first | omega | (simp only [Int.toNat_natCast, upF_2] at *; omega)) ?_
      refine w_aload_n rfl rfl ?_
      refine w_getfield rfl (VH_at hH oQ (by decide) (by decide) (by decide)) rfl ?_
      rw [p0]
      refine w_aload_n rfl rfl ?_
      refine w_cvV rfl (by decide) (by first | omega | (simp only [Int.toNat_natCast, upF_2] at *; omega)) rfl (VH_at hH oD (by decide) (by decide) (by decide)) mt_84 (Nat.le_of_ble_eq_true rfl) (Nat.le_of_ble_eq_true rfl) (V_mapb hH _ hD0) ?_
      refine w_iconst rfl ?_
      refine w_iload_n rfl rfl ?_
      refine w_bipush rfl rfl ?_
      refine w_idiv rfl (by first | omega | (simp only [Int.toNat_natCast, upF_2] at *; omega)) (by first | omega | (simp only [Int.toNat_natCast, upF_2] at *; omega)) (by first | omega | (simp only [Int.toNat_natCast, upF_2] at *; omega)) (by first | omega | (simp only [Int.toNat_natCast, upF_2] at *; omega)) ?_
      refine w_iadd rfl ?_
      refine w_iconst rfl ?_
      refine w_cvV rfl (by decide) (by first | omega | (simp only [Int.toNat_natCast, upF_2] at *; omega)) rfl (VH_ob hH).choose_spec mt_85 (Nat.le_of_ble_eq_true rfl) (Nat.le_of_ble_eq_true rfl) (V_num1 hH _ (by omega) (k := (ρ.2 13 0 e).toNat + 1) (at_ := 1 + k / 8) (by omega) (by omega) (by omega) (by omega)) ?_
      refine w_istore_n rfl (by decide) ?_
      refine w_iload_n rfl rfl ?_
      refine w_bipush rfl rfl ?_
      refine w_iload_n rfl rfl ?_
      refine w_bipush rfl rfl ?_
      refine w_irem rfl (by first | omega | (simp only [Int.toNat_natCast, upF_2] at *; omega)) (by first | omega | (simp only [Int.toNat_natCast, upF_2] at *; omega)) (by first | omega | (simp only [Int.toNat_natCast, upF_2] at *; omega)) (by first | omega | (simp only [Int.toNat_natCast, upF_2] at *; omega)) ?_
      refine w_isub rfl ?_
      refine w_ishr rfl bd.1 (by omega) (by omega) (by omega) ?_
      refine w_iconst rfl ?_
      refine w_and1 rfl ?_
      rw [e1]
      refine w_ifne_t rfl (by omega) (by omega) (by first | omega | (simp only [Int.toNat_natCast, upF_2] at *; omega)) ?_
      refine w_iinc rfl rfl (by decide) ?_
      refine w_goto rfl ?_
      rw [dU_0 _ _ q, dU_0 _ _ q, dU_0 _ _ q] at hH
      exact ih (k + 1) _ _ (by omega) hH
theorem V_dru (d : Nat) (hd : 2 ≤ d) (hH : VH b V0 Z g (mkQ c th cl lc rc fa ms lo) nc ns cap fi bl (ρ.2 30 0) ls H) (hQ : QI b c V0 Q0 F0 M0 L0) {e : Nat} (hDo : DumpOk ρ e) (f2 : ρ.2 13 0 (e + 1) ≤ 4000) (f3 : ρ.2 13 0 (e + 1) ≤ fi) (hD : DmIs c ρ da cn e) (hK : KB ρ E bl) (he : e < E) (hb : ρ.2 13 0 e + 2 ≤ ρ.2 13 0 (e + 1)) : Wp b L xs d mi_83 0 (ent (mL mi_83) [.ref Q0, .ref (da e)]) [] H (fun h' o => o = .inl none ∧ VH b V0 Z g (mkQ c th cl lc rc (dU ρ e (-1) fa 256) (dU ρ e 0 ms 256) (dU ρ e 0 lo 256)) nc ns cap fi bl (ρ.2 30 0) ls h') := by
  refine w_iconst rfl ?_
  refine w_istore_n rfl (by decide) ?_
  exact V_dru_l d hd hQ hDo f2 f3 hD hK he hb 256 0 H _ rfl (by rw [dU_z, dU_z, dU_z]; exact hH)
theorem V_tn_l (d : Nat) (hd : 3 ≤ d) (hQ : QI b c V0 Q0 F0 M0 L0) {n a C : Nat} (hn : n < 256) (hC : C ≤ 13) (ha : a + 1 + C ≤ fi) (hf : a ≤ 8000) (hsp : ∀ i, ρ.2 30 0 i = 0 ∨ ρ.2 30 0 i = 1) : ∀ (m i : Nat) (H : AH), i + m = C → VH b V0 Z g (mkQ c th cl lc rc fa (upB ms n (msk (gone ρ a) i)) lo) nc ns cap fi bl (ρ.2 30 0) ls H → Wp b L xs d mi_88 44 [some (.ref Q0), some (vI n), some (vI a), some (vI (1 + (C : Int))), some (vI i)] [] H (fun h' o => o = .inl none ∧ VH b V0 Z g (mkQ c th cl lc rc fa (upB ms n (msk (gone ρ a) C)) (upB lo n (if msk (gone ρ a) C = 0 then 0 else 1))) nc ns cap fi bl (ρ.2 30 0) ls h') := by
  obtain ⟨oQ, q0, q1, q2, q3, oF, oM, oL, hFb, hMb⟩ := hQ
  have p0 : ∀ th cl lc rc fa ms lo, (mkQ c th cl lc rc fa ms lo).2.1 7 0 0 = .ref V0 := fun _ _ _ _ _ _ _ => q0
  have p1 : ∀ th cl lc rc fa ms lo, (mkQ c th cl lc rc fa ms lo).2.1 7 0 1 = .ref F0 := fun _ _ _ _ _ _ _ => q1
  have p2 : ∀ th cl lc rc fa ms lo, (mkQ c th cl lc rc fa ms lo).2.1 7 0 2 = .ref M0 := fun _ _ _ _ _ _ _ => q2
  have p3 : ∀ th cl lc rc fa ms lo, (mkQ c th cl lc rc fa ms lo).2.1 7 0 3 = .ref L0 := fun _ _ _ _ _ _ _ => q3
  have p5 : ∀ th cl lc rc fa ms lo, (mkQ c th cl lc rc fa ms lo).2.1 7 0 5 = vI cl := fun _ _ _ _ _ _ _ => rfl
  have p6 : ∀ th cl lc rc fa ms lo, (mkQ c th cl lc rc fa ms lo).2.1 7 0 6 = vI lc := fun _ _ _ _ _ _ _ => rfl
  have p7 : ∀ th cl lc rc fa ms lo, (mkQ c th cl lc rc fa ms lo).2.1 7 0 7 = vI rc := fun _ _ _ _ _ _ _ => rfl
  have pm : ∀ (ms lo : Nat → Int), (mkQ c th cl lc rc fa ms lo).2.1 9 0 (n : Int).toNat = vI (ms n) := fun ms lo => by rw [Int.toNat_natCast]; rfl
  intro m
  induction m with
  | zero =>
    intro i H hi hH
    obtain rfl : i = C := hi
    have lt := msk_lt (gone ρ a) i
    have pw : 2 ^ i ≤ 8192 := Nat.pow_le_pow_right (show 0 < 2 by decide) hC
    have pn := pm (upB ms n (msk (gone ρ a) i)) lo
    rw [upB_eq] at pn
    by_cases q : msk (gone ρ a) i = 0
    · rw [if_pos q]
      refine w_iload rfl rfl ?_
      refine w_iload_n rfl rfl ?_
      refine w_iconst rfl ?_
      refine w_isub rfl ?_
      refine w_icge_t rfl (by omega) (by omega) (by omega) (by omega) (by first | omega | (simp only [Int.toNat_natCast, upF_2] at *; omega)) ?_
      refine w_aload_n rfl rfl ?_
      refine w_getfield rfl (VH_at hH oQ (by decide) (by decide) (by decide)) rfl ?_
      rw [p3]
      refine w_iload_n rfl rfl ?_
      refine w_aload_n rfl rfl ?_
      refine w_getfield rfl (VH_at hH oQ (by decide) (by decide) (by decide)) rfl ?_
      rw [p2]
      refine w_iload_n rfl rfl ?_
      refine v_iaload hH rfl hMb oM (by decide) (by decide) (by decide) rfl (by first | omega | (simp only [Int.toNat_natCast, upF_2] at *; omega)) (by first | omega | (simp only [Int.toNat_natCast, upF_2] at *; omega)) (by decide) pn ?_
      refine w_ifeq_t rfl (by omega) (by omega) (by first | omega | (simp only [Int.toNat_natCast, upF_2] at *; omega)) ?_
      refine w_iconst rfl ?_
      refine v_zastore hH rfl oL (by decide) (by decide) (by decide) (fun _ => rfl) (by first | omega | (simp only [Int.toNat_natCast, upF_2] at *; omega)) (by first | omega | (simp only [Int.toNat_natCast, upF_2] at *; omega)) (by decide) (Or.inl rfl) ?_
      intro H eH hH
      rw [mkQ_10, Int.toNat_natCast] at hH
      refine w_return rfl rfl ?_
      exact ⟨rfl, hH⟩
    · rw [if_neg q]
      refine w_iload rfl rfl ?_
      refine w_iload_n rfl rfl ?_
      refine w_iconst rfl ?_
      refine w_isub rfl ?_
      refine w_icge_t rfl (by omega) (by omega) (by omega) (by omega) (by first | omega | (simp only [Int.toNat_natCast, upF_2] at *; omega)) ?_
      refine w_aload_n rfl rfl ?_
      refine w_getfield rfl (VH_at hH oQ (by decide) (by decide) (by decide)) rfl ?_
      rw [p3]
      refine w_iload_n rfl rfl ?_
      refine w_aload_n rfl rfl ?_
      refine w_getfield rfl (VH_at hH oQ (by decide) (by decide) (by decide)) rfl ?_
      rw [p2]
      refine w_iload_n rfl rfl ?_
      refine v_iaload hH rfl hMb oM (by decide) (by decide) (by decide) rfl (by first | omega | (simp only [Int.toNat_natCast, upF_2] at *; omega)) (by first | omega | (simp only [Int.toNat_natCast, upF_2] at *; omega)) (by decide) pn ?_
      refine w_ifeq_f rfl (by omega) (by omega) (by first | omega | (simp only [Int.toNat_natCast, upF_2] at *; omega)) ?_
      refine w_iconst rfl ?_
      refine w_goto rfl ?_
      refine v_zastore hH rfl oL (by decide) (by decide) (by decide) (fun _ => rfl) (by first | omega | (simp only [Int.toNat_natCast, upF_2] at *; omega)) (by first | omega | (simp only [Int.toNat_natCast, upF_2] at *; omega)) (by decide) (Or.inr rfl) ?_
      intro H eH hH
      rw [mkQ_10, Int.toNat_natCast] at hH
      refine w_return rfl rfl ?_
      exact ⟨rfl, hH⟩
  | succ m ih =>
    intro i H hi hH
    have lt := msk_lt (gone ρ a) i
    have pw : 2 ^ i ≤ 8192 := Nat.pow_le_pow_right (show 0 < 2 by decide) (show i ≤ 13 by omega)
    have pn := pm (upB ms n (msk (gone ρ a) i)) lo
    rw [upB_eq] at pn
    have s1 := hsp (a + 1 + i)
    have e1 : (a : Int) + 1 + (i : Int) = ((a + 1 + i : Nat) : Int) := by omega
    have e2 : (1 : Int) * 2 ^ ((i : Int)).toNat = ((2 ^ i : Nat) : Int) := by rw [Int.toNat_natCast, Int.one_mul]; simp
    by_cases q : ρ.2 30 0 (a + 1 + i) = 0
    · have g1 : gone ρ a i = false := by unfold gone; rw [decide_eq_false]; exact fun z => z q
      refine w_iload rfl rfl ?_
      refine w_iload_n rfl rfl ?_
      refine w_iconst rfl ?_
      refine w_isub rfl ?_
      refine w_icge_f rfl (by omega) (by omega) (by omega) (by omega) (by first | omega | (simp only [Int.toNat_natCast, upF_2] at *; omega)) ?_
      refine w_aload_n rfl rfl ?_
      refine w_getfield rfl (VH_at hH oQ (by decide) (by decide) (by decide)) rfl ?_
      rw [p0]
      refine w_iload_n rfl rfl ?_
      refine w_iconst rfl ?_
      refine w_iadd rfl ?_
      refine w_iload rfl rfl ?_
      refine w_iadd rfl ?_
      rw [e1]
      refine w_cvV rfl (by decide) (by first | omega | (simp only [Int.toNat_natCast, upF_2] at *; omega)) rfl (VH_ob hH).choose_spec mt_81 (Nat.le_of_ble_eq_true rfl) (Nat.le_of_ble_eq_true rfl) (V_isSp hH _ (by omega) (by omega)) ?_
      refine w_ifeq_t rfl (by omega) (by omega) (by first | omega | (simp only [Int.toNat_natCast, upF_2] at *; omega)) ?_
      refine w_iinc rfl rfl (by decide) ?_
      refine w_goto rfl ?_
      refine ih (i + 1) _ (by omega) ?_
      have e3 : msk (gone ρ a) (i + 1) = msk (gone ρ a) i := by
        show msk (gone ρ a) i ||| _ = _
        rw [if_neg (by rw [g1]; decide), Nat.or_zero]
      rw [e3]
      exact hH
    · have g1 : gone ρ a i = true := by unfold gone; rw [decide_eq_true]; exact q
      refine w_iload rfl rfl ?_
      refine w_iload_n rfl rfl ?_
      refine w_iconst rfl ?_
      refine w_isub rfl ?_
      refine w_icge_f rfl (by omega) (by omega) (by omega) (by omega) (by first | omega | (simp only [Int.toNat_natCast, upF_2] at *; omega)) ?_
      refine w_aload_n rfl rfl ?_
      refine w_getfield rfl (VH_at hH oQ (by decide) (by decide) (by decide)) rfl ?_
      rw [p0]
      refine w_iload_n rfl rfl ?_
      refine w_iconst rfl ?_
      refine w_iadd rfl ?_
      refine w_iload rfl rfl ?_
      refine w_iadd rfl ?_
      rw [e1]
      refine w_cvV rfl (by decide) (by first | omega | (simp only [Int.toNat_natCast, upF_2] at *; omega)) rfl (VH_ob hH).choose_spec mt_81 (Nat.le_of_ble_eq_true rfl) (Nat.le_of_ble_eq_true rfl) (V_isSp hH _ (by omega) (by omega)) ?_
      refine w_ifeq_f rfl (by omega) (by omega) (by first | omega | (simp only [Int.toNat_natCast, upF_2] at *; omega)) ?_
      refine w_aload_n rfl rfl ?_
      refine w_getfield rfl (VH_at hH oQ (by decide) (by decide) (by decide)) rfl ?_
      rw [p2]
      refine w_iload_n rfl rfl ?_
      refine w_dup2 rfl ?_
      refine v_iaload hH rfl hMb oM (by decide) (by decide) (by decide) rfl (by first | omega | (simp only [Int.toNat_natCast, upF_2] at *; omega)) (by first | omega | (simp only [Int.toNat_natCast, upF_2] at *; omega)) (by decide) pn ?_
      refine w_iconst rfl ?_
      refine w_iload rfl rfl ?_
      refine w_ishl rfl (by decide) (by omega) (by omega) (by rw [e2]; omega) ?_
      rw [e2]
      refine w_ior rfl (by omega) (by omega) (by omega) (by omega) ?_
      refine v_iastore hH rfl oM (by decide) (by decide) (by decide) (fun _ => rfl) (by first | omega | (simp only [Int.toNat_natCast, upF_2] at *; omega)) (by first | omega | (simp only [Int.toNat_natCast, upF_2] at *; omega)) (by decide) ?_
      intro H eH hH
      rw [mkQ_9, Int.toNat_natCast, Int.toNat_natCast, Int.toNat_natCast, upB_2] at hH
      refine w_iinc rfl rfl (by decide) ?_
      refine w_goto rfl ?_
      refine ih (i + 1) _ (by omega) ?_
      have e3 : msk (gone ρ a) (i + 1) = msk (gone ρ a) i ||| 2 ^ i := by
        show msk (gone ρ a) i ||| _ = _
        rw [if_pos g1]
      rw [e3]
      exact hH
theorem V_tn (d : Nat) (hd : 3 ≤ d) (hH : VH b V0 Z g (mkQ c th cl lc rc fa ms lo) nc ns cap fi bl (ρ.2 30 0) ls H) (hQ : QI b c V0 Q0 F0 M0 L0) {n a r : Nat} {Y : YS} (hY : QY ρ fa ms lo Y) (hn : n < 256) (hr : ρ.2 17 0 r = n) (hR : RecOk ρ r) (ha : (a : Int) + 1 + cont ρ r ≤ fi) (hf : a ≤ 8000) (hsp : ∀ i, ρ.2 30 0 i = 0 ∨ ρ.2 30 0 i = 1) : Wp b L xs d mi_88 0 (ent (mL mi_88) [.ref Q0, vI n, vI a, vI (1 + cont ρ r)]) [] H (fun h' o => o = .inl none ∧ ∃ fa ms lo, QY ρ fa ms lo (yback ρ r a Y) ∧ VH b V0 Z g (mkQ c th cl lc rc fa ms lo) nc ns cap fi bl (ρ.2 30 0) ls h') := by
  have hQ0 := hQ
  have hc := con13 hR
  have s1 := hsp a
  obtain ⟨oQ, q0, q1, q2, q3, oF, oM, oL, hFb, hMb⟩ := hQ
  have p0 : ∀ th cl lc rc fa ms lo, (mkQ c th cl lc rc fa ms lo).2.1 7 0 0 = .ref V0 := fun _ _ _ _ _ _ _ => q0
  have p1 : ∀ th cl lc rc fa ms lo, (mkQ c th cl lc rc fa ms lo).2.1 7 0 1 = .ref F0 := fun _ _ _ _ _ _ _ => q1
  have p2 : ∀ th cl lc rc fa ms lo, (mkQ c th cl lc rc fa ms lo).2.1 7 0 2 = .ref M0 := fun _ _ _ _ _ _ _ => q2
  have p3 : ∀ th cl lc rc fa ms lo, (mkQ c th cl lc rc fa ms lo).2.1 7 0 3 = .ref L0 := fun _ _ _ _ _ _ _ => q3
  have p5 : ∀ th cl lc rc fa ms lo, (mkQ c th cl lc rc fa ms lo).2.1 7 0 5 = vI cl := fun _ _ _ _ _ _ _ => rfl
  have p6 : ∀ th cl lc rc fa ms lo, (mkQ c th cl lc rc fa ms lo).2.1 7 0 6 = vI lc := fun _ _ _ _ _ _ _ => rfl
  have p7 : ∀ th cl lc rc fa ms lo, (mkQ c th cl lc rc fa ms lo).2.1 7 0 7 = vI rc := fun _ _ _ _ _ _ _ => rfl
  obtain ⟨C, hC⟩ : ∃ C : Nat, cont ρ r = C := ⟨(cont ρ r).toNat, by omega⟩
  rw [hC] at hc ha ⊢
  by_cases q : ρ.2 30 0 a = 0
  · refine w_iload_n rfl rfl ?_
    refine w_csV rfl (by decide) (by first | omega | (simp only [Int.toNat_natCast, upF_2] at *; omega)) rfl mt_18 (Nat.le_of_ble_eq_true rfl) (Nat.le_of_ble_eq_true rfl) (k_isN1 _ (by omega) (by omega)) ?_
    refine w_ifne_t rfl (by omega) (by omega) (by first | omega | (simp only [Int.toNat_natCast, upF_2] at *; omega)) ?_
    refine w_aload_n rfl rfl ?_
    refine w_getfield rfl (VH_at hH oQ (by decide) (by decide) (by decide)) rfl ?_
    rw [p0]
    refine w_iload_n rfl rfl ?_
    refine w_cvV rfl (by decide) (by first | omega | (simp only [Int.toNat_natCast, upF_2] at *; omega)) rfl (VH_ob hH).choose_spec mt_81 (Nat.le_of_ble_eq_true rfl) (Nat.le_of_ble_eq_true rfl) (V_isSp hH _ (by omega) (by omega)) ?_
    refine w_ifeq_t rfl (by omega) (by omega) (by first | omega | (simp only [Int.toNat_natCast, upF_2] at *; omega)) ?_
    refine w_aload_n rfl rfl ?_
    refine w_getfield rfl (VH_at hH oQ (by decide) (by decide) (by decide)) rfl ?_
    rw [p1]
    refine w_iload_n rfl rfl ?_
    refine w_iload_n rfl rfl ?_
    refine v_iastore hH rfl oF (by decide) (by decide) (by decide) (fun _ => rfl) (by first | omega | (simp only [Int.toNat_natCast, upF_2] at *; omega)) (by first | omega | (simp only [Int.toNat_natCast, upF_2] at *; omega)) (by decide) ?_
    intro H eH hH
    rw [mkQ_8, Int.toNat_natCast] at hH
    refine w_aload_n rfl rfl ?_
    refine w_getfield rfl (VH_at hH oQ (by decide) (by decide) (by decide)) rfl ?_
    rw [p2]
    refine w_iload_n rfl rfl ?_
    refine w_iconst rfl ?_
    refine v_iastore hH rfl oM (by decide) (by decide) (by decide) (fun _ => rfl) (by first | omega | (simp only [Int.toNat_natCast, upF_2] at *; omega)) (by first | omega | (simp only [Int.toNat_natCast, upF_2] at *; omega)) (by decide) ?_
    intro H eH hH
    rw [mkQ_9, Int.toNat_natCast, show (0 : Int) = (msk (gone ρ a) 0 : Int) from rfl] at hH
    refine w_iconst rfl ?_
    refine w_istore rfl (by decide) ?_
    refine Wp_im ?_ (V_tn_l d hd hQ0 hn (C := C) (by omega) (by omega) hf hsp C 0 _ (Nat.zero_add _) hH)
    rintro h' o ⟨r1, r2⟩
    have := QY_tk hY hr q
    rw [hC, Int.toNat_natCast] at this
    exact ⟨r1, _, _, _, this, r2⟩
  · refine w_iload_n rfl rfl ?_
    refine w_csV rfl (by decide) (by first | omega | (simp only [Int.toNat_natCast, upF_2] at *; omega)) rfl mt_18 (Nat.le_of_ble_eq_true rfl) (Nat.le_of_ble_eq_true rfl) (k_isN1 _ (by omega) (by omega)) ?_
    refine w_ifne_t rfl (by omega) (by omega) (by first | omega | (simp only [Int.toNat_natCast, upF_2] at *; omega)) ?_
    refine w_aload_n rfl rfl ?_
    refine w_getfield rfl (VH_at hH oQ (by decide) (by decide) (by decide)) rfl ?_
    rw [p0]
    refine w_iload_n rfl rfl ?_
    refine w_cvV rfl (by decide) (by first | omega | (simp only [Int.toNat_natCast, upF_2] at *; omega)) rfl (VH_ob hH).choose_spec mt_81 (Nat.le_of_ble_eq_true rfl) (Nat.le_of_ble_eq_true rfl) (V_isSp hH _ (by omega) (by omega)) ?_
    refine w_ifeq_f rfl (by omega) (by omega) (by first | omega | (simp only [Int.toNat_natCast, upF_2] at *; omega)) ?_
    refine w_aload_n rfl rfl ?_
    refine w_getfield rfl (VH_at hH oQ (by decide) (by decide) (by decide)) rfl ?_
    rw [p3]
    refine w_iload_n rfl rfl ?_
    refine w_iconst rfl ?_
    refine v_zastore hH rfl oL (by decide) (by decide) (by decide) (fun _ => rfl) (by first | omega | (simp only [Int.toNat_natCast, upF_2] at *; omega)) (by first | omega | (simp only [Int.toNat_natCast, upF_2] at *; omega)) (by decide) (Or.inr rfl) ?_
    intro H eH hH
    rw [mkQ_10, Int.toNat_natCast] at hH
    refine w_return rfl rfl ?_
    exact ⟨rfl, _, _, _, QY_sp hY hr q, hH⟩
end Cq3
