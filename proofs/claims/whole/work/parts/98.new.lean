/-! all anew -/
def QVl (c : CS) (th cl lc rc : Int) (fa ms lo : Nat → Int) : Prop := c.2.1 7 0 4 = vI th ∧ c.2.1 7 0 5 = vI cl ∧ c.2.1 7 0 6 = vI lc ∧ c.2.1 7 0 7 = vI rc ∧ (∀ j, c.2.1 8 0 j = vI (fa j)) ∧ (∀ j, c.2.1 9 0 j = vI (ms j)) ∧ (∀ j, c.2.1 10 0 j = vI (lo j))
theorem mkQ_e {c : CS} {th cl lc rc : Int} {fa ms lo : Nat → Int} (h : QVl c th cl lc rc fa ms lo) : mkQ c th cl lc rc fa ms lo = c := by
  obtain ⟨h4, h5, h6, h7, h8, h9, h10⟩ := h
  have := mkQ_eta (c := c) (ρ := (fun i => if i = 42 then th else if i = 43 then cl else if i = 44 then lc else if i = 45 then rc else 0, fun _ _ _ => 0)) (E := 0) (fa := fa) (ms := ms) (lo := lo) (Y := fun _ => yNo)
  by_cases e : th = 1
  · refine Prod.ext rfl (Prod.ext (funext fun k => funext fun i => ?_) rfl)
    show (if k = 7 ∧ i = 0 then qfl (c.2.1 7 0) th cl lc rc else if k = 8 ∧ i = 0 then (fun j => vI (fa j)) else if k = 9 ∧ i = 0 then (fun j => vI (ms j)) else if k = 10 ∧ i = 0 then (fun j => vI (lo j)) else c.2.1 k i) = c.2.1 k i
    by_cases e7 : k = 7 ∧ i = 0
    · rw [if_pos e7, e7.1, e7.2]
      funext f
      unfold qfl
      by_cases f4 : f = 4
      · rw [if_pos f4, f4, h4]
      by_cases f5 : f = 5
      · rw [if_neg f4, if_pos f5, f5, h5]
      by_cases f6 : f = 6
      · rw [if_neg f4, if_neg f5, if_pos f6, f6, h6]
      by_cases f7 : f = 7
      · rw [if_neg f4, if_neg f5, if_neg f6, if_pos f7, f7, h7]
      rw [if_neg f4, if_neg f5, if_neg f6, if_neg f7]
    rw [if_neg e7]
    by_cases e8 : k = 8 ∧ i = 0
    · rw [if_pos e8, e8.1, e8.2]
      funext j
      exact (h8 j).symm
    rw [if_neg e8]
    by_cases e9 : k = 9 ∧ i = 0
    · rw [if_pos e9, e9.1, e9.2]
      funext j
      exact (h9 j).symm
    rw [if_neg e9]
    by_cases e10 : k = 10 ∧ i = 0
    · rw [if_pos e10, e10.1, e10.2]
      funext j
      exact (h10 j).symm
    rw [if_neg e10]
  · exact this ⟨h4, h5, h6, h7, h8, h9, h10, fun z => absurd z e⟩
def pdA : Nat × Nat → Bool := fun q => q.1 == 12 || q.1 == 13 || q.1 == 14
theorem pdA_f {k m : Nat} (h1 : k ≠ 12) (h2 : k ≠ 13) (h3 : k ≠ 14) : pdA (k, m) = false := by
  unfold pdA
  simp [h1, h2, h3]
def nulD (c : CS) (k : Nat) : CS := (c.1, fun k' i' => if k' = 11 ∧ i' = 0 then (fun j => if j < k then .null else c.2.1 11 0 j) else c.2.1 k' i', c.2.2)
theorem nulD_s (c : CS) (k : Nat) : upC (nulD c k) 11 0 k .null = nulD c (k + 1) := by
  refine Prod.ext rfl (Prod.ext (funext fun k' => funext fun i' => ?_) rfl)
  show (if k' = 11 ∧ i' = 0 then upV (fun j => if j < k then .null else c.2.1 11 0 j) k .null else if k' = 11 ∧ i' = 0 then _ else c.2.1 k' i') = (if k' = 11 ∧ i' = 0 then (fun j => if j < k + 1 then .null else c.2.1 11 0 j) else c.2.1 k' i')
  by_cases e : k' = 11 ∧ i' = 0
  · rw [if_pos e, if_pos e]
    funext j
    unfold upV
    by_cases e2 : j = k
    · rw [if_pos e2, if_pos (by omega)]
    · rw [if_neg e2]
      dsimp only
      by_cases e3 : j < k
      · rw [if_pos e3, if_pos (by omega)]
      · rw [if_neg e3, if_neg (by omega)]
  · rw [if_neg e, if_neg e, if_neg e]
theorem nulD_0 (c : CS) : nulD c 0 = c := by
  refine Prod.ext rfl (Prod.ext (funext fun k' => funext fun i' => ?_) rfl)
  show (if k' = 11 ∧ i' = 0 then (fun j => if j < 0 then .null else c.2.1 11 0 j) else c.2.1 k' i') = c.2.1 k' i'
  by_cases e : k' = 11 ∧ i' = 0
  · rw [if_pos e, e.1, e.2]
    funext j
    rw [if_neg (by omega)]
  · rw [if_neg e]
def nwA (c : CS) (a : Nat) (fa ms lo : Nat → Int) : CS := upC (nulD (mkQ (clC (dpP c pdA) a) 0 0 0 0 fa ms lo) 100) 0 0 5 (vI 0)
section Vnw
variable {L : Nat} {xs : Nat → Int32} {b V0 : Nat} {Z : Nat → Prop} {g : Nat → Option AO} {c : CS} {nc ns cap fi : Nat} {bl : Nat → Nat → Int} {sp ls : Nat → Int} {H : AH} {A : Nat → Nat}
theorem V_vclr (hH : VH b V0 Z g c nc ns cap fi bl sp ls H) (d : Nat) (hd : 1 ≤ d) {n : Nat} (n1 : 4 ≤ n) (n2 : n ≤ 1000) : Wp b L xs d mi_9 0 (ent (mL mi_9) [.ref V0, vI n]) [] H (fun h' o => o = .inl none ∧ h'.1 = H.1 ∧ VH b V0 Z g c nc ns n 0 bl (fun _ => 0) (fun _ => 0) h') := by
  obtain ⟨wr, W, S, ⟨h, W0, P0, len, rfl, hV, z, y⟩, hv⟩ := hH
  refine Wp_im ?_ (k_vclr d hd hV n1 n2)
  rintro _ _ ⟨rfl, rfl⟩
  obtain ⟨a1, a2, a3, a4, a5, a6, a7, a8, a9, a10, a11, a12, a13, a14, a15⟩ := hV
  refine ⟨rfl, rfl, 0, W, S, ⟨h, W0, P0, len, rfl, ⟨a1, a2, a3, a4, a5, a6, a7, a8, a9, n1, n2, by omega, a13, a14, a15⟩, z, y⟩, ?_, fun k hk => absurd hk (Nat.not_lt_zero _), fun v hv => absurd hv (Nat.not_lt_zero _), fun _ _ => rfl, fun _ _ => rfl⟩
  unfold wrO
  rw [Nat.zero_add, Nat.zero_add, Nat.div_eq_of_lt (by omega)]
theorem V_nd_l (d : Nat) (oV : c.1 (A 0) = some (0, 0)) (v4 : c.2.1 0 0 4 = .ref (A 11)) (oDs : c.1 (A 11) = some (11, 0)) (nDb : A 11 ≠ b) {v : Int} : ∀ (m k : Nat) (H : AH), k + m = 100 → VH b V0 Z g (nulD c k) nc ns cap fi bl sp ls H → Wp b L xs d mi_6 24 [some (.ref (A 0)), some (vI v), some (vI k)] [] H (fun h' o => o = .inl none ∧ h'.1 = H.1 ∧ VH b V0 Z g (upC (nulD c 100) 0 0 5 (vI 0)) nc ns cap fi bl sp ls h') := by
  intro m
  induction m with
  | zero =>
    intro k H hk hH
    obtain rfl : k = 100 := hk
    have v4' : (nulD c 100).2.1 0 0 4 = .ref (A 11) := v4
    refine w_iload_n rfl rfl ?_
    refine w_aload_n rfl rfl ?_
    refine w_getfield rfl (VH_at hH oV (by decide) (by decide) (by decide)) rfl ?_
    rw [v4']
    refine v_alen hH rfl nDb oDs (by decide) (by decide) (by decide) rfl ?_
    refine w_icge_t rfl (by omega) (by omega) (by omega) (by omega) (by omega) ?_
    refine w_aload_n rfl rfl ?_
    refine w_iconst rfl ?_
    refine v_put hH rfl oV (by decide) (by decide) (by decide) rfl rfl rfl rfl ?_
    intro H1 eH1 hH
    refine w_return rfl rfl ?_
    exact ⟨rfl, eH1, hH⟩
  | succ m ih =>
    intro k H hk hH
    have v4' : (nulD c k).2.1 0 0 4 = .ref (A 11) := v4
    refine w_iload_n rfl rfl ?_
    refine w_aload_n rfl rfl ?_
    refine w_getfield rfl (VH_at hH oV (by decide) (by decide) (by decide)) rfl ?_
    rw [v4']
    refine v_alen hH rfl nDb oDs (by decide) (by decide) (by decide) rfl ?_
    refine w_icge_f rfl (by omega) (by omega) (by omega) (by omega) (by omega) ?_
    refine w_aload_n rfl rfl ?_
    refine w_getfield rfl (VH_at hH oV (by decide) (by decide) (by decide)) rfl ?_
    rw [v4']
    refine w_iload_n rfl rfl ?_
    refine w_aconst_null rfl ?_
    refine v_aastoreN hH rfl oDs (by decide) (by decide) (by decide) (fun _ => rfl) (by omega) (by omega) (by decide) ?_
    intro H7 eH7 hH
    rw [Int.toNat_natCast, nulD_s] at hH
    refine w_iinc rfl rfl (by decide) ?_
    refine w_goto rfl ?_
    rw [← eH7]
    exact ih (k + 1) _ (by omega) hH
theorem V_new6 (hH : VH b (A 3) Z g c nc ns cap fi bl sp ls H) (hZ : CZ Z c) (hSI : SI b c A) {th cl lc rc : Int} {fa ms lo : Nat → Int} (hq : QVl c th cl lc rc fa ms lo) (d : Nat) (hd : 3 ≤ d) {n : Nat} (n1 : 4 ≤ n) (n2 : n ≤ 1000) : Wp b L xs d mi_6 0 (ent (mL mi_6) [.ref (A 0), vI n]) [] H (fun h' o => o = .inl none ∧ ∃ fa' ms' lo', VH b (A 3) Z g (nwA c H.1 fa' ms' lo') (nc + 1) (ns + 9) n 0 bl (fun _ => 0) (fun _ => 0) h') := by
  have hH0 := VH_drop hH hZ pdA (pdA_f (by decide) (by decide) (by decide))
  have fr := VH_fr hH0
  obtain ⟨oV, oT, oN, oR, oDs, hQI, v0, v1, v2, v3, v4, vT, vw0, vw1, nNb, nDb⟩ := hSI
  have ow : ∀ x k, k ≠ 12 → k ≠ 13 → k ≠ 14 → c.1 x = some (k, 0) → (dpP c pdA).1 x = some (k, 0) := fun x k h1 h2 h3 hx => dpP_o hx (pdA_f h1 h2 h3)
  have ow2 : ∀ x k, k ≠ 12 → k ≠ 13 → k ≠ 14 → c.1 x = some (k, 0) → (clC (dpP c pdA) H.1).1 x = some (k, 0) := fun x k h1 h2 h3 hx => nw_o (c := nulC (dpP c pdA) 256) (v := nd0) (len := c.2.2) (fr.1 H.1 (Nat.le_refl _)).2 (ow x k h1 h2 h3 hx)
  have vv : ∀ k i f, k ≠ 12 → k ≠ 2 → k ≠ 1 → (clC (dpP c pdA) H.1).2.1 k i f = c.2.1 k i f := fun k i f h1 h2 h3 => by
    unfold clC
    rw [upC_ne (by omega), upC_ne (by omega), upC_ne (by omega), upC_ne (by omega), upC_ne (by omega), nw_v (by omega)]
    show (if k = 2 ∧ i = 0 then _ else c.2.1 k i) f = _
    rw [if_neg (fun z => h2 z.1)]
  have q2 : QVl (clC (dpP c pdA) H.1) th cl lc rc fa ms lo := by
    obtain ⟨h4, h5, h6, h7, h8, h9, h10⟩ := hq
    exact ⟨(vv _ _ _ (by decide) (by decide) (by decide)).trans h4, (vv _ _ _ (by decide) (by decide) (by decide)).trans h5, (vv _ _ _ (by decide) (by decide) (by decide)).trans h6, (vv _ _ _ (by decide) (by decide) (by decide)).trans h7, fun j => (vv _ _ _ (by decide) (by decide) (by decide)).trans (h8 j), fun j => (vv _ _ _ (by decide) (by decide) (by decide)).trans (h9 j), fun j => (vv _ _ _ (by decide) (by decide) (by decide)).trans (h10 j)⟩
  obtain ⟨b1, b2, b3, b4, b5, b6, b7, b8, b9, b10⟩ := hQI
  have hQ2 : QI b (clC (dpP c pdA) H.1) (A 3) (A 7) (A 8) (A 9) (A 10) := ⟨ow2 _ 7 (by decide) (by decide) (by decide) b1, (vv _ _ _ (by decide) (by decide) (by decide)).trans b2, (vv _ _ _ (by decide) (by decide) (by decide)).trans b3, (vv _ _ _ (by decide) (by decide) (by decide)).trans b4, (vv _ _ _ (by decide) (by decide) (by decide)).trans b5, ow2 _ 8 (by decide) (by decide) (by decide) b6, ow2 _ 9 (by decide) (by decide) (by decide) b7, ow2 _ 10 (by decide) (by decide) (by decide) b8, b9, b10⟩
  have oV0 := ow _ 0 (by decide) (by decide) (by decide) oV
  have oV1 := ow2 _ 0 (by decide) (by decide) (by decide) oV
  have oT0 := ow _ 1 (by decide) (by decide) (by decide) oT
  refine w_aload_n rfl rfl ?_
  refine w_getfield rfl (VH_at hH0 oV0 (by decide) (by decide) (by decide)) rfl ?_
  rw [show (dpP c pdA).2.1 0 0 0 = .ref (A 1) from v0]
  refine w_cv rfl (by decide) (by omega) rfl (VH_at hH0 oT0 (by decide) (by decide) (by decide)) mt_7 (Nat.le_of_ble_eq_true rfl) (Nat.le_of_ble_eq_true rfl) (V_tclr hH0 _ (by omega) oT0 vT (ow _ 2 (by decide) (by decide) (by decide) oN) nNb (fun a z => by
    have := (dpP_i z).2
    exact absurd this (by decide))) ?_
  rintro H1 _ ⟨rfl, eH1, hH⟩
  refine ⟨none, rfl, ?_⟩
  refine w_aload_n rfl rfl ?_
  refine w_getfield rfl (VH_at hH oV1 (by decide) (by decide) (by decide)) rfl ?_
  rw [vv 0 0 1 (by decide) (by decide) (by decide), v1]
  refine w_iload_n rfl rfl ?_
  refine w_cv rfl (by decide) (by omega) rfl (VH_ob hH).choose_spec mt_9 (Nat.le_of_ble_eq_true rfl) (Nat.le_of_ble_eq_true rfl) (V_vclr hH _ (by omega) n1 n2) ?_
  rintro H2 _ ⟨rfl, eH2, hH⟩
  refine ⟨none, rfl, ?_⟩
  refine w_aload_n rfl rfl ?_
  refine w_getfield rfl (VH_at hH oV1 (by decide) (by decide) (by decide)) rfl ?_
  rw [vv 0 0 3 (by decide) (by decide) (by decide), v3]
  rw [← mkQ_e q2] at hH
  refine w_cv rfl (by decide) (by omega) rfl (VH_at hH (ow2 _ 7 (by decide) (by decide) (by decide) b1) (by decide) (by decide) (by decide)) mt_10 (Nat.le_of_ble_eq_true rfl) (Nat.le_of_ble_eq_true rfl) (V_qclr (ρ := zR) hH _ (by omega) hQ2) ?_
  rintro H3 _ ⟨rfl, hH⟩
  refine ⟨none, rfl, ?_⟩
  refine w_iconst rfl ?_
  refine w_istore_n rfl (by decide) ?_
  refine Wp_im ?_ (V_nd_l d (c := mkQ (clC (dpP c pdA) H.1) 0 0 0 0 _ _ _) oV1 ((vv 0 0 4 (by decide) (by decide) (by decide)).trans v4) (ow2 _ 11 (by decide) (by decide) (by decide) oDs) nDb 100 0 H3 rfl (by rw [nulD_0]; exact hH))
  rintro h' o ⟨r1, r2, r3⟩
  exact ⟨r1, _, _, _, r3⟩
end Vnw
