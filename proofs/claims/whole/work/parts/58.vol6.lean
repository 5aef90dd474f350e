/-! a block more -/
section Vv1
variable {u fi wr : Nat} {W W3 W4 : Nat → Int64} {S S1 S4 : Nat → Int} {bl : Nat → Nat → Int} {sp ls : Nat → Int}
theorem fi_q {u fi : Nat} (hu : 0 < u) (hr : fi % u = 0) : fi / u * u = fi := by
  have := Nat.div_add_mod fi u
  rw [Nat.mul_comm] at this
  omega
theorem VV_a0 (hu : 0 < u) (hr : fi % u = 0) (hv : VV (u + 1) fi wr W S bl sp ls) (t : StW W W3 wr (lbB (fi / u))) (s : StW W3 W4 (wr + 1) zB) (p1 : ∀ q, q < wr → S1 q = S q) (p2 : S1 wr = 0) (p3 : ∀ q, q < wr + 1 → S4 q = S1 q) (p4 : S4 (wr + 1) = 0) : VV (u + 1) (fi + 1) (wr + 2) W4 S4 (bset bl fi zB) sp ls := by
  obtain ⟨e1, e2, e3, e4, e5⟩ := hv
  simp only [Nat.add_sub_cancel] at e3 e5
  have ew := wrO_0 hu hr
  have eq := fi_q hu hr
  have el := lab_e hu (fi / u)
  rw [eq] at el
  have es := wrO_s hu fi
  refine ⟨by omega, fun k hk => ?_, fun v hv => ?_, fun k hk => e4 k (by omega), fun v hv => ?_⟩
  · by_cases e : k = fi
    · subst e
      rw [← el, ← ew, ← e1, bset_eq]
      exact ⟨fun j hj => by rw [s _ _ (Nat.le_refl _) hj, if_pos rfl], by rw [p4, e4 k (Nat.le_refl _)]⟩
    · have g := psB_wr hu (show k < fi by omega)
      rw [bset_ne e]
      refine ⟨fun j hj => ?_, ?_⟩
      · rw [s _ _ (by omega) hj, if_neg (by omega), t _ _ (by omega) hj, if_neg (by omega)]
        exact (e2 k (by omega)).1 j hj
      · rw [p3 _ (by omega), p1 _ (by omega)]
        exact (e2 k (by omega)).2
  · rw [Nat.add_sub_cancel] at hv
    by_cases e : v * u < fi
    · have g := lab_wr hu e
      refine ⟨fun j hj => ?_, ?_⟩
      · rw [s _ _ (by omega) hj, if_neg (by omega), t _ _ (by omega) hj, if_neg (by omega)]
        exact (e3 v e).1 j hj
      · rw [p3 _ (by omega), p1 _ (by omega)]
        exact (e3 v e).2
    · have ev : v = fi / u := by
        have : v * u = fi := by omega
        rw [← this, Nat.mul_div_cancel _ hu]
      subst ev
      rw [← ew, ← e1]
      refine ⟨fun j hj => ?_, ?_⟩
      · rw [s _ _ (by omega) hj, if_neg (by omega), t _ _ (Nat.le_refl _) hj, if_pos rfl]
      · rw [p3 _ (by omega), p2, e5 _ (by omega)]
  · rw [Nat.add_sub_cancel] at hv
    exact e5 v (by omega)
theorem VV_a1 (hu : 0 < u) (hr : fi % u ≠ 0) (hv : VV (u + 1) fi wr W S bl sp ls) (s : StW W W4 wr zB) (p1 : ∀ q, q < wr → S4 q = S q) (p2 : S4 wr = 0) : VV (u + 1) (fi + 1) (wr + 1) W4 S4 (bset bl fi zB) sp ls := by
  obtain ⟨e1, e2, e3, e4, e5⟩ := hv
  simp only [Nat.add_sub_cancel] at e3 e5
  have ew := wrO_1 hu hr
  have es := wrO_s hu fi
  refine ⟨by omega, fun k hk => ?_, fun v hv => ?_, fun k hk => e4 k (by omega), fun v hv => ?_⟩
  · by_cases e : k = fi
    · subst e
      rw [← ew, ← e1, bset_eq]
      exact ⟨fun j hj => by rw [s _ _ (Nat.le_refl _) hj, if_pos rfl], by rw [p2, e4 k (Nat.le_refl _)]⟩
    · have g := psB_wr hu (show k < fi by omega)
      rw [bset_ne e]
      refine ⟨fun j hj => ?_, ?_⟩
      · rw [s _ _ (by omega) hj, if_neg (by omega)]
        exact (e2 k (by omega)).1 j hj
      · rw [p1 _ (by omega)]
        exact (e2 k (by omega)).2
  · rw [Nat.add_sub_cancel] at hv
    have e : v * u < fi := by
      rcases Nat.lt_or_ge (v * u) fi with z | z
      · exact z
      · exact absurd (by rw [show fi = v * u by omega]; exact Nat.mul_mod_left _ _) hr
    have g := lab_wr hu e
    refine ⟨fun j hj => ?_, ?_⟩
    · rw [s _ _ (by omega) hj, if_neg (by omega)]
      exact (e3 v e).1 j hj
    · rw [p1 _ (by omega)]
      exact (e3 v e).2
  · rw [Nat.add_sub_cancel] at hv
    exact e5 v (by omega)
end Vv1
section Cv6
variable {b L V0 : Nat} {xs : Nat → Int32} {Z : Nat → Prop} {g : Nat → Option AO} {c : CS} {nc ns cap fi wr : Nat} {W : Nat → Int64} {S : Nat → Int} {bl : Nat → Nat → Int} {sp ls : Nat → Int} {H : AH}
theorem VR_cap (hH : VR b V0 Z g c nc ns cap fi wr W S H) : 4 ≤ cap ∧ cap ≤ 1000 ∧ wr ≤ 8000 := by
  obtain ⟨h, W0, P0, len, rfl, hV, -⟩ := hH
  obtain ⟨a1, a2, a3, a4, a5, a6, a7, a8, a9, a10, a11, a12, a13, a14, a15⟩ := hV
  exact ⟨a10, a11, by omega⟩
theorem R_fin (d : Nat) {lv : List (Option Value)} (hl : lv[0]? = some (some (.ref V0))) (hH : VR b V0 Z g c nc ns cap fi wr W S H) : Wp b L xs d mi_56 43 lv [] H (fun h' o => o = .inl none ∧ VR b V0 Z g c nc ns cap (fi + 1) wr W S h') := by
  obtain ⟨h, W0, P0, len, rfl, hV, z, y⟩ := hH
  have hV0 := hV
  obtain ⟨hI, oV, oW, oP⟩ := VI_f hV fi W
  obtain ⟨a1, a2, a3, a4, a5, a6, a7, a8, a9, a10, a11, a12, a13, a14, a15⟩ := hV
  have l4 : (mkV c W0 P0 len cap wr fi W S).2.2 4 = 8 * len := rfl
  have l5 : (mkV c W0 P0 len cap wr fi W S).2.2 5 = len := rfl
  have v0 : (mkV c W0 P0 len cap wr fi W S).2.1 3 0 0 = .ref W0 := rfl
  have v1 : (mkV c W0 P0 len cap wr fi W S).2.1 3 0 1 = .ref P0 := rfl
  have v2 : (mkV c W0 P0 len cap wr fi W S).2.1 3 0 2 = vI cap := rfl
  have v3 : (mkV c W0 P0 len cap wr fi W S).2.1 3 0 3 = vI wr := rfl
  have v4 : (mkV c W0 P0 len cap wr fi W S).2.1 3 0 4 = vI fi := rfl
  refine w_aload_n rfl hl ?_
  refine w_dupR rfl ?_
  refine k_get rfl oV rfl rfl ?_
  rw [v4]
  refine w_iconst rfl ?_
  refine w_iadd rfl ?_
  refine k_put hI rfl oV rfl rfl rfl rfl ?_
  rw [show vI ((fi : Int) + 1) = vI ((fi + 1 : Nat) : Int) from rfl, mk_F _ _ _ _ _ _ _ _ _ (vfl_4 _ _ _ _ _ (fi + 1))]
  refine w_return rfl rfl ?_
  exact ⟨rfl, h, W0, P0, len, rfl, hV0, z, y⟩
theorem V_app (d : Nat) (hd : 4 ≤ d) (hH : VH b V0 Z g c nc ns cap fi bl sp ls H) (hw : wrO cap (fi + 1) ≤ 4000) : Wp b L xs d mi_56 0 (ent (mL mi_56) [.ref V0]) [] H (fun h' o => o = .inl none ∧ VH b V0 Z g c nc ns cap (fi + 1) (bset bl fi zB) sp ls h') := by
  obtain ⟨wr, W, S, hR, hv⟩ := hH
  have hc := VR_cap hR
  obtain ⟨u, rfl⟩ : ∃ u, cap = u + 1 := ⟨cap - 1, by omega⟩
  have hu : 0 < u := by omega
  have e1 := hv.1
  have es := wrO_s hu fi
  have em : (wr : Int) % ((u : Int) + 1) = ((wr % (u + 1) : Nat) : Int) := (Int.natCast_emod wr (u + 1)).symm
  have hR0 := hR
  obtain ⟨h, W0, P0, len, rfl, hV, z, y⟩ := hR
  have hV0 := hV
  obtain ⟨hI, oV, oW, oP⟩ := VI_f hV fi W
  obtain ⟨a1, a2, a3, a4, a5, a6, a7, a8, a9, a10, a11, a12, a13, a14, a15⟩ := hV
  have l4 : (mkV c W0 P0 len (u + 1) wr fi W S).2.2 4 = 8 * len := rfl
  have l5 : (mkV c W0 P0 len (u + 1) wr fi W S).2.2 5 = len := rfl
  have v0 : (mkV c W0 P0 len (u + 1) wr fi W S).2.1 3 0 0 = .ref W0 := rfl
  have v1 : (mkV c W0 P0 len (u + 1) wr fi W S).2.1 3 0 1 = .ref P0 := rfl
  have v2 : (mkV c W0 P0 len (u + 1) wr fi W S).2.1 3 0 2 = vI (u + 1) := rfl
  have v3 : (mkV c W0 P0 len (u + 1) wr fi W S).2.1 3 0 3 = vI wr := rfl
  have v4 : (mkV c W0 P0 len (u + 1) wr fi W S).2.1 3 0 4 = vI fi := rfl
  refine w_aload_n rfl rfl ?_
  refine k_get rfl oV rfl rfl ?_
  rw [v3]
  refine w_aload_n rfl rfl ?_
  refine k_get rfl oV rfl rfl ?_
  rw [v2]
  refine w_irem rfl (by omega) (by omega) (by omega) (by omega) ?_
  rw [em]
  by_cases hr : fi % u = 0
  · have ew := wrO_0 hu hr
    have eq := fi_q hu hr
    have el := lab_e hu (fi / u)
    rw [eq] at el
    have g1 : wr % (u + 1) = 0 := by rw [e1, ew]; exact Nat.mul_mod_left _ _
    have g2 : (((wr + 1 : Nat) : Int) / ((u + 1 : Nat) : Int)) = ((fi / u : Nat) : Int) := by
      rw [← Int.natCast_ediv, Nat.div_eq_of_lt_le (k := fi / u) (by omega) (by rw [Nat.succ_mul]; omega)]
    have g3 : fi / u ≤ wr := by
      rw [e1, ew]
      exact Nat.le_mul_of_pos_right _ (by omega)
    refine w_ifne_f rfl (by omega) (by omega) (by omega) ?_
    refine w_aload_n rfl rfl ?_
    refine w_cv rfl (by decide) (by omega) rfl (CH_ob oV rfl) mt_57 (Nat.le_of_ble_eq_true rfl) (Nat.le_of_ble_eq_true rfl) (R_appP _ (by omega) hR0 (by omega)) ?_
    rintro _ _ ⟨rfl, W1, S1, hR1, s1, s2, s3⟩
    refine ⟨none, rfl, ?_⟩
    obtain ⟨fs1, ob1⟩ := VR_ob hR1
    refine w_aload_n rfl rfl ?_
    refine w_iconst rfl ?_
    refine w_iconst rfl ?_
    refine w_bipush rfl rfl ?_
    refine w_cv rfl (by decide) (by omega) rfl ob1 mt_60 (Nat.le_of_ble_eq_true rfl) (Nat.le_of_ble_eq_true rfl) (R_store _ hR1 (by omega) (at_ := 0) (wd := 1) (v := 76) (by decide) (by decide) (by omega) (by omega)) ?_
    rintro _ _ ⟨rfl, W2, hR2, t2⟩
    refine ⟨none, rfl, ?_⟩
    have hR3 := hR2
    clear hI oV oW oP l4 l5 v0 v1 v2 v3 v4
    obtain ⟨h2, W02, P02, len2, rfl, hV2, -, -⟩ := hR2
    obtain ⟨hI, oV, oW, oP⟩ := VI_f hV2 fi W2
    refine w_aload_n rfl rfl ?_
    refine w_iconst rfl ?_
    refine w_iconst rfl ?_
    refine w_aload_n rfl rfl ?_
    refine k_get rfl oV rfl rfl ?_
    rw [show (mkV c W02 P02 len2 (u + 1) (wr + 1) fi W2 S1).2.1 3 0 3 = vI ((wr + 1 : Nat) : Int) from rfl]
    refine w_aload_n rfl rfl ?_
    refine k_get rfl oV rfl rfl ?_
    rw [show (mkV c W02 P02 len2 (u + 1) (wr + 1) fi W2 S1).2.1 3 0 2 = vI ((u + 1 : Nat) : Int) from rfl]
    refine w_idiv rfl (by omega) (by omega) (by omega) (by omega) ?_
    rw [g2]
    refine w_cv rfl (by decide) (by omega) rfl (CH_ob oV rfl) mt_60 (Nat.le_of_ble_eq_true rfl) (Nat.le_of_ble_eq_true rfl) (R_store _ hR3 (by omega) (at_ := 1) (wd := 2) (v := ((fi / u : Nat) : Int)) (Int.natCast_nonneg _) (Int.le_trans (Int.ofNat_le.mpr g3) (by omega)) (by omega) (by omega)) ?_
    rintro _ _ ⟨rfl, W3, hR4, t3⟩
    refine ⟨none, rfl, ?_⟩
    obtain ⟨fs4, ob4⟩ := VR_ob hR4
    refine w_aload_n rfl rfl ?_
    refine w_cv rfl (by decide) (by omega) rfl ob4 mt_57 (Nat.le_of_ble_eq_true rfl) (Nat.le_of_ble_eq_true rfl) (R_appP _ (by omega) hR4 (by omega)) ?_
    rintro _ _ ⟨rfl, W5, S5, hR5, s5, s6, s7⟩
    refine ⟨none, rfl, ?_⟩
    refine Wp_im ?_ (R_fin d rfl hR5)
    rintro h9 o9 ⟨r1, r2⟩
    exact ⟨r1, _, _, _, r2, VV_a0 hu hr hv (lbB_of s1 t2 t3) s5 s2 s3 s6 s7⟩
  · have ew := wrO_1 hu hr
    have g1 : wr % (u + 1) ≠ 0 := by
      have g2 : psB (u + 1) fi % (u + 1) = 1 + fi % u := by
        have := Nat.mod_lt fi hu
        unfold psB
        rw [Nat.add_sub_cancel, Nat.add_assoc, Nat.mul_comm, Nat.mul_add_mod, Nat.mod_eq_of_lt (by omega)]
      rw [e1, ew, g2]
      omega
    have g4 := Nat.mod_lt wr (show 0 < u + 1 by omega)
    refine w_ifne_t rfl (by omega) (by omega) (by omega) ?_
    refine w_aload_n rfl rfl ?_
    refine w_cv rfl (by decide) (by omega) rfl (CH_ob oV rfl) mt_57 (Nat.le_of_ble_eq_true rfl) (Nat.le_of_ble_eq_true rfl) (R_appP _ (by omega) hR0 (by omega)) ?_
    rintro _ _ ⟨rfl, W1, S1, hR1, s1, s2, s3⟩
    refine ⟨none, rfl, ?_⟩
    refine Wp_im ?_ (R_fin d rfl hR1)
    rintro h9 o9 ⟨r1, r2⟩
    exact ⟨r1, _, _, _, r2, VV_a1 hu hr hv s1 s2 s3⟩
end Cv6
