/-! where blocks and labels lie -/
def wrO (cap fi : Nat) : Nat := fi + (fi + (cap - 1) - 1) / (cap - 1)
theorem psB_e {u : Nat} (hu : 0 < u) (k : Nat) : psB (u + 1) k = k + k / u + 1 := by
  unfold psB
  rw [Nat.add_sub_cancel, Nat.mul_succ]
  have := Nat.div_add_mod k u
  rw [Nat.mul_comm] at this
  omega
theorem wrO_s {u : Nat} (hu : 0 < u) (fi : Nat) : wrO (u + 1) (fi + 1) = psB (u + 1) fi + 1 := by
  rw [psB_e hu]
  unfold wrO
  rw [Nat.add_sub_cancel, show fi + 1 + u - 1 = fi + u by omega, Nat.add_div_right _ hu]
  omega
theorem wrO_0 {u : Nat} (hu : 0 < u) {fi : Nat} (hr : fi % u = 0) : wrO (u + 1) fi = fi / u * (u + 1) := by
  have h1 := Nat.div_add_mod fi u
  rw [hr, Nat.add_zero] at h1
  unfold wrO
  rw [Nat.add_sub_cancel, Nat.mul_succ, Nat.mul_comm (fi / u) u, h1]
  have h2 : (fi + u - 1) / u = fi / u := by
    rw [Nat.mul_comm] at h1
    refine Nat.div_eq_of_lt_le (by omega) ?_
    rw [Nat.succ_mul]
    omega
  rw [h2]
theorem wrO_1 {u : Nat} (hu : 0 < u) {fi : Nat} (hr : fi % u ≠ 0) : wrO (u + 1) fi = psB (u + 1) fi := by
  have h1 := Nat.div_add_mod fi u
  have h3 := Nat.mod_lt fi hu
  rw [psB_e hu]
  unfold wrO
  rw [Nat.add_sub_cancel]
  have h2 : (fi + u - 1) / u = fi / u + 1 := by
    rw [Nat.mul_comm] at h1
    refine Nat.div_eq_of_lt_le ?_ ?_
    · rw [Nat.succ_mul]
      omega
    · rw [Nat.succ_mul, Nat.succ_mul]
      omega
  rw [h2]
  omega
theorem psB_lt {u : Nat} (hu : 0 < u) {k k' : Nat} (hk : k < k') : psB (u + 1) k < psB (u + 1) k' := by
  rw [psB_e hu, psB_e hu]
  have := Nat.div_le_div_right (c := u) (Nat.le_of_lt hk)
  omega
theorem psB_wr {u : Nat} (hu : 0 < u) {k fi : Nat} (hk : k < fi) : psB (u + 1) k < wrO (u + 1) fi := by
  obtain ⟨f, rfl⟩ : ∃ f, fi = f + 1 := ⟨fi - 1, by omega⟩
  rw [wrO_s hu]
  rcases Nat.lt_or_ge k f with z | z
  · have := psB_lt hu z
    omega
  · obtain rfl : k = f := by omega
    omega
theorem lab_e {u : Nat} (hu : 0 < u) (v : Nat) : v * (u + 1) + 1 = psB (u + 1) (v * u) := by
  rw [psB_e hu, Nat.mul_div_cancel _ hu, Nat.mul_succ]
theorem lab_ne {u : Nat} (hu : 0 < u) (v k : Nat) : v * (u + 1) ≠ psB (u + 1) k := by
  intro z
  have h1 : v * (u + 1) % (u + 1) = 0 := Nat.mul_mod_left _ _
  have h3 := Nat.mod_lt k hu
  have h2 : psB (u + 1) k % (u + 1) = 1 + k % u := by
    unfold psB
    rw [Nat.add_sub_cancel, Nat.add_assoc, Nat.mul_comm, Nat.mul_add_mod, Nat.mod_eq_of_lt (by omega)]
  rw [z, h2] at h1
  omega
theorem lab_wr {u : Nat} (hu : 0 < u) {v fi : Nat} (hv : v * u < fi) : v * (u + 1) < wrO (u + 1) fi := by
  have := psB_wr hu hv
  rw [← lab_e hu] at this
  omega
def lbB (v : Nat) : Nat → Int := putK (putK zB 0 76 1) 1 v 2
def VV (cap fi wr : Nat) (W : Nat → Int64) (S : Nat → Int) (bl : Nat → Nat → Int) (sp ls : Nat → Int) : Prop := wr = wrO cap fi ∧ (∀ k, k < fi → (∀ j, j < 64 → ocW W (psB cap k) j = bl k j) ∧ S (psB cap k) = sp k) ∧ (∀ v, v * (cap - 1) < fi → (∀ j, j < 64 → ocW W (v * cap) j = lbB v j) ∧ S (v * cap) = ls v) ∧ (∀ k, fi ≤ k → sp k = 0) ∧ (∀ v, fi ≤ v * (cap - 1) → ls v = 0)
/-- the heap with the volumes over the rest; outside Z it is g -/
def VR (b V0 : Nat) (Z : Nat → Prop) (g : Nat → Option AO) (c : CS) (nc ns cap fi wr : Nat) (W : Nat → Int64) (S : Nat → Int) (H : AH) : Prop := ∃ (h : AH) (W0 P0 len : Nat), H = CH h (mkV c W0 P0 len cap wr fi W S) ∧ VI b c V0 W0 P0 len cap wr S ∧ (Z W0 ∧ Z P0 ∧ W0 < h.1 ∧ P0 < h.1 ∧ b < h.1) ∧ (∀ a, ¬ Z a → h.2.2 a = g a) ∧ (∀ a, h.1 ≤ a → Z a ∧ c.1 a = none) ∧ h.1 ≤ nc + len ∧ h.2.1 ≤ ns + 18 * len
def VH (b V0 : Nat) (Z : Nat → Prop) (g : Nat → Option AO) (c : CS) (nc ns cap fi : Nat) (bl : Nat → Nat → Int) (sp ls : Nat → Int) (H : AH) : Prop := ∃ (wr : Nat) (W : Nat → Int64) (S : Nat → Int), VR b V0 Z g c nc ns cap fi wr W S H ∧ VV cap fi wr W S bl sp ls
theorem VR_at {b V0 : Nat} {Z : Nat → Prop} {g : Nat → Option AO} {c : CS} {nc ns cap fi wr : Nat} {W : Nat → Int64} {S : Nat → Int} {H : AH} (hH : VR b V0 Z g c nc ns cap fi wr W S H) {a k i : Nat} (ho : c.1 a = some (k, i)) (h3 : k ≠ 3) (h4 : k ≠ 4) (h5 : k ≠ 5) : H.2.2 a = some (ccv c.2.2 k (c.2.1 k i)) := by
  obtain ⟨h, W0, P0, len, rfl, hV, -⟩ := hH
  have n1 : a ≠ W0 := fun z => by rw [z, hV.2.1] at ho; cases ho
  have n2 : a ≠ P0 := fun z => by rw [z, hV.2.2.1] at ho; cases ho
  rw [CH_at (q := (k, i)) (by rw [mk_o n1 n2]; exact ho)]
  show some (ccv _ k ((mkV c W0 P0 len cap wr fi W S).2.1 k i)) = _
  rw [mk_k h3 h4 h5, ccv_l (l := (mkV c W0 P0 len cap wr fi W S).2.2) (l' := c.2.2) rfl rfl h4 h5]
theorem VH_at {b V0 : Nat} {Z : Nat → Prop} {g : Nat → Option AO} {c : CS} {nc ns cap fi : Nat} {bl : Nat → Nat → Int} {sp ls : Nat → Int} {H : AH} (hH : VH b V0 Z g c nc ns cap fi bl sp ls H) {a k i : Nat} (ho : c.1 a = some (k, i)) (h3 : k ≠ 3) (h4 : k ≠ 4) (h5 : k ≠ 5) : H.2.2 a = some (ccv c.2.2 k (c.2.1 k i)) := by
  obtain ⟨wr, W, S, hR, -⟩ := hH
  exact VR_at hR ho h3 h4 h5
section Cv5
variable {b L V0 : Nat} {xs : Nat → Int32} {Z : Nat → Prop} {g : Nat → Option AO} {c : CS} {nc ns cap fi wr : Nat} {W : Nat → Int64} {S : Nat → Int} {bl : Nat → Nat → Int} {sp ls : Nat → Int} {H : AH}
theorem VR_ob (hH : VR b V0 Z g c nc ns cap fi wr W S H) : ∃ fs, H.2.2 V0 = some (.inr (2, fs)) := by
  obtain ⟨h, W0, P0, len, rfl, hV, -⟩ := hH
  obtain ⟨hI, oV, oW, oP⟩ := VI_f hV fi W
  exact ⟨_, CH_ob oV rfl⟩
theorem R_appP (d : Nat) (hd : 3 ≤ d) (hH : VR b V0 Z g c nc ns cap fi wr W S H) (hw : wr ≤ 4000) : Wp b L xs d mi_57 0 (ent (mL mi_57) [.ref V0]) [] H (fun h' o => o = .inl none ∧ ∃ (W' : Nat → Int64) (S' : Nat → Int), VR b V0 Z g c nc ns cap fi (wr + 1) W' S' h' ∧ StW W W' wr zB ∧ (∀ q, q < wr → S' q = S q) ∧ S' wr = 0) := by
  obtain ⟨h, W0, P0, len, rfl, hV, ⟨z1, z2, z3, z4, z5⟩, y1, y2, y3, y4⟩ := hH
  have hV0 := hV
  obtain ⟨a1, a2, a3, a4, a5, a6, a7, a8, a9, a10, a11, a12, a13, a14, a15⟩ := hV
  have us : ∀ (S : Nat → Int), (∀ i, S i = 0 ∨ S i = 1) → ∀ i, upB S wr 0 i = 0 ∨ upB S wr 0 i = 1 := fun S hS i => by
    unfold upB
    split
    · exact Or.inl rfl
    · exact hS i
  have u0 : ∀ (S : Nat → Int), upB S wr 0 wr = 0 := fun S => by
    unfold upB
    rw [if_pos rfl]
  have u1 : ∀ (S : Nat → Int) (q : Nat), q < wr → upB S wr 0 q = S q := fun S q hq => by
    unfold upB
    rw [if_neg (by omega)]
  rcases Nat.lt_or_ge wr len with q | q
  · refine Wp_im ?_ (k_appN d hV0 q)
    rintro h' o ⟨rfl, rfl⟩
    refine ⟨rfl, _, _, ⟨h, W0, P0, len, rfl, ⟨a1, a2, a3, a4, a5, a6, a7, a8, a9, a10, a11, by omega, a13, a14, us S a15⟩, ⟨z1, z2, z3, z4, z5⟩, y1, y2, y3, y4⟩, zW_o W wr, u1 S, u0 S⟩
  · obtain rfl : wr = len := by omega
    refine Wp_im ?_ (k_appG d hd hV0 rfl hw z3 z4 (fun a ha => (y2 a ha).2) z5)
    rintro h' o ⟨rfl, rfl⟩
    have gs : ∀ i, gS1 S wr i = 0 ∨ gS1 S wr i = 1 := fun i => by
      unfold gS1
      split
      · exact a15 i
      · exact Or.inl rfl
    refine ⟨rfl, _, _, ⟨hgr h W0 P0 wr W S, h.1, h.1 + 1, 2 * wr, rfl, ⟨a1, (y2 _ (Nat.le_refl _)).2, (y2 _ (by omega)).2, by omega, by omega, by omega, a7, a8, a9, a10, a11, by omega, by omega, by omega, us _ gs⟩, ⟨(y2 _ (Nat.le_refl _)).1, (y2 _ (by omega)).1, ?_, ?_, ?_⟩, fun a ha => ?_, fun a ha => y2 a ?_, ?_, ?_⟩, ?_, fun q hq => ?_, u0 _⟩
    · show h.1 < h.1 + 2
      omega
    · show h.1 + 1 < h.1 + 2
      omega
    · show b < h.1 + 2
      omega
    · show (if a = W0 then _ else if a = P0 then _ else h.2.2 a) = _
      rw [if_neg (show ¬ a = W0 from fun z => ha (by rw [z]; exact z1)), if_neg (show ¬ a = P0 from fun z => ha (by rw [z]; exact z2))]
      exact y1 a ha
    · have ha : h.1 + 2 ≤ a := ha
      omega
    · show h.1 + 2 ≤ _
      omega
    · show h.2.1 + 2 * (8 * wr) + 2 * wr ≤ _
      omega
    · intro q j h1 h2
      rw [zW_o (gJ8 W wr) wr q j h1 h2]
      by_cases e : q = wr
      · rw [if_pos e, if_pos e]
      · rw [if_neg e, if_neg e]
        unfold ocW gJ8
        rw [if_pos (by omega)]
    · rw [u1 _ q hq]
      unfold gS1
      rw [if_pos hq]
theorem R_store (d : Nat) (hH : VR b V0 Z g c nc ns cap fi wr W S H) (hw1 : 1 ≤ wr) {at_ wd : Nat} {v : Int} (v1 : 0 ≤ v) (v2 : v ≤ 2147483647) (hw : at_ + wd ≤ 64) (w4 : wd ≤ 4) : Wp b L xs d mi_60 0 (ent (mL mi_60) [.ref V0, vI at_, vI wd, vI v]) [] H (fun h' o => o = .inl none ∧ ∃ W' : Nat → Int64, VR b V0 Z g c nc ns cap fi wr W' S h' ∧ StW W W' (wr - 1) (stK (ocW W (wr - 1)) at_ v wd)) := by
  obtain ⟨h, W0, P0, len, rfl, hV, z, y⟩ := hH
  refine Wp_im ?_ (k_store d hV hw1 v1 v2 hw w4)
  rintro h' o ⟨rfl, W', rfl, hs⟩
  exact ⟨rfl, W', ⟨h, W0, P0, len, rfl, hV, z, y⟩, hs⟩
/-- a block more -/
def bset (bl : Nat → Nat → Int) (k : Nat) (B : Nat → Int) : Nat → Nat → Int := fun k' => if k' = k then B else bl k'
theorem bset_eq (bl : Nat → Nat → Int) (k : Nat) (B : Nat → Int) : bset bl k B k = B := by unfold bset; rw [if_pos rfl]
theorem bset_ne {bl : Nat → Nat → Int} {k k' : Nat} {B : Nat → Int} (hk : k' ≠ k) : bset bl k B k' = bl k' := by unfold bset; rw [if_neg hk]
theorem bset_2 (bl : Nat → Nat → Int) (k : Nat) (B B' : Nat → Int) : bset (bset bl k B) k B' = bset bl k B' := by
  funext k'
  unfold bset
  by_cases e : k' = k
  · rw [if_pos e, if_pos e]
  · rw [if_neg e, if_neg e, if_neg e]
theorem V_store (d : Nat) (hH : VH b V0 Z g c nc ns cap (fi + 1) bl sp ls H) {at_ wd : Nat} {v : Int} (v1 : 0 ≤ v) (v2 : v ≤ 2147483647) (hw : at_ + wd ≤ 64) (w4 : wd ≤ 4) : Wp b L xs d mi_60 0 (ent (mL mi_60) [.ref V0, vI at_, vI wd, vI v]) [] H (fun h' o => o = .inl none ∧ VH b V0 Z g c nc ns cap (fi + 1) (bset bl fi (stK (bl fi) at_ v wd)) sp ls h') := by
  obtain ⟨wr, W, S, hR, e1, e2, e3, e4, e5⟩ := hH
  have hc : 4 ≤ cap := by
    obtain ⟨h, W0, P0, len, rfl, hV, -⟩ := hR
    exact hV.2.2.2.2.2.2.2.2.2.1
  obtain ⟨u, rfl⟩ : ∃ u, cap = u + 1 := ⟨cap - 1, by omega⟩
  have hu : 0 < u := by omega
  have ew := wrO_s hu fi
  have ep : psB (u + 1) fi = wr - 1 := by omega
  refine Wp_im ?_ (R_store d hR (by omega) v1 v2 hw w4)
  rintro h' o ⟨r1, W', r2, r3⟩
  refine ⟨r1, wr, W', S, r2, e1, fun k hk => ⟨fun j hj => ?_, (e2 k hk).2⟩, fun x hx => ⟨fun j hj => ?_, (e3 x hx).2⟩, e4, e5⟩
  · have g1 := psB_wr hu hk
    rw [r3 _ _ (by omega) hj]
    by_cases e : k = fi
    · subst e
      rw [if_pos ep, bset_eq]
      refine stK_c v wd at_ _ _ hw (fun j hj => ?_) j hj
      rw [← ep]
      exact (e2 k hk).1 j hj
    · have := psB_lt hu (show k < fi by omega)
      rw [if_neg (by omega), bset_ne e]
      exact (e2 k hk).1 j hj
  · have g1 := lab_wr hu (v := x) (by simpa using hx)
    have g2 := lab_ne hu x fi
    rw [r3 _ _ (by omega) hj, if_neg (by omega)]
    exact (e3 x hx).1 j hj
theorem lbB_of {v : Nat} {W W' W'' : Nat → Int64} {p : Nat} (h0 : StW W W' p zB) {W3 : Nat → Int64} (h1 : StW W' W3 p (stK (ocW W' p) 0 76 1)) (h2 : StW W3 W'' p (stK (ocW W3 p) 1 v 2)) : StW W W'' p (lbB v) := by
  intro q j g1 g2
  rw [h2 q j g1 g2]
  by_cases e : q = p
  · subst e
    rw [if_pos rfl, if_pos rfl]
    have s1 : ∀ j, j < 64 → ocW W3 q j = putK zB 0 76 1 j := fun j hj => by
      rw [h1 q j g1 hj, if_pos rfl, stK_c 76 1 0 _ zB (by omega) (fun j hj => by rw [h0 q j g1 hj, if_pos rfl]) j hj, stK_put 76 1 0 zB (fun _ _ _ => rfl)]
    rw [stK_c v 2 1 _ _ (by omega) s1 j g2, stK_put v 2 1 _ (fun i i1 i2 => by rw [putK_at, if_neg (by omega)]; rfl)]
    rfl
  · rw [if_neg e, if_neg e, h1 q j g1 g2, if_neg e, h0 q j g1 g2, if_neg e]
end Cv5
