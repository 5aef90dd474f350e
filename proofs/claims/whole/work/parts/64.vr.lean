/-! steps over the heap with the volumes -/
def CZ (Z : Nat → Prop) (c : CS) : Prop := ∀ a q, c.1 a = some q → Z a
theorem mk_up {c : CS} {W0 P0 len cap wr fi k i f : Nat} {W : Nat → Int64} {S : Nat → Int} {x : Value} (h3 : k ≠ 3) (h4 : k ≠ 4) (h5 : k ≠ 5) : upC (mkV c W0 P0 len cap wr fi W S) k i f x = mkV (upC c k i f x) W0 P0 len cap wr fi W S := by
  refine Prod.ext rfl (Prod.ext (funext fun k' => funext fun i' => ?_) rfl)
  show (if k' = k ∧ i' = i then upV ((mkV c W0 P0 len cap wr fi W S).2.1 k i) f x else (if k' = 3 ∧ i' = 0 then _ else if k' = 4 ∧ i' = 0 then _ else if k' = 5 ∧ i' = 0 then _ else c.2.1 k' i')) = (if k' = 3 ∧ i' = 0 then _ else if k' = 4 ∧ i' = 0 then _ else if k' = 5 ∧ i' = 0 then _ else if k' = k ∧ i' = i then upV (c.2.1 k i) f x else c.2.1 k' i')
  by_cases e : k' = k ∧ i' = i
  · have n3 : ¬ (k' = 3 ∧ i' = 0) := fun z => h3 (by rw [← e.1, z.1])
    have n4 : ¬ (k' = 4 ∧ i' = 0) := fun z => h4 (by rw [← e.1, z.1])
    have n5 : ¬ (k' = 5 ∧ i' = 0) := fun z => h5 (by rw [← e.1, z.1])
    rw [if_pos e, if_neg n3, if_neg n4, if_neg n5, if_pos e, mk_k h3 h4 h5]
  · rw [if_neg e, if_neg e]
theorem mk_nw {c : CS} {W0 P0 len cap wr fi a k i : Nat} {W : Nat → Int64} {S : Nat → Int} {v : Nat → Value} (h3 : k ≠ 3) (h4 : k ≠ 4) (h5 : k ≠ 5) (n1 : a ≠ W0) (n2 : a ≠ P0) : nwC (mkV c W0 P0 len cap wr fi W S) a k i v (mkV c W0 P0 len cap wr fi W S).2.2 = mkV (nwC c a k i v c.2.2) W0 P0 len cap wr fi W S := by
  refine Prod.ext (funext fun b => ?_) (Prod.ext (funext fun k' => funext fun i' => ?_) rfl)
  · show (if b = a then some (k, i) else if b = W0 then some (4, 0) else if b = P0 then some (5, 0) else c.1 b) = (if b = W0 then some (4, 0) else if b = P0 then some (5, 0) else if b = a then some (k, i) else c.1 b)
    by_cases e : b = a
    · rw [if_pos e, if_neg (fun z => n1 (e.symm.trans z)), if_neg (fun z => n2 (e.symm.trans z)), if_pos e]
    · rw [if_neg e, if_neg e]
  · show (if k' = k ∧ i' = i then v else (if k' = 3 ∧ i' = 0 then _ else if k' = 4 ∧ i' = 0 then _ else if k' = 5 ∧ i' = 0 then _ else c.2.1 k' i')) = (if k' = 3 ∧ i' = 0 then _ else if k' = 4 ∧ i' = 0 then _ else if k' = 5 ∧ i' = 0 then _ else if k' = k ∧ i' = i then v else c.2.1 k' i')
    by_cases e : k' = k ∧ i' = i
    · have n3 : ¬ (k' = 3 ∧ i' = 0) := fun z => h3 (by rw [← e.1, z.1])
      have n4 : ¬ (k' = 4 ∧ i' = 0) := fun z => h4 (by rw [← e.1, z.1])
      have n5 : ¬ (k' = 5 ∧ i' = 0) := fun z => h5 (by rw [← e.1, z.1])
      rw [if_pos e, if_neg n3, if_neg n4, if_neg n5, if_pos e]
    · rw [if_neg e, if_neg e]
/-- cells that are no one's any more -/
def dpP (c : CS) (p : Nat × Nat → Bool) : CS := (fun a => match c.1 a with | some q => if p q = true then none else some q | none => none, c.2.1, c.2.2)
theorem dpP_o {c : CS} {p : Nat × Nat → Bool} {a : Nat} {q : Nat × Nat} (ho : c.1 a = some q) (hp : p q = false) : (dpP c p).1 a = some q := by
  show (match c.1 a with | some q => if p q = true then none else some q | none => none) = _
  rw [ho]
  dsimp only
  rw [if_neg (by rw [hp]; decide)]
theorem dpP_i {c : CS} {p : Nat × Nat → Bool} {a : Nat} {q : Nat × Nat} (ho : (dpP c p).1 a = some q) : c.1 a = some q ∧ p q = false := by
  have ho : (match c.1 a with | some q => if p q = true then none else some q | none => none) = some q := ho
  cases hc : c.1 a with
  | none => rw [hc] at ho; cases ho
  | some q' =>
    rw [hc] at ho
    dsimp only at ho
    by_cases e : p q' = true
    · rw [if_pos e] at ho; cases ho
    · rw [if_neg e] at ho
      cases ho
      exact ⟨rfl, by simpa using e⟩
theorem dpP_n {c : CS} {p : Nat × Nat → Bool} {a : Nat} (ho : c.1 a = none) : (dpP c p).1 a = none := by
  show (match c.1 a with | some q => if p q = true then none else some q | none => none) = _
  rw [ho]
section Vr
variable {b L V0 : Nat} {xs : Nat → Int32} {Z : Nat → Prop} {g : Nat → Option AO} {c : CS} {nc ns cap fi : Nat} {bl : Nat → Nat → Int} {sp ls : Nat → Int} {H : AH} {d : Nat} {M : MI} {pc nx : Nat} {ri : List Nat} {lv : List (Option Value)} {st : List Value} {Q : AH → RO → Prop}
theorem VH_put (hH : VH b V0 Z g c nc ns cap fi bl sp ls H) {a k i f : Nat} {x : Value} (ho : c.1 a = some (k, i)) (h3 : k ≠ 3) (h4 : k ≠ 4) (h5 : k ≠ 5) : VH b V0 Z g (upC c k i f x) nc ns cap fi bl sp ls (hput H a (ccv c.2.2 k (upV (c.2.1 k i) f x))) := by
  obtain ⟨wr, W, S, ⟨h, W0, P0, len, rfl, hV, z⟩, hv⟩ := hH
  refine ⟨wr, W, S, ⟨h, W0, P0, len, ?_, hV, z⟩, hv⟩
  obtain ⟨hI, -⟩ := VI_f hV fi W
  rw [← mk_up h3 h4 h5, ← CH_put hI (mk_s hV.2.1 hV.2.2.1 ho), mk_k h3 h4 h5, ccv_l (l := (mkV c W0 P0 len cap wr fi W S).2.2) (l' := c.2.2) rfl rfl h4 h5]
theorem VH_new (hH : VH b V0 Z g c nc ns cap fi bl sp ls H) {k i n : Nat} {v : Nat → Value} (h3 : k ≠ 3) (h4 : k ≠ 4) (h5 : k ≠ 5) (hf : ∀ a, c.1 a ≠ some (k, i)) : VH b V0 Z g (nwC c H.1 k i v c.2.2) (nc + 1) (ns + n) cap fi bl sp ls (hnew H (ccv c.2.2 k v) n) := by
  obtain ⟨wr, W, S, ⟨h, W0, P0, len, rfl, hV, ⟨z1, z2, z3, z4, z5⟩, y1, y2, y3, y4⟩, hv⟩ := hH
  obtain ⟨a1, a2, a3, a4, a5, a6, a7, a8, a9, a10⟩ := hV
  have ow : ∀ b, b ≠ h.1 → (nwC c h.1 k i v c.2.2).1 b = c.1 b := fun b hb => if_neg hb
  have v0 : V0 ≠ h.1 := fun z => by rw [z, (y2 _ (Nat.le_refl _)).2] at a1; cases a1
  refine ⟨wr, W, S, ⟨(h.1 + 1, h.2.1 + n, h.2.2), W0, P0, len, ?_, ⟨?_, ?_, ?_, a4, a5, a6, nwC_CI a7 hf, fun a j => ?_, fun a j => ?_, a10⟩, ⟨z1, z2, Nat.lt_succ_of_lt z3, Nat.lt_succ_of_lt z4, Nat.lt_succ_of_lt z5⟩, y1, fun a ha => ?_, ?_, ?_⟩, hv⟩
  · show hnew (CH h (mkV c W0 P0 len cap wr fi W S)) (ccv c.2.2 k v) n = CH _ (mkV (nwC c h.1 k i v c.2.2) W0 P0 len cap wr fi W S)
    rw [← mk_nw h3 h4 h5 (by omega) (by omega), ← CH_new (h := h) (n := n) (len := (mkV c W0 P0 len cap wr fi W S).2.2) (fun b hb => ?_) (fun _ _ _ _ _ => rfl), ccv_l (l := (mkV c W0 P0 len cap wr fi W S).2.2) (l' := c.2.2) rfl rfl h4 h5]
    have hb : (if b = W0 then some (4, 0) else if b = P0 then some (5, 0) else c.1 b) = some (k, i) := hb
    by_cases e1 : b = W0
    · rw [if_pos e1] at hb
      cases hb
      exact h4 rfl
    · rw [if_neg e1] at hb
      by_cases e2 : b = P0
      · rw [if_pos e2] at hb
        cases hb
        exact h5 rfl
      · rw [if_neg e2] at hb
        exact hf b hb
  · exact (ow _ v0).trans a1
  · exact (ow W0 (by omega)).trans a2
  · exact (ow P0 (by omega)).trans a3
  · intro z
    have z : (if a = h.1 then some (k, i) else c.1 a) = some (4, j) := z
    by_cases e : a = h.1
    · rw [if_pos e] at z; cases z; exact h4 rfl
    · rw [if_neg e] at z; exact a8 a j z
  · intro z
    have z : (if a = h.1 then some (k, i) else c.1 a) = some (5, j) := z
    by_cases e : a = h.1
    · rw [if_pos e] at z; cases z; exact h5 rfl
    · rw [if_neg e] at z; exact a9 a j z
  · have ha : h.1 + 1 ≤ a := ha
    exact ⟨(y2 a (by omega)).1, (ow a (by omega)).trans (y2 a (by omega)).2⟩
  · show h.1 + 1 ≤ _
    omega
  · show h.2.1 + n ≤ _
    omega
theorem VH_skip (hH : VH b V0 Z g c nc ns cap fi bl sp ls H) (n : Nat) : VH b V0 Z g c (nc + 1) (ns + n) cap fi bl sp ls (hskip H n) := by
  obtain ⟨wr, W, S, ⟨h, W0, P0, len, rfl, hV, ⟨z1, z2, z3, z4, z5⟩, y1, y2, y3, y4⟩, hv⟩ := hH
  refine ⟨wr, W, S, ⟨(h.1 + 1, h.2.1 + n, h.2.2), W0, P0, len, rfl, hV, ⟨z1, z2, Nat.lt_succ_of_lt z3, Nat.lt_succ_of_lt z4, Nat.lt_succ_of_lt z5⟩, y1, fun a ha => y2 a (Nat.le_of_succ_le ha), ?_, ?_⟩, hv⟩
  · show h.1 + 1 ≤ _
    omega
  · show h.2.1 + n ≤ _
    omega
theorem VH_more (hH : VH b V0 Z g c nc ns cap fi bl sp ls H) {nc' ns' : Nat} (h1 : nc ≤ nc') (h2 : ns ≤ ns') : VH b V0 Z g c nc' ns' cap fi bl sp ls H := by
  obtain ⟨wr, W, S, ⟨h, W0, P0, len, rfl, hV, z, y1, y2, y3, y4⟩, hv⟩ := hH
  exact ⟨wr, W, S, ⟨h, W0, P0, len, rfl, hV, z, y1, y2, by omega, by omega⟩, hv⟩
theorem VH_fr (hH : VH b V0 Z g c nc ns cap fi bl sp ls H) : (∀ a, H.1 ≤ a → Z a ∧ c.1 a = none) ∧ b < H.1 := by
  obtain ⟨wr, W, S, ⟨h, W0, P0, len, rfl, hV, ⟨z1, z2, z3, z4, z5⟩, y1, y2, y3, y4⟩, hv⟩ := hH
  exact ⟨y2, z5⟩
theorem VH_drop (hH : VH b V0 Z g c nc ns cap fi bl sp ls H) (hZ : CZ Z c) (p : Nat × Nat → Bool) (hp : p (3, 0) = false) : VH b V0 Z g (dpP c p) nc ns cap fi bl sp ls H := by
  obtain ⟨wr, W, S, ⟨h, W0, P0, len, rfl, hV, ⟨z1, z2, z3, z4, z5⟩, y1, y2, y3, y4⟩, hv⟩ := hH
  obtain ⟨a1, a2, a3, a4, a5, a6, a7, a8, a9, a10⟩ := hV
  refine ⟨wr, W, S, ⟨(h.1, h.2.1, fun a => match c.1 a with | some q => (CH h (mkV c W0 P0 len cap wr fi W S)).2.2 a | none => h.2.2 a), W0, P0, len, ?_, ⟨dpP_o a1 hp, dpP_n a2, dpP_n a3, a4, a5, a6, fun x y q h1 h2 => a7 x y q (dpP_i h1).1 (dpP_i h2).1, fun a i z => a8 a i (dpP_i z).1, fun a i z => a9 a i (dpP_i z).1, a10⟩, ⟨z1, z2, z3, z4, z5⟩, fun a ha => ?_, fun a ha => ⟨(y2 a ha).1, dpP_n (y2 a ha).2⟩, y3, y4⟩, hv⟩
  · refine Prod.ext rfl (Prod.ext rfl (funext fun a => ?_))
    by_cases e1 : a = W0
    · rw [e1, CH_at (q := (4, 0)) (show (mkV c W0 P0 len cap wr fi W S).1 W0 = _ from if_pos rfl), CH_at (q := (4, 0)) (show (mkV (dpP c p) W0 P0 len cap wr fi W S).1 W0 = _ from if_pos rfl)]
      rfl
    by_cases e2 : a = P0
    · rw [e2, CH_at (q := (5, 0)) (show (mkV c W0 P0 len cap wr fi W S).1 P0 = _ from by show (if P0 = W0 then _ else if P0 = P0 then _ else _) = _; rw [if_neg (fun z => a4 z.symm), if_pos rfl]), CH_at (q := (5, 0)) (show (mkV (dpP c p) W0 P0 len cap wr fi W S).1 P0 = _ from by show (if P0 = W0 then _ else if P0 = P0 then _ else _) = _; rw [if_neg (fun z => a4 z.symm), if_pos rfl])]
      rfl
    cases hc : c.1 a with
    | none =>
      rw [CH_out (show (mkV c W0 P0 len cap wr fi W S).1 a = none from by rw [mk_o e1 e2]; exact hc), CH_out (show (mkV (dpP c p) W0 P0 len cap wr fi W S).1 a = none from by rw [mk_o e1 e2]; exact dpP_n hc)]
      show _ = (match c.1 a with | some q => _ | none => h.2.2 a)
      rw [hc]
    | some q =>
      by_cases e : p q = true
      · rw [CH_out (c := mkV (dpP c p) W0 P0 len cap wr fi W S) (by rw [mk_o e1 e2]; show (match c.1 a with | some q => if p q = true then none else some q | none => none) = _; rw [hc]; dsimp only; rw [if_pos e])]
        show _ = (match c.1 a with | some q => (CH h (mkV c W0 P0 len cap wr fi W S)).2.2 a | none => h.2.2 a)
        rw [hc]
      · rw [CH_at (q := q) (show (mkV c W0 P0 len cap wr fi W S).1 a = some q from by rw [mk_o e1 e2]; exact hc), CH_at (q := q) (show (mkV (dpP c p) W0 P0 len cap wr fi W S).1 a = some q from by rw [mk_o e1 e2]; exact dpP_o hc (by simpa using e))]
        rfl
  · show (match c.1 a with | some q => _ | none => h.2.2 a) = _
    cases hc : c.1 a with
    | none => exact y1 a ha
    | some q => exact absurd (hZ a q hc) ha
theorem VH_1 {a : Nat} {o : AO} : (hput H a o).1 = H.1 := rfl
theorem v_put (hH : VH b V0 Z g c nc ns cap fi bl sp ls H) {i f ci fj a k n : Nat} {fs : List Value} {v : Value} {ty : FieldType} (q : fet (mE M) pc = some (.putfield i, nx, f :: ci :: fj :: ri)) (ho : c.1 a = some (k, n)) (h3 : k ≠ 3) (h4 : k ≠ 4) (h5 : k ≠ 5) (hk : ccv c.2.2 k (c.2.1 k n) = .inr (ci, fs)) (ht : (vty.getD ci [])[fj]? = some ty) (hv : fitv ty v = true) (hs : ccv c.2.2 k (upV (c.2.1 k n) fj v) = .inr (ci, fs.set fj v)) (kk : ∀ H', H'.1 = H.1 → VH b V0 Z g (upC c k n fj v) nc ns cap fi bl sp ls H' → Wp b L xs d M nx lv st H' Q) : Wp b L xs d M pc lv (v :: .ref a :: st) H Q := w_putfield q (by rw [VH_at hH ho h3 h4 h5, hk]) ht hv (by rw [← hs]; exact kk _ rfl (VH_put hH ho h3 h4 h5))
theorem v_alen (hH : VH b V0 Z g c nc ns cap fi bl sp ls H) {a k i n : Nat} {ty : FieldType} (q : fet (mE M) pc = some (.arraylength, nx, ri)) (hb : a ≠ b) (ho : c.1 a = some (k, i)) (h3 : k ≠ 3) (h4 : k ≠ 4) (h5 : k ≠ 5) (hk : ccv c.2.2 k (c.2.1 k i) = .inl (ty, n, c.2.1 k i)) (kk : Wp b L xs d M nx lv (vI n :: st) H Q) : Wp b L xs d M pc lv (.ref a :: st) H Q := w_alen q hb (by rw [VH_at hH ho h3 h4 h5, hk]) kk
theorem v_iaload (hH : VH b V0 Z g c nc ns cap fi bl sp ls H) {j : Int} {a k i n : Nat} {v : Value} (q : fet (mE M) pc = some (.iaload, nx, ri)) (hb : a ≠ b) (ho : c.1 a = some (k, i)) (h3 : k ≠ 3) (h4 : k ≠ 4) (h5 : k ≠ 5) (hk : ccv c.2.2 k (c.2.1 k i) = .inl (.int, n, c.2.1 k i)) (j1 : 0 ≤ j) (j2 : j < n) (j3 : n ≤ 2147483647) (he : c.2.1 k i j.toNat = v) (kk : Wp b L xs d M nx lv (v :: st) H Q) : Wp b L xs d M pc lv (vI j :: .ref a :: st) H Q := w_iaload q hb (by rw [VH_at hH ho h3 h4 h5, hk]) j1 j2 j3 (by rw [he]; exact kk)
theorem v_baload (hH : VH b V0 Z g c nc ns cap fi bl sp ls H) {j : Int} {a k i n : Nat} {v : Value} {ty : FieldType} (q : fet (mE M) pc = some (.baload, nx, ri)) (ho : c.1 a = some (k, i)) (h3 : k ≠ 3) (h4 : k ≠ 4) (h5 : k ≠ 5) (hk : ccv c.2.2 k (c.2.1 k i) = .inl (ty, n, c.2.1 k i)) (hty : ty = .byte ∨ ty = .boolean) (j1 : 0 ≤ j) (j2 : j < n) (j3 : n ≤ 2147483647) (he : c.2.1 k i j.toNat = v) (kk : Wp b L xs d M nx lv (v :: st) H Q) : Wp b L xs d M pc lv (vI j :: .ref a :: st) H Q := w_baload q (by rw [VH_at hH ho h3 h4 h5, hk]) hty j1 j2 j3 (by rw [he]; exact kk)
theorem v_aaload (hH : VH b V0 Z g c nc ns cap fi bl sp ls H) {j : Int} {a k i n : Nat} {v : Value} {C : String} (q : fet (mE M) pc = some (.aaload, nx, ri)) (ho : c.1 a = some (k, i)) (h3 : k ≠ 3) (h4 : k ≠ 4) (h5 : k ≠ 5) (hk : ccv c.2.2 k (c.2.1 k i) = .inl (.object C, n, c.2.1 k i)) (j1 : 0 ≤ j) (j2 : j < n) (j3 : n ≤ 2147483647) (he : c.2.1 k i j.toNat = v) (kk : Wp b L xs d M nx lv (v :: st) H Q) : Wp b L xs d M pc lv (vI j :: .ref a :: st) H Q := w_aaload q (by rw [VH_at hH ho h3 h4 h5, hk]) (Or.inl ⟨C, rfl⟩) j1 j2 j3 (by rw [he]; exact kk)
theorem v_iastore (hH : VH b V0 Z g c nc ns cap fi bl sp ls H) {j x : Int} {a k i n : Nat} (q : fet (mE M) pc = some (.iastore, nx, ri)) (ho : c.1 a = some (k, i)) (h3 : k ≠ 3) (h4 : k ≠ 4) (h5 : k ≠ 5) (hk : ∀ v, ccv c.2.2 k v = .inl (.int, n, v)) (j1 : 0 ≤ j) (j2 : j < n) (j3 : n ≤ 2147483647) (kk : ∀ H', H'.1 = H.1 → VH b V0 Z g (upC c k i j.toNat (vI x)) nc ns cap fi bl sp ls H' → Wp b L xs d M nx lv st H' Q) : Wp b L xs d M pc lv (vI x :: vI j :: .ref a :: st) H Q := w_iastore q (by rw [VH_at hH ho h3 h4 h5, hk]) j1 j2 j3 (by
  have := VH_put hH (f := j.toNat) (x := vI x) ho h3 h4 h5
  rw [hk] at this
  exact kk _ rfl this)
theorem v_bastore (hH : VH b V0 Z g c nc ns cap fi bl sp ls H) {j x : Int} {a k i n : Nat} (q : fet (mE M) pc = some (.bastore, nx, ri)) (ho : c.1 a = some (k, i)) (h3 : k ≠ 3) (h4 : k ≠ 4) (h5 : k ≠ 5) (hk : ∀ v, ccv c.2.2 k v = .inl (.byte, n, v)) (j1 : 0 ≤ j) (j2 : j < n) (j3 : n ≤ 2147483647) (kk : ∀ H', H'.1 = H.1 → VH b V0 Z g (upC c k i j.toNat (vI (sb x))) nc ns cap fi bl sp ls H' → Wp b L xs d M nx lv st H' Q) : Wp b L xs d M pc lv (vI x :: vI j :: .ref a :: st) H Q := w_bastore q (by rw [VH_at hH ho h3 h4 h5, hk]) (Or.inl rfl) j1 j2 j3 (by
  have := VH_put hH (f := j.toNat) (x := vI (sb x)) ho h3 h4 h5
  rw [hk] at this
  rw [show narrow .byte (.int (Int32.ofInt x)) = vI (sb x) from by show Value.int (Int32.ofInt x).toInt8.toInt32 = _; rw [i_byte]]
  exact kk _ rfl this)
theorem v_zastore (hH : VH b V0 Z g c nc ns cap fi bl sp ls H) {j x : Int} {a k i n : Nat} (q : fet (mE M) pc = some (.bastore, nx, ri)) (ho : c.1 a = some (k, i)) (h3 : k ≠ 3) (h4 : k ≠ 4) (h5 : k ≠ 5) (hk : ∀ v, ccv c.2.2 k v = .inl (.boolean, n, v)) (j1 : 0 ≤ j) (j2 : j < n) (j3 : n ≤ 2147483647) (hx : x = 0 ∨ x = 1) (kk : ∀ H', H'.1 = H.1 → VH b V0 Z g (upC c k i j.toNat (vI x)) nc ns cap fi bl sp ls H' → Wp b L xs d M nx lv st H' Q) : Wp b L xs d M pc lv (vI x :: vI j :: .ref a :: st) H Q := w_bastore q (by rw [VH_at hH ho h3 h4 h5, hk]) (Or.inr rfl) j1 j2 j3 (by
  have := VH_put hH (f := j.toNat) (x := vI x) ho h3 h4 h5
  rw [hk] at this
  rw [show narrow .boolean (.int (Int32.ofInt x)) = vI x from by rcases hx with rfl | rfl <;> rfl]
  exact kk _ rfl this)
theorem v_aastoreN (hH : VH b V0 Z g c nc ns cap fi bl sp ls H) {j : Int} {a k i n : Nat} {C : String} (q : fet (mE M) pc = some (.aastore, nx, ri)) (ho : c.1 a = some (k, i)) (h3 : k ≠ 3) (h4 : k ≠ 4) (h5 : k ≠ 5) (hk : ∀ v, ccv c.2.2 k v = .inl (.object C, n, v)) (j1 : 0 ≤ j) (j2 : j < n) (j3 : n ≤ 2147483647) (kk : ∀ H', H'.1 = H.1 → VH b V0 Z g (upC c k i j.toNat .null) nc ns cap fi bl sp ls H' → Wp b L xs d M nx lv st H' Q) : Wp b L xs d M pc lv (.null :: vI j :: .ref a :: st) H Q := w_aastoreN q (by rw [VH_at hH ho h3 h4 h5, hk]) j1 j2 j3 (by
  have := VH_put hH (f := j.toNat) (x := .null) ho h3 h4 h5
  rw [hk] at this
  exact kk _ rfl this)
theorem v_aastore (hH : VH b V0 Z g c nc ns cap fi bl sp ls H) {j : Int} {a k i n w k2 i2 cj : Nat} {fs : List Value} {C : String} (q : fet (mE M) pc = some (.aastore, nx, ri)) (ho : c.1 a = some (k, i)) (h3 : k ≠ 3) (h4 : k ≠ 4) (h5 : k ≠ 5) (hk : ∀ v, ccv c.2.2 k v = .inl (.object C, n, v)) (hw : c.1 w = some (k2, i2)) (g3 : k2 ≠ 3) (g4 : k2 ≠ 4) (g5 : k2 ≠ 5) (hk2 : ccv c.2.2 k2 (c.2.1 k2 i2) = .inr (cj, fs)) (hC : (vcl[cj]?).map (fun q => q.1) = some C) (j1 : 0 ≤ j) (j2 : j < n) (j3 : n ≤ 2147483647) (kk : ∀ H', H'.1 = H.1 → VH b V0 Z g (upC c k i j.toNat (.ref w)) nc ns cap fi bl sp ls H' → Wp b L xs d M nx lv st H' Q) : Wp b L xs d M pc lv (.ref w :: vI j :: .ref a :: st) H Q := w_aastore q (by rw [VH_at hH ho h3 h4 h5, hk]) (by rw [VH_at hH hw g3 g4 g5, hk2]) hC j1 j2 j3 (by
  have := VH_put hH (f := j.toNat) (x := .ref w) ho h3 h4 h5
  rw [hk] at this
  exact kk _ rfl this)
theorem v_new (hH : VH b V0 Z g c nc ns cap fi bl sp ls H) {i ci w k n : Nat} {ts : List FieldType} {v : Nat → Value} (q : fet (mE M) pc = some (.new i, nx, [ci, w])) (ht : vty[ci]? = some ts) (h3 : k ≠ 3) (h4 : k ≠ 4) (h5 : k ≠ 5) (hf : ∀ a, c.1 a ≠ some (k, n)) (hk : ccv c.2.2 k v = .inr (ci, ts.map defaultValue)) (kk : ∀ H', H'.1 = H.1 + 1 → VH b V0 Z g (nwC c H.1 k n v c.2.2) (nc + 1) (ns + ts.length) cap fi bl sp ls H' → Wp b L xs d M nx lv (.ref H.1 :: st) H' Q) : Wp b L xs d M pc lv st H Q := w_new q ht (by rw [← hk]; exact kk _ rfl (VH_new hH h3 h4 h5 hf))
theorem v_newarray (hH : VH b V0 Z g c nc ns cap fi bl sp ls H) {m : Int} {at_ : ArrayType} {ty : FieldType} {k n : Nat} (q : fet (mE M) pc = some (.newarray at_, nx, ri)) (ht : newT at_ = some ty) (m1 : 0 ≤ m) (m2 : m ≤ 1000000) (h3 : k ≠ 3) (h4 : k ≠ 4) (h5 : k ≠ 5) (hf : ∀ a, c.1 a ≠ some (k, n)) (hk : ccv c.2.2 k (fun _ => defaultValue ty) = .inl (ty, m.toNat, fun _ => defaultValue ty)) (kk : ∀ H', H'.1 = H.1 + 1 → VH b V0 Z g (nwC c H.1 k n (fun _ => defaultValue ty) c.2.2) (nc + 1) (ns + m.toNat) cap fi bl sp ls H' → Wp b L xs d M nx lv (.ref H.1 :: st) H' Q) : Wp b L xs d M pc lv (vI m :: st) H Q := w_newarray q ht m1 m2 (by rw [← hk]; exact kk _ rfl (VH_new hH h3 h4 h5 hf))
end Vr
