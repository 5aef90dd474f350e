/-! the beginning -/
def Z0 (b : Nat) : Nat → Prop := fun a => b < a
section Ct
variable {L : Nat} {xs : Nat → Int32} {b : Nat}
theorem c_view (d : Nat) (hd : 1 ≤ d) {a : Nat} {h : AH} : Wp b L xs d mi_2 0 (ent (mL mi_2) [.ref a]) [] h (Rn h) := by
  refine w_aload_n rfl rfl ?_
  refine w_obj rfl hd (Nat.le_of_ble_eq_true rfl) ?_
  refine w_return rfl rfl ?_
  exact ⟨rfl, rfl⟩
theorem c_tree (d : Nat) (hd : 2 ≤ d) {a : Nat} {h : AH} {p0 p1 p2 : Value} (ho : h.2.2 a = some (.inr (1, [p0, p1, p2]))) (ha : a ≠ h.1) : Wp b L xs d mi_1 0 (ent (mL mi_1) [.ref a]) [] h (fun h' o => o = .inl none ∧ h'.1 = h.1 + 1 ∧ h'.2.1 = h.2.1 + 256 ∧ ∀ x, h'.2.2 x = if x = a then some (.inr (1, [.ref h.1, p1, p2])) else if x = h.1 then some (.inl (.object "TapeVault$Node", 256, fun _ => .null)) else h.2.2 x) := by
  refine w_aload_n rfl rfl ?_
  refine w_ciN rfl (by decide) (by omega) rfl mt_2 (Nat.le_of_ble_eq_true rfl) (Nat.le_of_ble_eq_true rfl) (c_view _ (by omega)) ?_
  refine w_aload_n rfl rfl ?_
  refine w_sipush rfl rfl ?_
  refine w_anewarray rfl rfl (by decide) (by decide) ?_
  refine w_putfield rfl (show (if a = h.1 then _ else h.2.2 a) = _ by rw [if_neg ha]; exact ho) rfl rfl ?_
  refine w_return rfl rfl ?_
  exact ⟨rfl, rfl, rfl, fun x => rfl⟩
theorem c_vol (d : Nat) (hd : 1 ≤ d) {a : Nat} {h : AH} (ho : h.2.2 a = some (.inr (2, [.null, .null, vI 0, vI 0, vI 0]))) (ha : a ≠ h.1) (ha2 : a ≠ h.1 + 1) : Wp b L xs d mi_3 0 (ent (mL mi_3) [.ref a]) [] h (fun h' o => o = .inl none ∧ h'.1 = h.1 + 2 ∧ h'.2.1 = h.2.1 + 128 + 16 ∧ ∀ x, h'.2.2 x = if x = a then some (.inr (2, [.ref h.1, .ref (h.1 + 1), vI 64, vI 0, vI 0])) else if x = h.1 + 1 then some (.inl (.byte, 16, fun _ => .int 0)) else if x = h.1 then some (.inl (.long, 128, fun _ => .long 0)) else h.2.2 x) := by
  refine w_aload_n rfl rfl ?_
  refine w_obj rfl hd (Nat.le_of_ble_eq_true rfl) ?_
  refine w_aload_n rfl rfl ?_
  refine w_sipush rfl rfl ?_
  refine w_newarray rfl rfl (by decide) (by decide) ?_
  refine w_putfield rfl (show (if a = h.1 then _ else h.2.2 a) = _ by rw [if_neg ha]; exact ho) rfl rfl ?_
  refine w_aload_n rfl rfl ?_
  refine w_bipush rfl rfl ?_
  refine w_newarray rfl rfl (by decide) (by decide) ?_
  refine w_putfield (fs := [.ref h.1, .null, vI 0, vI 0, vI 0]) rfl (show (if a = h.1 + 1 then _ else if a = a then _ else _) = _ by rw [if_neg ha2, if_pos rfl]; rfl) rfl rfl ?_
  refine w_aload_n rfl rfl ?_
  refine w_bipush rfl rfl ?_
  refine w_putfield (fs := [.ref h.1, .ref (h.1 + 1), vI 0, vI 0, vI 0]) rfl (show (if a = a then _ else _) = _ by rw [if_pos rfl]; rfl) rfl rfl ?_
  refine w_return rfl rfl ?_
  refine ⟨rfl, rfl, rfl, fun x => ?_⟩
  show (if x = a then _ else if x = a then _ else if x = h.1 + 1 then _ else if x = a then _ else if x = h.1 then _ else h.2.2 x) = _
  by_cases e : x = a
  · rw [if_pos e, if_pos e]; rfl
  · rw [if_neg e, if_neg e, if_neg e, if_neg e]; rfl
def cv1 (n : Nat) : CS := (fun a => if a = n then some (0, 0) else if a = n + 1 then some (1, 0) else if a = n + 2 then some (2, 0) else if a = n + 3 then some (3, 0) else none, fun k _ f => if k = 0 then (if f = 0 then .ref (n + 1) else if f = 1 then .ref (n + 3) else if f = 5 then vI 0 else .null) else if k = 1 then (if f = 0 then .ref (n + 2) else vI 0) else .null, fun _ => 0)
/-- the first heap that has its volumes -/
theorem VH_fst {n s : Nat} (hb : b < n) {H : AH} (e1 : H.1 = n + 6) (e2 : H.2.1 = s) (hc : ∀ x, H.2.2 x = if x = n then some (.inr (0, [.ref (n + 1), .ref (n + 3), .null, .null, .null, vI 0])) else if x = n + 1 then some (.inr (1, [.ref (n + 2), vI 0, vI 0])) else if x = n + 2 then some (.inl (.object "TapeVault$Node", 256, fun _ => .null)) else if x = n + 3 then some (.inr (2, [.ref (n + 4), .ref (n + 5), vI 64, vI 0, vI 0])) else if x = n + 4 then some (.inl (.long, 128, fun _ => .long 0)) else if x = n + 5 then some (.inl (.byte, 16, fun _ => .int 0)) else none) : VH b (n + 3) (Z0 b) (fun _ => none) (cv1 n) (n + 6) s 64 0 (fun _ _ => 0) (fun _ => 0) (fun _ => 0) H := by
  have c0 : ∀ x, (cv1 n).1 x = if x = n then some (0, 0) else if x = n + 1 then some (1, 0) else if x = n + 2 then some (2, 0) else if x = n + 3 then some (3, 0) else none := fun x => rfl
  refine ⟨0, fun _ => 0, fun _ => 0, ⟨(n + 6, s, fun _ => none), n + 4, n + 5, 16, ?_, ⟨?_, ?_, ?_, by omega, by omega, by omega, ?_, ?_, ?_, by omega, by omega, by omega, by omega, by omega, fun _ => Or.inl rfl⟩, ⟨?_, ?_, ?_, ?_, ?_⟩, fun _ _ => rfl, fun a ha => ⟨?_, ?_⟩, ?_, ?_⟩, ⟨by decide, fun k hk => absurd hk (Nat.not_lt_zero _), fun v hv => absurd hv (Nat.not_lt_zero _), fun _ _ => rfl, fun _ _ => rfl⟩⟩
  · refine Prod.ext e1 (Prod.ext e2 (funext fun x => ?_))
    rw [hc x]
    show _ = (match (if x = n + 4 then some (4, 0) else if x = n + 5 then some (5, 0) else (cv1 n).1 x) with | some q => some (ccv _ q.1 ((mkV (cv1 n) (n + 4) (n + 5) 16 64 0 0 (fun _ => 0) (fun _ => 0)).2.1 q.1 q.2)) | none => none)
    rw [c0 x]
    by_cases q0 : x = n
    · rw [if_pos q0, if_neg (by omega), if_neg (by omega), if_pos q0]; rfl
    rw [if_neg q0]
    by_cases q1 : x = n + 1
    · rw [if_pos q1, if_neg (by omega), if_neg (by omega), if_neg q0, if_pos q1]; rfl
    rw [if_neg q1]
    by_cases q2 : x = n + 2
    · rw [if_pos q2, if_neg (by omega), if_neg (by omega), if_neg q0, if_neg q1, if_pos q2]; rfl
    rw [if_neg q2]
    by_cases q3 : x = n + 3
    · rw [if_pos q3, if_neg (by omega), if_neg (by omega), if_neg q0, if_neg q1, if_neg q2, if_pos q3]; rfl
    rw [if_neg q3]
    by_cases q4 : x = n + 4
    · rw [if_pos q4, if_pos q4]; rfl
    rw [if_neg q4, if_neg q4]
    by_cases q5 : x = n + 5
    · rw [if_pos q5, if_pos q5]; rfl
    rw [if_neg q5, if_neg q5, if_neg q0, if_neg q1, if_neg q2, if_neg q3]
  · rw [c0, if_neg (by omega), if_neg (by omega), if_neg (by omega), if_pos rfl]
  · rw [c0, if_neg (by omega), if_neg (by omega), if_neg (by omega), if_neg (by omega)]
  · rw [c0, if_neg (by omega), if_neg (by omega), if_neg (by omega), if_neg (by omega)]
  · intro x y q hx hy
    rw [c0] at hx hy
    split at hx
    · cases hx
      repeat' split at hy
      all_goals first | omega | cases hy
    · split at hx
      · cases hx
        repeat' split at hy
        all_goals first | omega | cases hy
      · split at hx
        · cases hx
          repeat' split at hy
          all_goals first | omega | cases hy
        · split at hx
          · cases hx
            repeat' split at hy
            all_goals first | omega | cases hy
          · cases hx
  · intro x i hx
    rw [c0] at hx
    repeat' split at hx
    all_goals cases hx
  · intro x i hx
    rw [c0] at hx
    repeat' split at hx
    all_goals cases hx
  · show b < n + 4
    omega
  · show b < n + 5
    omega
  · show n + 4 < n + 6
    omega
  · show n + 5 < n + 6
    omega
  · show b < n + 6
    omega
  · have ha : n + 6 ≤ a := ha
    show b < a
    omega
  · have ha : n + 6 ≤ a := ha
    rw [c0, if_neg (by omega), if_neg (by omega), if_neg (by omega), if_neg (by omega)]
  · show n + 6 ≤ n + 6 + 16
    omega
  · show s ≤ s + 18 * 16
    omega
end Ct
section Ct2
variable {L : Nat} {xs : Nat → Int32} {b V0 : Nat} {Z : Nat → Prop} {g : Nat → Option AO} {c : CS} {nc ns cap fi : Nat} {bl : Nat → Nat → Int} {sp ls : Nat → Int} {H : AH} {d : Nat} {M : MI} {pc nx : Nat} {ri : List Nat} {lv : List (Option Value)} {st : List Value} {Q : AH → RO → Prop}
theorem v_anew (hH : VH b V0 Z g c nc ns cap fi bl sp ls H) {m : Int} {i t k n : Nat} {C : String} (q : fet (mE M) pc = some (.anewarray i, nx, t :: ri)) (ht : atys[t]? = some (.object C)) (m1 : 0 ≤ m) (m2 : m ≤ 1000000) (h3 : k ≠ 3) (h4 : k ≠ 4) (h5 : k ≠ 5) (hf : ∀ a, c.1 a ≠ some (k, n)) (hk : ccv c.2.2 k (fun _ => .null) = .inl (.object C, m.toNat, fun _ => .null)) (kk : ∀ H', H'.1 = H.1 + 1 → VH b V0 Z g (nwC c H.1 k n (fun _ => .null) c.2.2) (nc + 1) (ns + m.toNat) cap fi bl sp ls H' → Wp b L xs d M nx lv (.ref H.1 :: st) H' Q) : Wp b L xs d M pc lv (vI m :: st) H Q := w_anewarray q ht m1 m2 (by rw [← hk]; exact kk _ rfl (VH_new hH h3 h4 h5 hf))
theorem c_writ (hH : VH b V0 Z g c nc ns cap fi bl sp ls H) (d : Nat) (hd : 1 ≤ d) {a t v : Nat} (ho : c.1 a = some (6, 0)) : Wp b L xs d mi_4 0 (ent (mL mi_4) [.ref a, .ref t, .ref v]) [] H (fun h' o => o = .inl none ∧ h'.1 = H.1 ∧ VH b V0 Z g (upC (upC c 6 0 0 (.ref t)) 6 0 1 (.ref v)) nc ns cap fi bl sp ls h') := by
  refine w_aload_n rfl rfl ?_
  refine w_obj rfl hd (Nat.le_of_ble_eq_true rfl) ?_
  refine w_aload_n rfl rfl ?_
  refine w_aload_n rfl rfl ?_
  refine v_put hH rfl ho (by decide) (by decide) (by decide) rfl rfl rfl rfl ?_
  intro H1 e1 hH
  refine w_aload_n rfl rfl ?_
  refine w_aload_n rfl rfl ?_
  refine v_put hH rfl ho (by decide) (by decide) (by decide) rfl rfl rfl rfl ?_
  intro H2 e2 hH
  refine w_return rfl rfl ?_
  exact ⟨rfl, by omega, hH⟩
def crC (c : CS) (n v : Nat) : CS := upC (upC (nwC (upC (nwC (upC (nwC c n 8 0 (fun _ => vI 0) c.2.2) 7 0 1 (.ref n)) (n + 1) 9 0 (fun _ => vI 0) c.2.2) 7 0 2 (.ref (n + 1))) (n + 2) 10 0 (fun _ => vI 0) c.2.2) 7 0 3 (.ref (n + 2))) 7 0 0 (.ref v)
theorem c_rest (hH : VH b V0 Z g c nc ns cap fi bl sp ls H) (d : Nat) (hd : 2 ≤ d) {a v : Nat} (ho : c.1 a = some (7, 0)) (f8 : ∀ x, c.1 x ≠ some (8, 0)) (f9 : ∀ x, c.1 x ≠ some (9, 0)) (f10 : ∀ x, c.1 x ≠ some (10, 0)) : Wp b L xs d mi_5 0 (ent (mL mi_5) [.ref a, .ref v]) [] H (fun h' o => o = .inl none ∧ h'.1 = H.1 + 3 ∧ VH b V0 Z g (crC c H.1 v) (nc + 1 + 1 + 1) (ns + 256 + 256 + 256) cap fi bl sp ls h') := by
  have fr := (VH_fr hH).1
  have na : ∀ j, a ≠ H.1 + j := fun j z => by
    have := (fr (H.1 + j) (by omega)).2
    rw [← z, ho] at this
    cases this
  have o1 : (nwC c H.1 8 0 (fun _ => vI 0) c.2.2).1 a = some (7, 0) := nw_o (fr H.1 (Nat.le_refl _)).2 ho
  have o2 : (nwC (upC (nwC c H.1 8 0 (fun _ => vI 0) c.2.2) 7 0 1 (.ref H.1)) (H.1 + 1) 9 0 (fun _ => vI 0) c.2.2).1 a = some (7, 0) := by
    show (if a = H.1 + 1 then _ else _) = _
    rw [if_neg (na 1)]
    exact o1
  have o3 : (nwC (upC (nwC (upC (nwC c H.1 8 0 (fun _ => vI 0) c.2.2) 7 0 1 (.ref H.1)) (H.1 + 1) 9 0 (fun _ => vI 0) c.2.2) 7 0 2 (.ref (H.1 + 1))) (H.1 + 2) 10 0 (fun _ => vI 0) c.2.2).1 a = some (7, 0) := by
    show (if a = H.1 + 2 then _ else _) = _
    rw [if_neg (na 2)]
    exact o2
  refine w_aload_n rfl rfl ?_
  refine w_ciN rfl (by decide) (by omega) rfl mt_2 (Nat.le_of_ble_eq_true rfl) (Nat.le_of_ble_eq_true rfl) (c_view _ (by omega)) ?_
  refine w_aload_n rfl rfl ?_
  refine w_sipush rfl rfl ?_
  refine v_newarray (k := 8) (n := 0) hH rfl rfl (by decide) (by decide) (by decide) (by decide) (by decide) f8 rfl ?_
  intro H1 e1 hH
  refine v_put hH rfl o1 (by decide) (by decide) (by decide) rfl rfl rfl rfl ?_
  intro H2 e2 hH
  refine w_aload_n rfl rfl ?_
  refine w_sipush rfl rfl ?_
  refine v_newarray (k := 9) (n := 0) hH rfl rfl (by decide) (by decide) (by decide) (by decide) (by decide) (fun x hx => by
    have hx : (if x = H.1 then some (8, 0) else c.1 x) = some (9, 0) := hx
    split at hx
    · cases hx
    · exact f9 x hx) rfl ?_
  intro H3 e3 hH
  rw [show H2.1 = H.1 + 1 by omega] at hH ⊢
  refine v_put hH rfl o2 (by decide) (by decide) (by decide) rfl rfl rfl rfl ?_
  intro H4 e4 hH
  refine w_aload_n rfl rfl ?_
  refine w_sipush rfl rfl ?_
  refine v_newarray (k := 10) (n := 0) hH rfl rfl (by decide) (by decide) (by decide) (by decide) (by decide) (fun x hx => by
    have hx : (if x = H.1 + 1 then some (9, 0) else if x = H.1 then some (8, 0) else c.1 x) = some (10, 0) := hx
    split at hx
    · cases hx
    · split at hx
      · cases hx
      · exact f10 x hx) rfl ?_
  intro H5 e5 hH
  rw [show H4.1 = H.1 + 2 by omega] at hH ⊢
  refine v_put hH rfl o3 (by decide) (by decide) (by decide) rfl rfl rfl rfl ?_
  intro H6 e6 hH
  refine w_aload_n rfl rfl ?_
  refine w_aload_n rfl rfl ?_
  refine v_put hH rfl o3 (by decide) (by decide) (by decide) rfl rfl rfl rfl ?_
  intro H7 e7 hH
  refine w_return rfl rfl ?_
  exact ⟨rfl, by omega, hH⟩
end Ct2
