/-! the whole -/
section En
variable {L : Nat} {xs : Nat → Int32} {b : Nat}
def cvW (n : Nat) : CS := upC (upC (upC (nwC (cv1 n) (n + 6) 6 0 (fun _ => .null) (cv1 n).2.2) 6 0 0 (.ref (n + 1))) 6 0 1 (.ref (n + 3))) 0 0 2 (.ref (n + 6))
def cvR (n : Nat) : CS := upC (crC (nwC (cvW n) (n + 7) 7 0 (fun f => if f < 4 then .null else vI 0) (cvW n).2.2) (n + 8) (n + 3)) 0 0 3 (.ref (n + 7))
def cvE (n : Nat) : CS := upC (nwC (cvR n) (n + 11) 11 0 (fun _ => .null) (cvR n).2.2) 0 0 4 (.ref (n + 11))
theorem cvE_1 (n x : Nat) : (cvE n).1 x = if x = n + 11 then some (11, 0) else if x = n + 8 + 2 then some (10, 0) else if x = n + 8 + 1 then some (9, 0) else if x = n + 8 then some (8, 0) else if x = n + 7 then some (7, 0) else if x = n + 6 then some (6, 0) else if x = n then some (0, 0) else if x = n + 1 then some (1, 0) else if x = n + 2 then some (2, 0) else if x = n + 3 then some (3, 0) else none := rfl
theorem cvE_p {n x : Nat} {q : Nat × Nat} (h : (cvE n).1 x = some q) : pdA q = false ∧ n ≤ x := by
  rw [cvE_1] at h
  repeat' split at h
  all_goals first | cases h; exact ⟨rfl, by omega⟩ | cases h
theorem cvE_SI {n : Nat} (hb : b < n) : SI b (cvE n) (fun k => n + k) := by
  refine ⟨?_, ?_, ?_, ?_, ?_, ⟨?_, ?_, ?_, ?_, ?_, ?_, ?_, ?_, ?_, ?_⟩, ?_, ?_, ?_, ?_, ?_, ?_, ?_, ?_, ?_, ?_⟩
  · show (cvE n).1 (n + 0) = _
    rw [cvE_1, if_neg (by omega), if_neg (by omega), if_neg (by omega), if_neg (by omega), if_neg (by omega), if_neg (by omega), if_pos (by omega)]
  · show (cvE n).1 (n + 1) = _
    rw [cvE_1, if_neg (by omega), if_neg (by omega), if_neg (by omega), if_neg (by omega), if_neg (by omega), if_neg (by omega), if_neg (by omega), if_pos (by omega)]
  · show (cvE n).1 (n + 2) = _
    rw [cvE_1, if_neg (by omega), if_neg (by omega), if_neg (by omega), if_neg (by omega), if_neg (by omega), if_neg (by omega), if_neg (by omega), if_neg (by omega), if_pos (by omega)]
  · show (cvE n).1 (n + 6) = _
    rw [cvE_1, if_neg (by omega), if_neg (by omega), if_neg (by omega), if_neg (by omega), if_neg (by omega), if_pos (by omega)]
  · show (cvE n).1 (n + 11) = _
    rw [cvE_1, if_pos (by omega)]
  · show (cvE n).1 (n + 7) = _
    rw [cvE_1, if_neg (by omega), if_neg (by omega), if_neg (by omega), if_neg (by omega), if_pos (by omega)]
  · rfl
  · rfl
  · rfl
  · rfl
  · show (cvE n).1 (n + 8) = _
    rw [cvE_1, if_neg (by omega), if_neg (by omega), if_neg (by omega), if_pos (by omega)]
  · show (cvE n).1 (n + 9) = _
    rw [cvE_1, if_neg (by omega), if_neg (by omega), if_pos (by omega)]
  · show (cvE n).1 (n + 10) = _
    rw [cvE_1, if_neg (by omega), if_pos (by omega)]
  · show n + 8 ≠ b
    omega
  · show n + 9 ≠ b
    omega
  · rfl
  · rfl
  · rfl
  · rfl
  · rfl
  · rfl
  · rfl
  · rfl
  · show n + 2 ≠ b
    omega
  · show n + 11 ≠ b
    omega
theorem cvE_Q (n : Nat) : QVl (cvE n) 0 0 0 0 (fun _ => 0) (fun _ => 0) (fun _ => 0) := ⟨rfl, rfl, rfl, rfl, fun _ => rfl, fun _ => rfl, fun _ => rfl⟩
theorem c_vault {n : Nat} (hb : b < n) {H : AH} (e1 : H.1 = n + 1) (e2 : H.2.1 = 6) (hc : ∀ x, H.2.2 x = if x = n then some (.inr (0, [.null, .null, .null, .null, .null, vI 0])) else none) : Wp b L xs 9 mi_0 0 (ent (mL mi_0) [.ref n]) [] H (fun h' o => o = .inl none ∧ ∃ fa ms lo, VH b (n + 3) (Z0 b) (fun _ => none) (nwA (cvE n) (n + 12) fa ms lo) (n + 13) 2000 64 0 (fun _ _ => 0) (fun _ => 0) (fun _ => 0) h') := by
  refine w_aload_n rfl rfl ?_
  refine w_obj rfl (by decide) (Nat.le_of_ble_eq_true rfl) ?_
  refine w_aload_n rfl rfl ?_
  refine w_new (ts := [.array (.object "TapeVault$Node"), .int, .int]) rfl rfl ?_
  rw [e1]
  refine w_dupR rfl ?_
  have a1 : (hnew H (.inr (1, ([.array (.object "TapeVault$Node"), .int, .int] : List FieldType).map defaultValue)) 3).2.2 (n + 1) = some (.inr (1, [.null, vI 0, vI 0])) := by
    show (if n + 1 = H.1 then _ else _) = _
    rw [if_pos e1.symm]
    rfl
  refine w_ci rfl (by decide) (by decide) rfl mt_1 (Nat.le_of_ble_eq_true rfl) (Nat.le_of_ble_eq_true rfl) (c_tree 8 (by decide) a1 (by show n + 1 ≠ H.1 + 1; omega)) ?_
  rintro H2 _ ⟨rfl, f1, f2, f3⟩
  have f1 : H2.1 = n + 3 := by
    rw [f1]
    show H.1 + 1 + 1 = _
    omega
  have f2 : H2.2.1 = 265 := by
    rw [f2]
    show H.2.1 + 3 + 256 = _
    omega
  have f3 : ∀ x, H2.2.2 x = if x = n + 1 then some (.inr (1, [.ref (n + 2), vI 0, vI 0])) else if x = n + 2 then some (.inl (.object "TapeVault$Node", 256, fun _ => .null)) else if x = n then some (.inr (0, [.null, .null, .null, .null, .null, vI 0])) else none := fun x => by
    rw [f3 x]
    have e0 : (hnew H (.inr (1, ([.array (.object "TapeVault$Node"), .int, .int] : List FieldType).map defaultValue)) 3).1 = n + 2 := by
      show H.1 + 1 = _
      omega
    rw [show (hnew H (.inr (1, ([.array (.object "TapeVault$Node"), .int, .int] : List FieldType).map defaultValue)) ([.array (.object "TapeVault$Node"), .int, .int] : List FieldType).length).1 = n + 2 from e0]
    by_cases q1 : x = n + 1
    · rw [if_pos q1, if_pos q1]
    rw [if_neg q1, if_neg q1]
    by_cases q2 : x = n + 2
    · rw [if_pos q2, if_pos q2]
    rw [if_neg q2, if_neg q2]
    show (if x = H.1 then _ else H.2.2 x) = _
    rw [if_neg (by omega), hc x]
  refine ⟨none, rfl, ?_⟩
  refine w_putfield (fs := [.null, .null, .null, .null, .null, vI 0]) rfl (by rw [f3, if_neg (by omega), if_neg (by omega), if_pos rfl]) rfl rfl ?_
  refine w_aload_n rfl rfl ?_
  refine w_new (ts := [.array (.long), .array (.byte), .int, .int, .int]) rfl rfl ?_
  rw [show (hput H2 n (.inr (0, ([.null, .null, .null, .null, .null, vI 0] : List Value).set 0 (.ref (n + 1))))).1 = n + 3 from f1]
  refine w_dupR rfl ?_
  have a2 : (hnew (hput H2 n (.inr (0, ([.null, .null, .null, .null, .null, vI 0] : List Value).set 0 (.ref (n + 1))))) (.inr (2, ([.array (.long), .array (.byte), .int, .int, .int] : List FieldType).map defaultValue)) 5).2.2 (n + 3) = some (.inr (2, [.null, .null, vI 0, vI 0, vI 0])) := by
    show (if n + 3 = H2.1 then _ else _) = _
    rw [if_pos f1.symm]
    rfl
  refine w_ci rfl (by decide) (by decide) rfl mt_3 (Nat.le_of_ble_eq_true rfl) (Nat.le_of_ble_eq_true rfl) (c_vol 8 (by decide) a2 (by show n + 3 ≠ H2.1 + 1; omega) (by show n + 3 ≠ H2.1 + 1 + 1; omega)) ?_
  rintro H5 _ ⟨rfl, k1, k2, k3⟩
  have e4 : (hnew (hput H2 n (.inr (0, ([.null, .null, .null, .null, .null, vI 0] : List Value).set 0 (.ref (n + 1))))) (.inr (2, ([.array (.long), .array (.byte), .int, .int, .int] : List FieldType).map defaultValue)) ([.array (.long), .array (.byte), .int, .int, .int] : List FieldType).length).1 = n + 4 := by
    show H2.1 + 1 = _
    omega
  have k1 : H5.1 = n + 6 := by
    rw [k1, e4]
  have k2 : H5.2.1 = 414 := by
    rw [k2]
    show H2.2.1 + 5 + 128 + 16 = _
    omega
  have k3 : ∀ x, H5.2.2 x = if x = n + 3 then some (.inr (2, [.ref (n + 4), .ref (n + 5), vI 64, vI 0, vI 0])) else if x = n + 5 then some (.inl (.byte, 16, fun _ => .int 0)) else if x = n + 4 then some (.inl (.long, 128, fun _ => .long 0)) else if x = n then some (.inr (0, [.ref (n + 1), .null, .null, .null, .null, vI 0])) else H2.2.2 x := fun x => by
    rw [k3 x, e4]
    by_cases q3 : x = n + 3
    · rw [if_pos q3, if_pos q3]
    rw [if_neg q3, if_neg q3]
    by_cases q5 : x = n + 5
    · rw [if_pos q5, if_pos q5]
    rw [if_neg q5, if_neg q5]
    by_cases q4 : x = n + 4
    · rw [if_pos q4, if_pos q4]
    rw [if_neg q4, if_neg q4]
    show (if x = H2.1 then _ else if x = n then _ else H2.2.2 x) = _
    rw [if_neg (by omega)]
    rfl
  refine ⟨none, rfl, ?_⟩
  refine w_putfield (fs := [.ref (n + 1), .null, .null, .null, .null, vI 0]) rfl (by rw [k3, if_neg (by omega), if_neg (by omega), if_neg (by omega), if_pos rfl]) rfl rfl ?_
  have hH := VH_fst (n := n) (s := 414) hb (H := hput H5 n (.inr (0, ([.ref (n + 1), .null, .null, .null, .null, vI 0] : List Value).set 1 (.ref (n + 3))))) k1 k2 (fun x => by
    show (if x = n then _ else H5.2.2 x) = _
    by_cases q0 : x = n
    · rw [if_pos q0, if_pos q0]; rfl
    rw [if_neg q0, if_neg q0, k3 x, f3 x]
    by_cases q1 : x = n + 1
    · rw [if_neg (by omega), if_neg (by omega), if_neg (by omega), if_neg q0, if_pos q1, if_pos q1]
    rw [if_neg q1, if_neg q1]
    by_cases q2 : x = n + 2
    · rw [if_neg (by omega), if_neg (by omega), if_neg (by omega), if_neg q0, if_pos q2, if_pos q2]
    rw [if_neg q2, if_neg q2]
    by_cases q3 : x = n + 3
    · rw [if_pos q3, if_pos q3]
    rw [if_neg q3, if_neg q3]
    by_cases q4 : x = n + 4
    · rw [if_neg (by omega), if_pos q4, if_pos q4]
    rw [if_neg q4, if_neg q4]
    by_cases q5 : x = n + 5
    · rw [if_pos q5, if_pos q5]
    rw [if_neg q5, if_neg q5, if_neg q0, if_neg q0])
  have eH : (hput H5 n (.inr (0, ([.ref (n + 1), .null, .null, .null, .null, vI 0] : List Value).set 1 (.ref (n + 3))))).1 = n + 6 := k1
  generalize (hput H5 n (.inr (0, ([.ref (n + 1), .null, .null, .null, .null, vI 0] : List Value).set 1 (.ref (n + 3))))) = H6 at hH eH ⊢
  have oV : ∀ c : CS, (∀ x, x ≤ n + 3 → c.1 x = (cv1 n).1 x) → c.1 n = some (0, 0) := fun c h => by
    rw [h n (by omega)]
    exact if_pos rfl
  refine w_aload_n rfl rfl ?_
  refine v_new (v := fun _ => .null) (n := 0) (k := 6) hH rfl rfl (by decide) (by decide) (by decide) (fun x hx => by
    have hx : (if x = n then some (0, 0) else if x = n + 1 then some (1, 0) else if x = n + 2 then some (2, 0) else if x = n + 3 then some (3, 0) else none) = some (6, 0) := hx
    repeat' split at hx
    all_goals cases hx) rfl ?_
  rw [eH]
  intro H7 eH7 hH
  refine w_dupR rfl ?_
  refine w_aload_n rfl rfl ?_
  refine w_getfield rfl (VH_at hH (a := n) (k := 0) (i := 0) (oV _ (fun x hx => if_neg (by omega))) (by decide) (by decide) (by decide)) rfl ?_
  refine w_aload_n rfl rfl ?_
  refine w_getfield rfl (VH_at hH (a := n) (k := 0) (i := 0) (oV _ (fun x hx => if_neg (by omega))) (by decide) (by decide) (by decide)) rfl ?_
  refine w_ci rfl (by decide) (by decide) rfl mt_4 (Nat.le_of_ble_eq_true rfl) (Nat.le_of_ble_eq_true rfl) (c_writ hH 8 (by decide) (t := n + 1) (v := n + 3) (if_pos rfl)) ?_
  rintro H8 _ ⟨rfl, eH8, hH⟩
  refine ⟨none, rfl, ?_⟩
  refine v_put hH rfl (oV _ (fun x hx => if_neg (by omega))) (by decide) (by decide) (by decide) rfl rfl rfl rfl ?_
  intro H9 eH9 hH
  have hH : VH b (n + 3) (Z0 b) (fun _ => none) (cvW n) (n + 6 + 1) (414 + 2) 64 0 (fun _ _ => 0) (fun _ => 0) (fun _ => 0) H9 := hH
  refine w_aload_n rfl rfl ?_
  refine v_new (v := fun f => if f < 4 then .null else vI 0) (n := 0) (k := 7) hH rfl rfl (by decide) (by decide) (by decide) (fun x hx => by
    have hx : (if x = n + 6 then some (6, 0) else if x = n then some (0, 0) else if x = n + 1 then some (1, 0) else if x = n + 2 then some (2, 0) else if x = n + 3 then some (3, 0) else none) = some (7, 0) := hx
    repeat' split at hx
    all_goals cases hx) rfl ?_
  rw [show H9.1 = n + 7 by omega]
  intro H10 eH10 hH
  have o7 : ∀ x, (nwC (cvW n) (n + 7) 7 0 (fun f => if f < 4 then .null else vI 0) (cvW n).2.2).1 x = if x = n + 7 then some (7, 0) else if x = n + 6 then some (6, 0) else if x = n then some (0, 0) else if x = n + 1 then some (1, 0) else if x = n + 2 then some (2, 0) else if x = n + 3 then some (3, 0) else none := fun x => rfl
  refine w_dupR rfl ?_
  refine w_aload_n rfl rfl ?_
  refine w_getfield rfl (VH_at hH (a := n) (k := 0) (i := 0) (by rw [o7, if_neg (by omega), if_neg (by omega), if_pos rfl]) (by decide) (by decide) (by decide)) rfl ?_
  have n8 : ∀ k, 8 ≤ k → ∀ x, (nwC (cvW n) (n + 7) 7 0 (fun f => if f < 4 then .null else vI 0) (cvW n).2.2).1 x ≠ some (k, 0) := fun k hk x hx => by
    rw [o7] at hx
    repeat' split at hx
    all_goals cases hx
    all_goals omega
  refine w_ci rfl (by decide) (by decide) rfl mt_5 (Nat.le_of_ble_eq_true rfl) (Nat.le_of_ble_eq_true rfl) (c_rest hH 8 (by decide) (v := n + 3) (if_pos rfl) (n8 8 (by decide)) (n8 9 (by decide)) (n8 10 (by decide))) ?_
  rw [show H10.1 = n + 8 by omega]
  rintro H11 _ ⟨rfl, eH11, hH⟩
  have o8 : ∀ x, (crC (nwC (cvW n) (n + 7) 7 0 (fun f => if f < 4 then .null else vI 0) (cvW n).2.2) (n + 8) (n + 3)).1 x = if x = n + 8 + 2 then some (10, 0) else if x = n + 8 + 1 then some (9, 0) else if x = n + 8 then some (8, 0) else if x = n + 7 then some (7, 0) else if x = n + 6 then some (6, 0) else if x = n then some (0, 0) else if x = n + 1 then some (1, 0) else if x = n + 2 then some (2, 0) else if x = n + 3 then some (3, 0) else none := fun x => rfl
  refine ⟨none, rfl, ?_⟩
  refine v_put hH rfl (by rw [o8, if_neg (by omega), if_neg (by omega), if_neg (by omega), if_neg (by omega), if_neg (by omega), if_pos rfl]) (by decide) (by decide) (by decide) rfl rfl rfl rfl ?_
  intro H12 eH12 hH
  have hH : VH b (n + 3) (Z0 b) (fun _ => none) (cvR n) (n + 6 + 1 + 1 + 1 + 1 + 1) (414 + 2 + 8 + 256 + 256 + 256) 64 0 (fun _ _ => 0) (fun _ => 0) (fun _ => 0) H12 := hH
  refine w_aload_n rfl rfl ?_
  refine w_bipush rfl rfl ?_
  refine v_anew (k := 11) (n := 0) hH rfl rfl (by decide) (by decide) (by decide) (by decide) (by decide) (fun x hx => by
    have hx : (crC (nwC (cvW n) (n + 7) 7 0 (fun f => if f < 4 then .null else vI 0) (cvW n).2.2) (n + 8) (n + 3)).1 x = some (11, 0) := hx
    rw [o8] at hx
    repeat' split at hx
    all_goals cases hx) rfl ?_
  rw [show H12.1 = n + 11 by omega]
  intro H13 eH13 hH
  refine v_put hH rfl (show (if n = n + 11 then _ else (crC (nwC (cvW n) (n + 7) 7 0 (fun f => if f < 4 then .null else vI 0) (cvW n).2.2) (n + 8) (n + 3)).1 n) = some (0, 0) by rw [if_neg (by omega), o8, if_neg (by omega), if_neg (by omega), if_neg (by omega), if_neg (by omega), if_neg (by omega), if_pos rfl]) (by decide) (by decide) (by decide) rfl rfl rfl rfl ?_
  intro H14 eH14 hH
  have hH : VH b (n + 3) (Z0 b) (fun _ => none) (cvE n) (n + 6 + 1 + 1 + 1 + 1 + 1 + 1) (414 + 2 + 8 + 256 + 256 + 256 + 100) 64 0 (fun _ _ => 0) (fun _ => 0) (fun _ => 0) H14 := hH
  have hSI := cvE_SI (b := b) hb
  refine w_aload_n rfl rfl ?_
  refine w_bipush rfl rfl ?_
  have w6 := V_new6 (L := L) (xs := xs) (A := fun k => n + k) (n := 64) hH (fun x q hx => by show b < x; have := (cvE_p hx).2; omega) hSI (cvE_Q n) 8 (by decide) (by decide) (by decide)
  rw [show H14.1 = n + 12 by omega] at w6
  refine w_cv rfl (by decide) (by decide) rfl (VH_at hH (a := n) (k := 0) (i := 0) hSI.1 (by decide) (by decide) (by decide)) mt_6 (Nat.le_of_ble_eq_true rfl) (Nat.le_of_ble_eq_true rfl) w6 ?_
  rintro H15 _ ⟨rfl, fa, ms, lo, hH⟩
  refine ⟨none, rfl, ?_⟩
  refine w_return rfl rfl ?_
  exact ⟨rfl, fa, ms, lo, VH_more hH (by omega) (by omega)⟩
theorem zR_t : TreeOk zR := fun n hn => ⟨Or.inl rfl, show (0 : Int) ≤ 0 by decide, show (0 : Int) < 256 by decide, show (0 : Int) ≤ 0 by decide, show (0 : Int) ≤ 30000 by decide, show (0 : Int) ≤ 0 by decide, show (0 : Int) ≤ 512 by decide, show (0 : Int) ≤ 0 by decide, show (0 : Int) ≤ 100000 by decide⟩
theorem zR_e : EntOk zR := fun k => ⟨show (0 : Int) ≤ 0 by decide, show (0 : Int) ≤ 30000 by decide, show (0 : Int) ≤ 0 by decide, show (0 : Int) < 256 by decide⟩
theorem VH_Z {V0 : Nat} {g : Nat → Option AO} {c : CS} {nc ns cap fi : Nat} {bl : Nat → Nat → Int} {sp ls : Nat → Int} {H : AH} (hH : VH b V0 (Z0 b) g c nc ns cap fi bl sp ls H) {s t : Nat} (hs : s ≤ H.2.1 + t) (o : AO) : ∃ g', g' (H.1 + 1160) = some o ∧ VH b V0 (Zr b H.1) g' c (nc + 1161) (ns + t) cap fi bl sp ls (H.1 + 1161, s, fun a => if a = H.1 + 1160 then some o else H.2.2 a) := by
  obtain ⟨wr, W, S, ⟨h, W0, P0, len, rfl, hV, ⟨z1, z2, z3, z4, z5⟩, y1, y2, y3, y4⟩, hv⟩ := hH
  have hs : s ≤ h.2.1 + t := hs
  refine ⟨fun a => if a = h.1 + 1160 then some o else h.2.2 a, if_pos rfl, wr, W, S, ⟨(h.1 + 1161, s, fun a => if a = h.1 + 1160 then some o else h.2.2 a), W0, P0, len, ?_, hV, ⟨⟨z1, Or.inl z3⟩, ⟨z2, Or.inl z4⟩, ?_, ?_, ?_⟩, fun _ _ => rfl, fun a ha => ?_, ?_, ?_⟩, hv⟩
  · refine Prod.ext rfl (Prod.ext rfl (funext fun a => ?_))
    show (if a = h.1 + 1160 then some o else (CH h (mkV c W0 P0 len cap wr fi W S)).2.2 a) = _
    cases hc : (mkV c W0 P0 len cap wr fi W S).1 a with
    | none =>
      rw [CH_out hc, CH_out hc]
    | some q =>
      rw [CH_at hc, CH_at hc, if_neg]
      intro z
      have e1 : a ≠ W0 := by omega
      have e2 : a ≠ P0 := by omega
      rw [mk_o e1 e2, (y2 a (by omega)).2] at hc
      cases hc
  · show W0 < h.1 + 1161
    omega
  · show P0 < h.1 + 1161
    omega
  · show b < h.1 + 1161
    omega
  · have ha : h.1 + 1161 ≤ a := ha
    exact ⟨⟨by omega, Or.inr ha⟩, (y2 a (by omega)).2⟩
  · show h.1 + 1161 ≤ nc + 1161 + len
    omega
  · show s ≤ ns + t + 18 * len
    omega
set_option maxRecDepth 20000 in
theorem pure_claim : PureClaim := by
  intro b L base xs hL hb
  have w : Wp b L xs 10 mi_145 0 (ent 8 [.ref b]) [] (base, 0, fun _ => none) (fun h' o => o = .inl (some (.int 1)) ∧ h'.1 ≤ base + 601024 ∧ h'.2.1 ≤ 7293034) := by
    refine w_new (ts := [.object "TapeVault$Tree", .object "TapeVault$Volumes", .object "TapeVault$Writer", .object "TapeVault$Restored", .array (.object "TapeVault$Dump"), .int]) rfl rfl ?_
    refine w_dupR rfl ?_
    refine w_ci rfl (by decide) (by decide) rfl mt_0 (Nat.le_of_ble_eq_true rfl) (Nat.le_of_ble_eq_true rfl) (c_vault (n := base) hb rfl rfl (fun x => rfl)) ?_
    rintro H _ ⟨rfl, fa, ms, lo, hH⟩
    have fr := VH_fr hH
    refine ⟨none, rfl, ?_⟩
    refine w_astore_n rfl (by decide) ?_
    refine w_new rfl rfl ?_
    refine w_dupR rfl ?_
    have e7 : ∀ o : AO, o = Sum.inr (7, fs7) → hnew H o 48 = PHp H.1 H 1 (H.2.1 + 48) fs7 := fun o ho => by
      refine Prod.ext rfl (Prod.ext rfl (funext fun a => ?_))
      show (if a = H.1 then some o else H.2.2 a) = (if a = H.1 then _ else if H.1 < a ∧ a < H.1 + 1 then _ else H.2.2 a)
      by_cases e : a = H.1
      · rw [if_pos e, if_pos e, ho]
      · rw [if_neg e, if_neg e, if_neg (by omega)]
    have e7' := e7 _ rfl
    refine w_ci rfl (by decide) (by decide) rfl mt_110 (Nat.le_of_ble_eq_true rfl) (Nat.le_of_ble_eq_true rfl) (Q1 := fun h' o => o = .inl none ∧ ∃ sl', sl' ≤ H.2.1 + 48 + 1100000 ∧ h' = RH H.1 (H.1 + 1160, sl', H.2.2) (rBegin zR 64)) (by
      have r := r_init (L := L) (xs := xs) (h := H) fr.2 9 (by decide) (sl := H.2.1 + 48)
      rw [← e7'] at r
      exact r) ?_
    rintro H2 _ ⟨rfl, sl', hs, rfl⟩
    refine ⟨none, rfl, ?_⟩
    refine w_astore_n rfl (by decide) ?_
    refine w_iconst rfl ?_
    refine w_newarray rfl rfl (by decide) (by decide) ?_
    refine w_astore_n rfl (by decide) ?_
    refine w_iconst rfl ?_
    refine w_istore rfl (by decide) ?_
    obtain ⟨g1, hg1, hH2⟩ := VH_Z hH (s := sl' + 1) (t := 1100049) (by omega) (.inl (.long, 1, fun _ => .long 0))
    have hZc : CZ (Zr b H.1) (cvE base) := fun x q hx => by
      have hp := cvE_p hx
      refine ⟨by omega, Or.inl ?_⟩
      rcases Nat.lt_or_ge x H.1 with z | z
      · exact z
      · exfalso
        have hn := (fr.1 x z).2
        rw [nwA_own] at hn
        split at hn
        · cases hn
        · rw [dpP_o hx hp.1] at hn
          cases hn
    have f12 : (cvE base).1 (base + 12) = none := by
      rw [cvE_1, if_neg (by omega), if_neg (by omega), if_neg (by omega), if_neg (by omega), if_neg (by omega), if_neg (by omega), if_neg (by omega), if_neg (by omega), if_neg (by omega), if_neg (by omega)]
    have z12 : Zr b H.1 (base + 12) := by
      refine ⟨by omega, Or.inl ?_⟩
      rcases Nat.lt_or_ge (base + 12) H.1 with z | z
      · exact z
      · exfalso
        have hn := (fr.1 _ z).2
        rw [nwA_own, if_pos rfl] at hn
        cases hn
    have hW := IW_new (A := fun k => base + k) (v := 64) (ρ := zR) 0 hH2 hg1 (cvE_SI (b := b) hb) hZc f12 z12 (by decide) (by decide) zR_g zR_t zR_e (fun i hi => rfl) (by decide) (fun i hi => rfl) (fun i hi => rfl)
    have hv : Iv b H.1 base 0 (base + 13 + 1161) (2000 + 1100049) (rBegin zR (64 : Nat)) (fun _ => .long 0) (RH H.1 (H.1 + 1161, sl' + 1, fun a => if a = H.1 + 1160 then some (.inl (.long, 1, fun _ => .long 0)) else H.2.2 a) (rBegin zR (64 : Nat))) := ⟨_, _, _, _, _, _, _, _, _, _, _, _, _, _, _, _, _, rfl, hW⟩
    have eF : hnew (RH H.1 (H.1 + 1160, sl', H.2.2) (rBegin zR 64)) (.inl (.long, 1, fun _ => .long 0)) 1 = RH H.1 (H.1 + 1161, sl' + 1, fun a => if a = H.1 + 1160 then some (.inl (.long, 1, fun _ => .long 0)) else H.2.2 a) (rBegin zR (64 : Nat)) := by
      refine Prod.ext rfl (Prod.ext rfl (funext fun a => ?_))
      show (if a = H.1 + 1160 then _ else if H.1 ≤ a ∧ a < H.1 + 1160 then _ else H.2.2 a) = (if H.1 ≤ a ∧ a < H.1 + 1160 then _ else if a = H.1 + 1160 then _ else H.2.2 a)
      by_cases e : a = H.1 + 1160
      · rw [if_pos e, if_neg (by omega), if_pos e]
      · rw [if_neg e, if_neg e]
        rfl
    rw [← eF] at hv
    refine Wp_im (fun h' o z => ⟨z.1, by omega, by omega⟩) (law_loop (L := L) (xs := xs) fr.2 hL 512 0 0 (base + 13 + 1161) (2000 + 1100049) _ _ _ none none none (by omega) (by omega) (by omega) hv)
  obtain ⟨n, h', o, e, h1, h2, h3⟩ := w
  exact ⟨n, h', by rw [e, h1], h2, h3⟩
end En
