/-! the volumes grow -/
theorem hput_new (h : AH) (o o' : AO) (k : Nat) : hput (hnew h o k) h.1 o' = hnew h o' k := by
  refine Prod.ext rfl (Prod.ext rfl (funext fun a => ?_))
  show (if a = h.1 then some o' else if a = h.1 then some o else h.2.2 a) = (if a = h.1 then some o' else h.2.2 a)
  by_cases e : a = h.1
  · rw [if_pos e, if_pos e]
  · rw [if_neg e, if_neg e, if_neg e]
theorem CH_hnew {h : AH} {c : CS} (hf : c.1 h.1 = none) (o : AO) (k : Nat) : hnew (CH h c) o k = CH (hnew h o k) c := by
  refine Prod.ext rfl (Prod.ext rfl (funext fun a => ?_))
  show (if a = h.1 then some o else (match c.1 a with | some q => some (ccv c.2.2 q.1 (c.2.1 q.1 q.2)) | none => h.2.2 a)) = (match c.1 a with | some q => some (ccv c.2.2 q.1 (c.2.1 q.1 q.2)) | none => if a = h.1 then some o else h.2.2 a)
  by_cases e : a = h.1
  · rw [e, hf, if_pos rfl]
  · rw [if_neg e]
    cases c.1 a with
    | none =>
      dsimp only
      rw [if_neg e]
    | some q => rfl
section Cv3
variable {b L : Nat} {xs : Nat → Int32}
theorem k_cpJ (d : Nat) (hd : 2 ≤ d) {H : AH} {a n : Nat} {f : Nat → Value} (ha : a ≠ b) (hl : a < H.1) (ho : H.2.2 a = some (.inl (.long, n, f))) (hf : ∀ i, fits .long (f i) = true) (n1 : 1 ≤ n) (n2 : n ≤ 100000) : Wp b L xs d mi_58 0 (ent (mL mi_58) [.ref a, vI (2 * (n : Int))]) [] H (Rt (hnew H (.inl (.long, 2 * n, va_cpy f (fun _ => defaultValue .long) 0 0 n)) (2 * n)) (.ref H.1)) := by
  have e1 : (2 * (n : Int)).toNat = 2 * n := by omega
  have e2 : min (n : Int) (2 * (n : Int)) = (n : Int) := Int.min_eq_left (by omega)
  have o2 : (hnew H (.inl (.long, 2 * n, fun _ => defaultValue .long)) (2 * n)).2.2 a = some (.inl (.long, n, f)) := by
    show (if a = H.1 then _ else H.2.2 a) = _
    rw [if_neg (by omega), ho]
  have o3 : (hnew H (.inl (.long, 2 * n, fun _ => defaultValue .long)) (2 * n)).2.2 H.1 = some (.inl (.long, 2 * n, fun _ => defaultValue .long)) := by
    show (if H.1 = H.1 then _ else H.2.2 H.1) = _
    rw [if_pos rfl]
  refine w_iload_n rfl rfl ?_
  refine w_aload_n rfl rfl ?_
  refine w_alen rfl ha ho ?_
  refine w_icne_t rfl (by omega) (by omega) (by omega) (by omega) (by omega) ?_
  refine w_iload_n rfl rfl ?_
  refine w_newarray rfl rfl (by omega) (by omega) ?_
  rw [e1]
  refine w_astore_n rfl (by decide) ?_
  refine w_aload_n rfl rfl ?_
  refine w_iconst rfl ?_
  refine w_aload_n rfl rfl ?_
  refine w_iconst rfl ?_
  refine w_aload_n rfl rfl ?_
  refine w_alen rfl ha o2 ?_
  refine w_iload_n rfl rfl ?_
  refine w_min rfl (by omega) (Nat.le_of_ble_eq_true rfl) (by omega) (by omega) (by omega) (by omega) ?_
  rw [e2]
  refine w_acp rfl hd (Nat.le_of_ble_eq_true rfl) o2 o3 (by decide) (by omega) (by omega) (by omega) hf ?_
  rw [hput_new]
  refine w_aload_n rfl rfl ?_
  refine w_areturnA rfl rfl ?_
  exact ⟨rfl, rfl⟩
theorem k_cpB (d : Nat) (hd : 2 ≤ d) {H : AH} {a n : Nat} {f : Nat → Value} (ha : a ≠ b) (hl : a < H.1) (ho : H.2.2 a = some (.inl (.byte, n, f))) (hf : ∀ i, fits .byte (f i) = true) (n1 : 1 ≤ n) (n2 : n ≤ 100000) : Wp b L xs d mi_59 0 (ent (mL mi_59) [.ref a, vI (2 * (n : Int))]) [] H (Rt (hnew H (.inl (.byte, 2 * n, va_cpy f (fun _ => defaultValue .byte) 0 0 n)) (2 * n)) (.ref H.1)) := by
  have e1 : (2 * (n : Int)).toNat = 2 * n := by omega
  have e2 : min (n : Int) (2 * (n : Int)) = (n : Int) := Int.min_eq_left (by omega)
  have o2 : (hnew H (.inl (.byte, 2 * n, fun _ => defaultValue .byte)) (2 * n)).2.2 a = some (.inl (.byte, n, f)) := by
    show (if a = H.1 then _ else H.2.2 a) = _
    rw [if_neg (by omega), ho]
  have o3 : (hnew H (.inl (.byte, 2 * n, fun _ => defaultValue .byte)) (2 * n)).2.2 H.1 = some (.inl (.byte, 2 * n, fun _ => defaultValue .byte)) := by
    show (if H.1 = H.1 then _ else H.2.2 H.1) = _
    rw [if_pos rfl]
  refine w_iload_n rfl rfl ?_
  refine w_aload_n rfl rfl ?_
  refine w_alen rfl ha ho ?_
  refine w_icne_t rfl (by omega) (by omega) (by omega) (by omega) (by omega) ?_
  refine w_iload_n rfl rfl ?_
  refine w_newarray rfl rfl (by omega) (by omega) ?_
  rw [e1]
  refine w_astore_n rfl (by decide) ?_
  refine w_aload_n rfl rfl ?_
  refine w_iconst rfl ?_
  refine w_aload_n rfl rfl ?_
  refine w_iconst rfl ?_
  refine w_aload_n rfl rfl ?_
  refine w_alen rfl ha o2 ?_
  refine w_iload_n rfl rfl ?_
  refine w_min rfl (by omega) (Nat.le_of_ble_eq_true rfl) (by omega) (by omega) (by omega) (by omega) ?_
  rw [e2]
  refine w_acp rfl hd (Nat.le_of_ble_eq_true rfl) o2 o3 (by decide) (by omega) (by omega) (by omega) hf ?_
  rw [hput_new]
  refine w_aload_n rfl rfl ?_
  refine w_areturnA rfl rfl ?_
  exact ⟨rfl, rfl⟩
end Cv3
theorem ccv_l {l l' : Nat → Nat} (h20 : l 20 = l' 20) (h21 : l 21 = l' 21) {k : Nat} (h4 : k ≠ 4) (h5 : k ≠ 5) (v : Nat → Value) : ccv l k v = ccv l' k v := by
  unfold ccv
  split <;> first | rfl | exact absurd rfl h4 | exact absurd rfl h5 | rw [h20] | rw [h21]
def gJ8 (W : Nat → Int64) (len : Nat) : Nat → Int64 := fun j => if j < 8 * len then W j else 0
def gS1 (S : Nat → Int) (len : Nat) : Nat → Int := fun j => if j < len then S j else 0
def hgr (h : AH) (W0 P0 len : Nat) (W : Nat → Int64) (S : Nat → Int) : AH := (h.1 + 2, h.2.1 + 2 * (8 * len) + 2 * len, fun a => if a = W0 then some (.inl (.long, 8 * len, fun j => .long (W j))) else if a = P0 then some (.inl (.byte, len, fun j => vI (S j))) else h.2.2 a)
theorem CH_grow {h : AH} {c : CS} {W0 P0 len cap wr fi : Nat} {W : Nat → Int64} {S : Nat → Int} (c1 : c.1 W0 = none) (c2 : c.1 P0 = none) (c3 : W0 ≠ P0) (c4 : ∀ a i, c.1 a ≠ some (4, i)) (c5 : ∀ a i, c.1 a ≠ some (5, i)) (f1 : W0 < h.1) (f2 : P0 < h.1) (f3 : ∀ a, h.1 ≤ a → c.1 a = none) :
    CH (hnew (hnew h (.inl (.long, 2 * (8 * len), va_cpy (fun j => .long (W j)) (fun _ => defaultValue .long) 0 0 (8 * len))) (2 * (8 * len))) (.inl (.byte, 2 * len, va_cpy (fun j => vI (S j)) (fun _ => defaultValue .byte) 0 0 len)) (2 * len)) (upC (upC (mkV c W0 P0 len cap wr fi W S) 3 0 0 (.ref h.1)) 3 0 1 (.ref (h.1 + 1))) = CH (hgr h W0 P0 len W S) (mkV c h.1 (h.1 + 1) (2 * len) cap wr fi (gJ8 W len) (gS1 S len)) := by
  refine Prod.ext rfl (Prod.ext rfl (funext fun a => ?_))
  by_cases e1 : a = W0
  · rw [e1, CH_at (c := upC (upC (mkV c W0 P0 len cap wr fi W S) 3 0 0 (.ref h.1)) 3 0 1 (.ref (h.1 + 1))) (q := (4, 0)) (show (mkV c W0 P0 len cap wr fi W S).1 W0 = _ from if_pos rfl), CH_out (show (mkV c h.1 (h.1 + 1) (2 * len) cap wr fi (gJ8 W len) (gS1 S len)).1 W0 = none from by rw [mk_o (by omega) (by omega)]; exact c1)]
    show _ = (if W0 = W0 then _ else _)
    rw [if_pos rfl]
    rfl
  by_cases e2 : a = P0
  · rw [e2, CH_at (c := upC (upC (mkV c W0 P0 len cap wr fi W S) 3 0 0 (.ref h.1)) 3 0 1 (.ref (h.1 + 1))) (q := (5, 0)) (show (mkV c W0 P0 len cap wr fi W S).1 P0 = _ from by show (if P0 = W0 then _ else if P0 = P0 then _ else _) = _; rw [if_neg (fun z => c3 z.symm), if_pos rfl]), CH_out (show (mkV c h.1 (h.1 + 1) (2 * len) cap wr fi (gJ8 W len) (gS1 S len)).1 P0 = none from by rw [mk_o (by omega) (by omega)]; exact c2)]
    show _ = (if P0 = W0 then _ else if P0 = P0 then _ else _)
    rw [if_neg (fun z => c3 z.symm), if_pos rfl]
    rfl
  by_cases e3 : a = h.1
  · rw [e3] at e1 e2
    rw [e3, CH_out (c := upC (upC (mkV c W0 P0 len cap wr fi W S) 3 0 0 (.ref h.1)) 3 0 1 (.ref (h.1 + 1))) (show (mkV c W0 P0 len cap wr fi W S).1 h.1 = none from by rw [mk_o e1 e2]; exact f3 h.1 (Nat.le_refl _)), CH_at (q := (4, 0)) (show (mkV c h.1 (h.1 + 1) (2 * len) cap wr fi (gJ8 W len) (gS1 S len)).1 h.1 = _ from if_pos rfl)]
    show (if h.1 = h.1 + 1 then _ else if h.1 = h.1 then some _ else _) = some (Sum.inl (FieldType.long, 8 * (2 * len), fun j => Value.long (gJ8 W len j)))
    rw [if_neg (by omega), if_pos rfl, show 2 * (8 * len) = 8 * (2 * len) by omega]
    congr 4
    funext j
    unfold va_cpy gJ8
    by_cases e4 : j < 8 * len
    · rw [if_pos (by omega), if_pos e4, show 0 + (j - 0) = j by omega]
    · rw [if_neg (by omega), if_neg e4]
      rfl
  by_cases e5 : a = h.1 + 1
  · rw [e5] at e1 e2 e3
    rw [e5, CH_out (c := upC (upC (mkV c W0 P0 len cap wr fi W S) 3 0 0 (.ref h.1)) 3 0 1 (.ref (h.1 + 1))) (show (mkV c W0 P0 len cap wr fi W S).1 (h.1 + 1) = none from by rw [mk_o e1 e2]; exact f3 _ (by omega)), CH_at (q := (5, 0)) (show (mkV c h.1 (h.1 + 1) (2 * len) cap wr fi (gJ8 W len) (gS1 S len)).1 (h.1 + 1) = _ from by show (if h.1 + 1 = h.1 then _ else if h.1 + 1 = h.1 + 1 then _ else _) = _; rw [if_neg e3, if_pos rfl])]
    show (if h.1 + 1 = h.1 + 1 then some _ else _) = some (Sum.inl (FieldType.byte, 2 * len, fun j => vI (gS1 S len j)))
    rw [if_pos rfl]
    congr 4
    funext j
    unfold va_cpy gS1
    by_cases e4 : j < len
    · rw [if_pos (by omega), if_pos e4, show 0 + (j - 0) = j by omega]
    · rw [if_neg (by omega), if_neg e4]
      rfl
  cases hc : c.1 a with
  | none =>
    rw [CH_out (c := upC (upC (mkV c W0 P0 len cap wr fi W S) 3 0 0 (.ref h.1)) 3 0 1 (.ref (h.1 + 1))) (show (mkV c W0 P0 len cap wr fi W S).1 a = none from by rw [mk_o e1 e2]; exact hc), CH_out (show (mkV c h.1 (h.1 + 1) (2 * len) cap wr fi (gJ8 W len) (gS1 S len)).1 a = none from by rw [mk_o e3 e5]; exact hc)]
    show (if a = h.1 + 1 then _ else if a = h.1 then _ else h.2.2 a) = (if a = W0 then _ else if a = P0 then _ else h.2.2 a)
    rw [if_neg e5, if_neg e3, if_neg e1, if_neg e2]
  | some q =>
    have q4 : q.1 ≠ 4 := fun z => c4 a q.2 (by rw [hc, ← z])
    have q5 : q.1 ≠ 5 := fun z => c5 a q.2 (by rw [hc, ← z])
    rw [CH_at (c := upC (upC (mkV c W0 P0 len cap wr fi W S) 3 0 0 (.ref h.1)) 3 0 1 (.ref (h.1 + 1))) (q := q) (show (mkV c W0 P0 len cap wr fi W S).1 a = some q from by rw [mk_o e1 e2]; exact hc), CH_at (q := q) (show (mkV c h.1 (h.1 + 1) (2 * len) cap wr fi (gJ8 W len) (gS1 S len)).1 a = some q from by rw [mk_o e3 e5]; exact hc)]
    refine congrArg some ((ccv_l (l := (mkV c W0 P0 len cap wr fi W S).2.2) (l' := (mkV c h.1 (h.1 + 1) (2 * len) cap wr fi (gJ8 W len) (gS1 S len)).2.2) rfl rfl q4 q5 _).trans ?_)
    congr 1
    show (if q.1 = 3 ∧ q.2 = 0 then upV (upV (vfl W0 P0 cap wr fi) 0 (.ref h.1)) 1 (.ref (h.1 + 1)) else if q.1 = 3 ∧ q.2 = 0 then _ else if q.1 = 3 ∧ q.2 = 0 then _ else if q.1 = 4 ∧ q.2 = 0 then _ else if q.1 = 5 ∧ q.2 = 0 then _ else c.2.1 q.1 q.2) = (if q.1 = 3 ∧ q.2 = 0 then vfl h.1 (h.1 + 1) cap wr fi else if q.1 = 4 ∧ q.2 = 0 then _ else if q.1 = 5 ∧ q.2 = 0 then _ else c.2.1 q.1 q.2)
    by_cases e6 : q.1 = 3 ∧ q.2 = 0
    · rw [if_pos e6, if_pos e6]
      funext f
      unfold upV vfl
      by_cases g1 : f = 1
      · rw [if_pos g1, if_neg (by omega), if_pos g1]
      · rw [if_neg g1, if_neg g1]
        by_cases g0 : f = 0
        · rw [if_pos g0, if_pos g0]
        · rw [if_neg g0, if_neg g0, if_neg g0, if_neg g1]
    · have e7 : ¬ (q.1 = 4 ∧ q.2 = 0) := fun z => q4 z.1
      have e8 : ¬ (q.1 = 5 ∧ q.2 = 0) := fun z => q5 z.1
      simp only [if_neg e6, if_neg e7, if_neg e8]
section Cv4
variable {b L : Nat} {xs : Nat → Int32} {h : AH} {c : CS} {V0 W0 P0 len cap wr fi : Nat} {W : Nat → Int64} {S : Nat → Int}
theorem k_appG (d : Nat) (hd : 3 ≤ d) (hV : VI b c V0 W0 P0 len cap wr S) (hl : wr = len) (l40 : len ≤ 4000) (f1 : W0 < h.1) (f2 : P0 < h.1) (f3 : ∀ a, h.1 ≤ a → c.1 a = none) (fb : b < h.1) : Wp b L xs d mi_57 0 (ent (mL mi_57) [.ref V0]) [] (CH h (mkV c W0 P0 len cap wr fi W S)) (Rn (CH (hgr h W0 P0 len W S) (mkV c h.1 (h.1 + 1) (2 * len) cap (wr + 1) fi (zW (gJ8 W len) (8 * wr) (8 * wr + 8)) (upB (gS1 S len) wr 0)))) := by
  have hV0 := hV
  obtain ⟨hI, oV, oW, oP⟩ := VI_f hV fi W
  obtain ⟨a1, a2, a3, a4, a5, a6, a7, a8, a9, a10, a11, a12, a13, a14, a15⟩ := hV
  have l4 : (mkV c W0 P0 len cap wr fi W S).2.2 4 = 8 * len := rfl
  have l5 : (mkV c W0 P0 len cap wr fi W S).2.2 5 = len := rfl
  have v0 : (mkV c W0 P0 len cap wr fi W S).2.1 3 0 0 = .ref W0 := rfl
  have v1 : (mkV c W0 P0 len cap wr fi W S).2.1 3 0 1 = .ref P0 := rfl
  have v2 : (mkV c W0 P0 len cap wr fi W S).2.1 3 0 2 = vI cap := rfl
  have v3 : (mkV c W0 P0 len cap wr fi W S).2.1 3 0 3 = vI wr := rfl
  have v4 : (mkV c W0 P0 len cap wr fi W S).2.1 3 0 4 = vI fi := rfl
  have n1 : (mkV c W0 P0 len cap wr fi W S).1 h.1 = none := by rw [mk_o (by omega) (by omega)]; exact f3 _ (Nat.le_refl _)
  have n2 : (mkV c W0 P0 len cap wr fi W S).1 (h.1 + 1) = none := by rw [mk_o (by omega) (by omega)]; exact f3 _ (by omega)
  have e1 : (2 : Int) * ((8 * len : Nat) : Int) = 2 * ((8 * len : Nat) : Int) := rfl
  refine w_aload_n rfl rfl ?_
  refine k_get rfl oV rfl rfl ?_
  rw [v3]
  refine w_aload_n rfl rfl ?_
  refine k_get rfl oV rfl rfl ?_
  rw [v1]
  refine k_alen rfl a6 oP rfl ?_
  refine w_iclt_f rfl (by omega) (by omega) (by omega) (by omega) (by omega) ?_
  refine w_aload_n rfl rfl ?_
  refine w_aload_n rfl rfl ?_
  refine k_get rfl oV rfl rfl ?_
  rw [v0]
  refine w_iconst rfl ?_
  refine w_aload_n rfl rfl ?_
  refine k_get rfl oV rfl rfl ?_
  rw [v0]
  refine k_alen rfl a5 oW rfl ?_
  refine w_imul rfl ?_
  refine w_csV rfl (by decide) (by omega) rfl mt_58 (Nat.le_of_ble_eq_true rfl) (Nat.le_of_ble_eq_true rfl) (k_cpJ _ (by omega) (n := 8 * len) (f := fun j => .long (W j)) a5 f1 (CH_at oW) (fun _ => rfl) (by omega) (by omega)) ?_
  rw [CH_hnew n1]
  show Wp b L xs d mi_57 27 _ (Value.ref h.1 :: _) _ _
  refine k_put hI rfl oV rfl rfl rfl rfl ?_
  refine w_aload_n rfl rfl ?_
  refine w_aload_n rfl rfl ?_
  refine k_get rfl oV rfl rfl ?_
  rw [show (upC (mkV c W0 P0 len cap wr fi W S) 3 0 0 (.ref h.1)).2.1 3 0 1 = .ref P0 from rfl]
  refine w_iconst rfl ?_
  refine w_aload_n rfl rfl ?_
  refine k_get rfl oV rfl rfl ?_
  rw [show (upC (mkV c W0 P0 len cap wr fi W S) 3 0 0 (.ref h.1)).2.1 3 0 1 = .ref P0 from rfl]
  refine k_alen rfl a6 oP rfl ?_
  refine w_imul rfl ?_
  refine w_csV rfl (by decide) (by omega) rfl mt_59 (Nat.le_of_ble_eq_true rfl) (Nat.le_of_ble_eq_true rfl) (k_cpB _ (by omega) (n := len) (f := fun j => vI (S j)) a6 (show P0 < h.1 + 1 by omega) (CH_at (c := upC (mkV c W0 P0 len cap wr fi W S) 3 0 0 (.ref h.1)) oP) (fun i => by rcases a15 i with e | e <;> (show fits .byte (vI (S i)) = true; rw [e]; rfl)) (by omega) (by omega)) ?_
  rw [CH_hnew n2]
  show Wp b L xs d mi_57 45 _ (Value.ref (h.1 + 1) :: _) _ _
  refine k_put (c := upC (mkV c W0 P0 len cap wr fi W S) 3 0 0 (.ref h.1)) hI rfl oV rfl rfl rfl rfl ?_
  have g := CH_grow (h := h) (len := len) (cap := cap) (wr := wr) (fi := fi) (W := W) (S := S) a2 a3 a4 a8 a9 f1 f2 f3
  refine (congrArg (fun z => Wp b L xs d mi_57 48 _ [] z _) g).mpr ?_
  refine k_ap48 d ⟨a1, f3 _ (Nat.le_refl _), f3 _ (by omega), by omega, by omega, by omega, a7, a8, a9, a10, a11, by omega, by omega, by omega, fun i => ?_⟩ (by omega) _ _
  unfold gS1
  by_cases e : i < len
  · rw [if_pos e]; exact a15 i
  · rw [if_neg e]; exact Or.inl rfl
theorem k_appN (d : Nat) (hV : VI b c V0 W0 P0 len cap wr S) (hl : wr < len) : Wp b L xs d mi_57 0 (ent (mL mi_57) [.ref V0]) [] (CH h (mkV c W0 P0 len cap wr fi W S)) (Rn (CH h (mkV c W0 P0 len cap (wr + 1) fi (zW W (8 * wr) (8 * wr + 8)) (upB S wr 0)))) := by
  have hV0 := hV
  obtain ⟨hI, oV, oW, oP⟩ := VI_f hV fi W
  obtain ⟨a1, a2, a3, a4, a5, a6, a7, a8, a9, a10, a11, a12, a13, a14, a15⟩ := hV
  have l4 : (mkV c W0 P0 len cap wr fi W S).2.2 4 = 8 * len := rfl
  have l5 : (mkV c W0 P0 len cap wr fi W S).2.2 5 = len := rfl
  have v0 : (mkV c W0 P0 len cap wr fi W S).2.1 3 0 0 = .ref W0 := rfl
  have v1 : (mkV c W0 P0 len cap wr fi W S).2.1 3 0 1 = .ref P0 := rfl
  have v2 : (mkV c W0 P0 len cap wr fi W S).2.1 3 0 2 = vI cap := rfl
  have v3 : (mkV c W0 P0 len cap wr fi W S).2.1 3 0 3 = vI wr := rfl
  have v4 : (mkV c W0 P0 len cap wr fi W S).2.1 3 0 4 = vI fi := rfl
  refine w_aload_n rfl rfl ?_
  refine k_get rfl oV rfl rfl ?_
  rw [v3]
  refine w_aload_n rfl rfl ?_
  refine k_get rfl oV rfl rfl ?_
  rw [v1]
  refine k_alen rfl (by first | omega | (simp only [Int.toNat_natCast, upF_2] at *; omega)) oP rfl ?_
  refine w_iclt_t rfl (by omega) (by omega) (by omega) (by omega) (by first | omega | (simp only [Int.toNat_natCast, upF_2] at *; omega)) ?_
  exact k_ap48 d hV0 hl _ _
end Cv4
