/-! the reference's constructor -/
def zR : RS := (fun _ => 0, fun _ _ _ => 0)
/-- the reference's heap while it is laid: the object, and the cells below the offset -/
def PHp (m0 : Nat) (h : AH) (off sl : Nat) (fs : List Value) : AH := (m0 + off, sl, fun a => if a = m0 then some (.inr (7, fs)) else if m0 < a ∧ a < m0 + off then rcell m0 zR (a - m0) else h.2.2 a)
theorem PH_obj {m0 : Nat} {h : AH} {off sl : Nat} {fs : List Value} {o : AO} {k : Nat} (ho : 0 < off) : (hnew (PHp m0 h off sl fs) o k).2.2 m0 = some (.inr (7, fs)) := by
  show va_up _ (m0 + off) _ m0 = _
  rw [va_up_ne _ _ (by omega)]
  show (if m0 = m0 then _ else _) = _
  rw [if_pos rfl]
theorem PH_objM {m0 : Nat} {h : AH} {off sl : Nat} {fs : List Value} {ty : FieldType} {N K : Nat} (ho : 0 < off) : (hmul (PHp m0 h off sl fs) ty N K).2.2 m0 = some (.inr (7, fs)) := by
  show (if m0 = m0 + off then _ else if m0 + off < m0 ∧ m0 ≤ m0 + off + N then _ else if m0 = m0 then _ else _) = _
  rw [if_neg (by omega), if_neg (by omega), if_pos rfl]
theorem zR_vv {ty : FieldType} (h : ty = .int ∨ ty = .byte ∨ ty = .boolean) : vv ty 0 = defaultValue ty := by
  rcases h with rfl | rfl | rfl <;> rfl
theorem PH_A {m0 : Nat} {h : AH} {off sl n j : Nat} {fs fs' : List Value} {ty : FieldType} (ho : 0 < off) (hl : rlay off = some (ty, n, j, 0)) (hty : ty = .int ∨ ty = .byte ∨ ty = .boolean) : hput (hnew (PHp m0 h off sl fs) (.inl (ty, n, fun _ => defaultValue ty)) n) m0 (.inr (7, fs')) = PHp m0 h (off + 1) (sl + n) fs' := by
  refine Prod.ext rfl (Prod.ext rfl (funext fun a => ?_))
  show (if a = m0 then some (Sum.inr (7, fs')) else if a = m0 + off then some (Sum.inl (ty, n, fun _ => defaultValue ty)) else if a = m0 then some (Sum.inr (7, fs)) else if m0 < a ∧ a < m0 + off then rcell m0 zR (a - m0) else h.2.2 a) = (if a = m0 then some (Sum.inr (7, fs')) else if m0 < a ∧ a < m0 + (off + 1) then rcell m0 zR (a - m0) else h.2.2 a)
  by_cases e : a = m0
  · simp only [if_pos e]
  · simp only [if_neg e]
    by_cases e2 : a = m0 + off
    · rw [if_pos e2, if_pos ⟨by omega, by omega⟩, show a - m0 = off by omega]
      unfold rcell
      rw [hl]
      dsimp only
      rw [show (fun i => vv ty (zR.2 j 0 i)) = fun _ => defaultValue ty from by funext i; exact zR_vv hty]
    · rw [if_neg e2]
      by_cases e3 : m0 < a ∧ a < m0 + off
      · rw [if_pos e3, if_pos ⟨e3.1, by omega⟩]
      · rw [if_neg e3, if_neg (by omega)]
theorem PH_M {m0 : Nat} {h : AH} {off sl N K j : Nat} {fs fs' : List Value} {ty : FieldType} (ho : 0 < off) (hl : rout off = some (ty, N)) (hn : rlay off = none) (hr : ∀ r, r < N → rlay (off + 1 + r) = some (ty, K, j, r)) (hty : ty = .int ∨ ty = .byte ∨ ty = .boolean) : hput (hmul (PHp m0 h off sl fs) ty N K) m0 (.inr (7, fs')) = PHp m0 h (off + 1 + N) (sl + N + N * K) fs' := by
  have e0 : hput (hmul (PHp m0 h off sl fs) ty N K) m0 (.inr (7, fs')) = (m0 + off + 1 + N, sl + N + N * K, fun a => if a = m0 then some (.inr (7, fs')) else if a = m0 + off then some (.inl (.array ty, N, fun j => if j < N then .ref (m0 + off + 1 + j) else .null)) else if m0 + off < a ∧ a ≤ m0 + off + N then some (.inl (ty, K, fun _ => defaultValue ty)) else if a = m0 then some (.inr (7, fs)) else if m0 < a ∧ a < m0 + off then rcell m0 zR (a - m0) else h.2.2 a) := rfl
  rw [e0]
  unfold PHp
  refine Prod.ext (by show m0 + off + 1 + N = m0 + (off + 1 + N); omega) (Prod.ext rfl (funext fun a => ?_))
  dsimp only
  by_cases e : a = m0
  · simp only [if_pos e]
  · simp only [if_neg e]
    by_cases e2 : a = m0 + off
    · rw [if_pos e2, if_pos ⟨by omega, by omega⟩, show a - m0 = off by omega]
      unfold rcell
      rw [hn]
      dsimp only
      rw [if_neg (by omega), hl]
    · rw [if_neg e2]
      by_cases e4 : m0 + off < a ∧ a ≤ m0 + off + N
      · rw [if_pos e4, if_pos ⟨by omega, by omega⟩]
        have h1 := hr (a - m0 - (off + 1)) (by omega)
        rw [show off + 1 + (a - m0 - (off + 1)) = a - m0 by omega] at h1
        unfold rcell
        rw [h1]
        dsimp only
        rw [show (fun i => vv ty (zR.2 j (a - m0 - (off + 1)) i)) = fun _ => defaultValue ty from by funext i; exact zR_vv hty]
      · rw [if_neg e4]
        by_cases e3 : m0 < a ∧ a < m0 + off
        · rw [if_pos e3, if_pos ⟨e3.1, by omega⟩]
        · rw [if_neg e3, if_neg (by omega)]
theorem PH_fin {m0 : Nat} {h : AH} {sl : Nat} {fs : List Value} (hf : fs = mf m0 zR) : PHp m0 h 1160 sl fs = RH m0 (m0 + 1160, sl, h.2.2) zR := by
  unfold PHp RH
  refine Prod.ext rfl (Prod.ext rfl (funext fun a => ?_))
  dsimp only
  by_cases e : a = m0
  · rw [if_pos e, if_pos ⟨by omega, by omega⟩, e, Nat.sub_self, hf]
    rfl
  · rw [if_neg e]
    by_cases e2 : m0 < a ∧ a < m0 + 1160
    · rw [if_pos e2, if_pos ⟨by omega, e2.2⟩]
    · rw [if_neg e2, if_neg (by omega)]
theorem PH_goA {b L : Nat} {xs : Nat → Int32} {d : Nat} {M : MI} {pc : Nat} {lv : List (Option Value)} {st : List Value} {Q : AH → RO → Prop} {m0 : Nat} {h : AH} {off sl n j : Nat} {fs : List Value} {ty : FieldType} (ho : 0 < off) (hl : rlay off = some (ty, n, j, 0)) (hty : ty = .int ∨ ty = .byte ∨ ty = .boolean) (fs2 : List Value) (hfs : fs.set j (.ref (m0 + off)) = fs2) (k : Wp b L xs d M pc lv st (PHp m0 h (off + 1) (sl + n) fs2) Q) : Wp b L xs d M pc lv st (hput (hnew (PHp m0 h off sl fs) (.inl (ty, n, fun _ => defaultValue ty)) n) m0 (.inr (7, fs.set j (.ref (m0 + off))))) Q := by
  rw [PH_A ho hl hty, hfs]
  exact k
theorem PH_goM {b L : Nat} {xs : Nat → Int32} {d : Nat} {M : MI} {pc : Nat} {lv : List (Option Value)} {st : List Value} {Q : AH → RO → Prop} {m0 : Nat} {h : AH} {off sl N K j : Nat} {fs : List Value} {ty : FieldType} (ho : 0 < off) (hl : rout off = some (ty, N)) (hn : rlay off = none) (hr : ∀ r, r < N → rlay (off + 1 + r) = some (ty, K, j, r)) (hty : ty = .int ∨ ty = .byte ∨ ty = .boolean) (fs2 : List Value) (hfs : fs.set j (.ref (m0 + off)) = fs2) (k : Wp b L xs d M pc lv st (PHp m0 h (off + 1 + N) (sl + N + N * K) fs2) Q) : Wp b L xs d M pc lv st (hput (hmul (PHp m0 h off sl fs) ty N K) m0 (.inr (7, fs.set j (.ref (m0 + off))))) Q := by
  rw [PH_M ho hl hn hr hty, hfs]
  exact k
theorem PH_goF {b L : Nat} {xs : Nat → Int32} {d : Nat} {M : MI} {pc : Nat} {lv : List (Option Value)} {st : List Value} {Q : AH → RO → Prop} {m0 : Nat} {h : AH} {sl : Nat} {fs : List Value} (k : Wp b L xs d M pc lv st (RH m0 (m0 + 1160, sl, h.2.2) zR) Q) (hf : fs = mf m0 zR) : Wp b L xs d M pc lv st (PHp m0 h 1160 sl fs) Q := by
  rw [PH_fin hf]
  exact k
theorem zR_g : Rg zR := ⟨fun _ => ⟨by show (-2147483648 : Int) ≤ 0; decide, by show (0 : Int) ≤ 2147483647; decide⟩, fun _ _ _ => ⟨by show (-2147483648 : Int) ≤ 0; decide, by show (0 : Int) ≤ 2147483647; decide⟩⟩
def fs7 : List Value := [vI 0, .null, .null, .null, .null, .null, .null, vI 0, vI 0, vI 0, .null, .null, .null, .null, .null, .null, vI 0, .null, .null, .null, .null, .null, .null, .null, .null, .null, .null, vI 0, vI 0, vI 0, .null, .null, .null, .null, .null, .null, .null, .null, .null, .null, .null, .null, vI 0, vI 0, vI 0, vI 0, .null, vI 0]
section Rr21
variable {b L : Nat} {xs : Nat → Int32} {m0 : Nat} {h : AH}
set_option maxRecDepth 50000 in
theorem r_init (hb : b < m0) (d : Nat) (hd : 3 ≤ d) {sl : Nat} : Wp b L xs d mi_110 0 (ent (mL mi_110) [.ref m0]) [] (PHp m0 h 1 sl fs7) (fun h' o => o = .inl none ∧ ∃ sl', sl' ≤ sl + 1100000 ∧ h' = RH m0 (m0 + 1160, sl', h.2.2) (rBegin zR 64)) := by
  refine w_aload_n rfl rfl ?_
  refine w_obj rfl (by omega) (Nat.le_of_ble_eq_true rfl) ?_
  refine w_aload_n rfl rfl ?_
  refine w_sipush rfl rfl ?_
  refine w_newarray rfl rfl (by decide) (by decide) ?_
  refine w_putfield rfl (PH_obj (by decide)) rfl rfl ?_
  refine PH_goA (j := 1) (off := 1) (by decide) rl_1 (Or.inl rfl) [vI 0, .ref (m0 + 1), .null, .null, .null, .null, .null, vI 0, vI 0, vI 0, .null, .null, .null, .null, .null, .null, vI 0, .null, .null, .null, .null, .null, .null, .null, .null, .null, .null, vI 0, vI 0, vI 0, .null, .null, .null, .null, .null, .null, .null, .null, .null, .null, .null, .null, vI 0, vI 0, vI 0, vI 0, .null, vI 0] rfl ?_
  refine w_aload_n rfl rfl ?_
  refine w_sipush rfl rfl ?_
  refine w_newarray rfl rfl (by decide) (by decide) ?_
  refine w_putfield rfl (PH_obj (by decide)) rfl rfl ?_
  refine PH_goA (j := 2) (off := 2) (by decide) rl_2 (Or.inl rfl) [vI 0, .ref (m0 + 1), .ref (m0 + 2), .null, .null, .null, .null, vI 0, vI 0, vI 0, .null, .null, .null, .null, .null, .null, vI 0, .null, .null, .null, .null, .null, .null, .null, .null, .null, .null, vI 0, vI 0, vI 0, .null, .null, .null, .null, .null, .null, .null, .null, .null, .null, .null, .null, vI 0, vI 0, vI 0, vI 0, .null, vI 0] rfl ?_
  refine w_aload_n rfl rfl ?_
  refine w_sipush rfl rfl ?_
  refine w_newarray rfl rfl (by decide) (by decide) ?_
  refine w_putfield rfl (PH_obj (by decide)) rfl rfl ?_
  refine PH_goA (j := 3) (off := 3) (by decide) rl_3 (Or.inl rfl) [vI 0, .ref (m0 + 1), .ref (m0 + 2), .ref (m0 + 3), .null, .null, .null, vI 0, vI 0, vI 0, .null, .null, .null, .null, .null, .null, vI 0, .null, .null, .null, .null, .null, .null, .null, .null, .null, .null, vI 0, vI 0, vI 0, .null, .null, .null, .null, .null, .null, .null, .null, .null, .null, .null, .null, vI 0, vI 0, vI 0, vI 0, .null, vI 0] rfl ?_
  refine w_aload_n rfl rfl ?_
  refine w_sipush rfl rfl ?_
  refine w_newarray rfl rfl (by decide) (by decide) ?_
  refine w_putfield rfl (PH_obj (by decide)) rfl rfl ?_
  refine PH_goA (j := 4) (off := 4) (by decide) rl_4 (Or.inl rfl) [vI 0, .ref (m0 + 1), .ref (m0 + 2), .ref (m0 + 3), .ref (m0 + 4), .null, .null, vI 0, vI 0, vI 0, .null, .null, .null, .null, .null, .null, vI 0, .null, .null, .null, .null, .null, .null, .null, .null, .null, .null, vI 0, vI 0, vI 0, .null, .null, .null, .null, .null, .null, .null, .null, .null, .null, .null, .null, vI 0, vI 0, vI 0, vI 0, .null, vI 0] rfl ?_
  refine w_aload_n rfl rfl ?_
  refine w_sipush rfl rfl ?_
  refine w_newarray rfl rfl (by decide) (by decide) ?_
  refine w_putfield rfl (PH_obj (by decide)) rfl rfl ?_
  refine PH_goA (j := 5) (off := 5) (by decide) rl_5 (Or.inl rfl) [vI 0, .ref (m0 + 1), .ref (m0 + 2), .ref (m0 + 3), .ref (m0 + 4), .ref (m0 + 5), .null, vI 0, vI 0, vI 0, .null, .null, .null, .null, .null, .null, vI 0, .null, .null, .null, .null, .null, .null, .null, .null, .null, .null, vI 0, vI 0, vI 0, .null, .null, .null, .null, .null, .null, .null, .null, .null, .null, .null, .null, vI 0, vI 0, vI 0, vI 0, .null, vI 0] rfl ?_
  refine w_aload_n rfl rfl ?_
  refine w_sipush rfl rfl ?_
  refine w_sipush rfl rfl ?_
  refine w_multi rfl rfl (by decide +kernel) (by decide) (by decide) (by decide) (by decide) ?_
  refine w_putfield rfl (PH_objM (by decide)) rfl rfl ?_
  refine PH_goM (j := 6) (off := 6) (N := 256) (by decide) rfl rfl (fun r hr => rlay_r6 hr) (Or.inr (Or.inl rfl)) [vI 0, .ref (m0 + 1), .ref (m0 + 2), .ref (m0 + 3), .ref (m0 + 4), .ref (m0 + 5), .ref (m0 + 6), vI 0, vI 0, vI 0, .null, .null, .null, .null, .null, .null, vI 0, .null, .null, .null, .null, .null, .null, .null, .null, .null, .null, vI 0, vI 0, vI 0, .null, .null, .null, .null, .null, .null, .null, .null, .null, .null, .null, .null, vI 0, vI 0, vI 0, vI 0, .null, vI 0] rfl ?_
  refine w_aload_n rfl rfl ?_
  refine w_bipush rfl rfl ?_
  refine w_newarray rfl rfl (by decide) (by decide) ?_
  refine w_putfield rfl (PH_obj (by decide)) rfl rfl ?_
  refine PH_goA (j := 10) (off := 263) (by decide) rl_10 (Or.inl rfl) [vI 0, .ref (m0 + 1), .ref (m0 + 2), .ref (m0 + 3), .ref (m0 + 4), .ref (m0 + 5), .ref (m0 + 6), vI 0, vI 0, vI 0, .ref (m0 + 263), .null, .null, .null, .null, .null, vI 0, .null, .null, .null, .null, .null, .null, .null, .null, .null, .null, vI 0, vI 0, vI 0, .null, .null, .null, .null, .null, .null, .null, .null, .null, .null, .null, .null, vI 0, vI 0, vI 0, vI 0, .null, vI 0] rfl ?_
  refine w_aload_n rfl rfl ?_
  refine w_bipush rfl rfl ?_
  refine w_newarray rfl rfl (by decide) (by decide) ?_
  refine w_putfield rfl (PH_obj (by decide)) rfl rfl ?_
  refine PH_goA (j := 11) (off := 264) (by decide) rl_11 (Or.inl rfl) [vI 0, .ref (m0 + 1), .ref (m0 + 2), .ref (m0 + 3), .ref (m0 + 4), .ref (m0 + 5), .ref (m0 + 6), vI 0, vI 0, vI 0, .ref (m0 + 263), .ref (m0 + 264), .null, .null, .null, .null, vI 0, .null, .null, .null, .null, .null, .null, .null, .null, .null, .null, vI 0, vI 0, vI 0, .null, .null, .null, .null, .null, .null, .null, .null, .null, .null, .null, .null, vI 0, vI 0, vI 0, vI 0, .null, vI 0] rfl ?_
  refine w_aload_n rfl rfl ?_
  refine w_bipush rfl rfl ?_
  refine w_newarray rfl rfl (by decide) (by decide) ?_
  refine w_putfield rfl (PH_obj (by decide)) rfl rfl ?_
  refine PH_goA (j := 12) (off := 265) (by decide) rl_12 (Or.inl rfl) [vI 0, .ref (m0 + 1), .ref (m0 + 2), .ref (m0 + 3), .ref (m0 + 4), .ref (m0 + 5), .ref (m0 + 6), vI 0, vI 0, vI 0, .ref (m0 + 263), .ref (m0 + 264), .ref (m0 + 265), .null, .null, .null, vI 0, .null, .null, .null, .null, .null, .null, .null, .null, .null, .null, vI 0, vI 0, vI 0, .null, .null, .null, .null, .null, .null, .null, .null, .null, .null, .null, .null, vI 0, vI 0, vI 0, vI 0, .null, vI 0] rfl ?_
  refine w_aload_n rfl rfl ?_
  refine w_bipush rfl rfl ?_
  refine w_newarray rfl rfl (by decide) (by decide) ?_
  refine w_putfield rfl (PH_obj (by decide)) rfl rfl ?_
  refine PH_goA (j := 13) (off := 266) (by decide) rl_13 (Or.inl rfl) [vI 0, .ref (m0 + 1), .ref (m0 + 2), .ref (m0 + 3), .ref (m0 + 4), .ref (m0 + 5), .ref (m0 + 6), vI 0, vI 0, vI 0, .ref (m0 + 263), .ref (m0 + 264), .ref (m0 + 265), .ref (m0 + 266), .null, .null, vI 0, .null, .null, .null, .null, .null, .null, .null, .null, .null, .null, vI 0, vI 0, vI 0, .null, .null, .null, .null, .null, .null, .null, .null, .null, .null, .null, .null, vI 0, vI 0, vI 0, vI 0, .null, vI 0] rfl ?_
  refine w_aload_n rfl rfl ?_
  refine w_bipush rfl rfl ?_
  refine w_newarray rfl rfl (by decide) (by decide) ?_
  refine w_putfield rfl (PH_obj (by decide)) rfl rfl ?_
  refine PH_goA (j := 14) (off := 267) (by decide) rl_14 (Or.inl rfl) [vI 0, .ref (m0 + 1), .ref (m0 + 2), .ref (m0 + 3), .ref (m0 + 4), .ref (m0 + 5), .ref (m0 + 6), vI 0, vI 0, vI 0, .ref (m0 + 263), .ref (m0 + 264), .ref (m0 + 265), .ref (m0 + 266), .ref (m0 + 267), .null, vI 0, .null, .null, .null, .null, .null, .null, .null, .null, .null, .null, vI 0, vI 0, vI 0, .null, .null, .null, .null, .null, .null, .null, .null, .null, .null, .null, .null, vI 0, vI 0, vI 0, vI 0, .null, vI 0] rfl ?_
  refine w_aload_n rfl rfl ?_
  refine w_bipush rfl rfl ?_
  refine w_sipush rfl rfl ?_
  refine w_multi rfl rfl (by decide +kernel) (by decide) (by decide) (by decide) (by decide) ?_
  refine w_putfield rfl (PH_objM (by decide)) rfl rfl ?_
  refine PH_goM (j := 15) (off := 268) (N := 100) (by decide) rfl rfl (fun r hr => rlay_r15 hr) (Or.inr (Or.inr rfl)) [vI 0, .ref (m0 + 1), .ref (m0 + 2), .ref (m0 + 3), .ref (m0 + 4), .ref (m0 + 5), .ref (m0 + 6), vI 0, vI 0, vI 0, .ref (m0 + 263), .ref (m0 + 264), .ref (m0 + 265), .ref (m0 + 266), .ref (m0 + 267), .ref (m0 + 268), vI 0, .null, .null, .null, .null, .null, .null, .null, .null, .null, .null, vI 0, vI 0, vI 0, .null, .null, .null, .null, .null, .null, .null, .null, .null, .null, .null, .null, vI 0, vI 0, vI 0, vI 0, .null, vI 0] rfl ?_
  refine w_aload_n rfl rfl ?_
  refine w_sipush rfl rfl ?_
  refine w_newarray rfl rfl (by decide) (by decide) ?_
  refine w_putfield rfl (PH_obj (by decide)) rfl rfl ?_
  refine PH_goA (j := 17) (off := 369) (by decide) rl_17 (Or.inl rfl) [vI 0, .ref (m0 + 1), .ref (m0 + 2), .ref (m0 + 3), .ref (m0 + 4), .ref (m0 + 5), .ref (m0 + 6), vI 0, vI 0, vI 0, .ref (m0 + 263), .ref (m0 + 264), .ref (m0 + 265), .ref (m0 + 266), .ref (m0 + 267), .ref (m0 + 268), vI 0, .ref (m0 + 369), .null, .null, .null, .null, .null, .null, .null, .null, .null, vI 0, vI 0, vI 0, .null, .null, .null, .null, .null, .null, .null, .null, .null, .null, .null, .null, vI 0, vI 0, vI 0, vI 0, .null, vI 0] rfl ?_
  refine w_aload_n rfl rfl ?_
  refine w_sipush rfl rfl ?_
  refine w_newarray rfl rfl (by decide) (by decide) ?_
  refine w_putfield rfl (PH_obj (by decide)) rfl rfl ?_
  refine PH_goA (j := 18) (off := 370) (by decide) rl_18 (Or.inl rfl) [vI 0, .ref (m0 + 1), .ref (m0 + 2), .ref (m0 + 3), .ref (m0 + 4), .ref (m0 + 5), .ref (m0 + 6), vI 0, vI 0, vI 0, .ref (m0 + 263), .ref (m0 + 264), .ref (m0 + 265), .ref (m0 + 266), .ref (m0 + 267), .ref (m0 + 268), vI 0, .ref (m0 + 369), .ref (m0 + 370), .null, .null, .null, .null, .null, .null, .null, .null, vI 0, vI 0, vI 0, .null, .null, .null, .null, .null, .null, .null, .null, .null, .null, .null, .null, vI 0, vI 0, vI 0, vI 0, .null, vI 0] rfl ?_
  refine w_aload_n rfl rfl ?_
  refine w_sipush rfl rfl ?_
  refine w_newarray rfl rfl (by decide) (by decide) ?_
  refine w_putfield rfl (PH_obj (by decide)) rfl rfl ?_
  refine PH_goA (j := 19) (off := 371) (by decide) rl_19 (Or.inl rfl) [vI 0, .ref (m0 + 1), .ref (m0 + 2), .ref (m0 + 3), .ref (m0 + 4), .ref (m0 + 5), .ref (m0 + 6), vI 0, vI 0, vI 0, .ref (m0 + 263), .ref (m0 + 264), .ref (m0 + 265), .ref (m0 + 266), .ref (m0 + 267), .ref (m0 + 268), vI 0, .ref (m0 + 369), .ref (m0 + 370), .ref (m0 + 371), .null, .null, .null, .null, .null, .null, .null, vI 0, vI 0, vI 0, .null, .null, .null, .null, .null, .null, .null, .null, .null, .null, .null, .null, vI 0, vI 0, vI 0, vI 0, .null, vI 0] rfl ?_
  refine w_aload_n rfl rfl ?_
  refine w_sipush rfl rfl ?_
  refine w_newarray rfl rfl (by decide) (by decide) ?_
  refine w_putfield rfl (PH_obj (by decide)) rfl rfl ?_
  refine PH_goA (j := 20) (off := 372) (by decide) rl_20 (Or.inl rfl) [vI 0, .ref (m0 + 1), .ref (m0 + 2), .ref (m0 + 3), .ref (m0 + 4), .ref (m0 + 5), .ref (m0 + 6), vI 0, vI 0, vI 0, .ref (m0 + 263), .ref (m0 + 264), .ref (m0 + 265), .ref (m0 + 266), .ref (m0 + 267), .ref (m0 + 268), vI 0, .ref (m0 + 369), .ref (m0 + 370), .ref (m0 + 371), .ref (m0 + 372), .null, .null, .null, .null, .null, .null, vI 0, vI 0, vI 0, .null, .null, .null, .null, .null, .null, .null, .null, .null, .null, .null, .null, vI 0, vI 0, vI 0, vI 0, .null, vI 0] rfl ?_
  refine w_aload_n rfl rfl ?_
  refine w_sipush rfl rfl ?_
  refine w_newarray rfl rfl (by decide) (by decide) ?_
  refine w_putfield rfl (PH_obj (by decide)) rfl rfl ?_
  refine PH_goA (j := 21) (off := 373) (by decide) rl_21 (Or.inl rfl) [vI 0, .ref (m0 + 1), .ref (m0 + 2), .ref (m0 + 3), .ref (m0 + 4), .ref (m0 + 5), .ref (m0 + 6), vI 0, vI 0, vI 0, .ref (m0 + 263), .ref (m0 + 264), .ref (m0 + 265), .ref (m0 + 266), .ref (m0 + 267), .ref (m0 + 268), vI 0, .ref (m0 + 369), .ref (m0 + 370), .ref (m0 + 371), .ref (m0 + 372), .ref (m0 + 373), .null, .null, .null, .null, .null, vI 0, vI 0, vI 0, .null, .null, .null, .null, .null, .null, .null, .null, .null, .null, .null, .null, vI 0, vI 0, vI 0, vI 0, .null, vI 0] rfl ?_
  refine w_aload_n rfl rfl ?_
  refine w_sipush rfl rfl ?_
  refine w_newarray rfl rfl (by decide) (by decide) ?_
  refine w_putfield rfl (PH_obj (by decide)) rfl rfl ?_
  refine PH_goA (j := 22) (off := 374) (by decide) rl_22 (Or.inl rfl) [vI 0, .ref (m0 + 1), .ref (m0 + 2), .ref (m0 + 3), .ref (m0 + 4), .ref (m0 + 5), .ref (m0 + 6), vI 0, vI 0, vI 0, .ref (m0 + 263), .ref (m0 + 264), .ref (m0 + 265), .ref (m0 + 266), .ref (m0 + 267), .ref (m0 + 268), vI 0, .ref (m0 + 369), .ref (m0 + 370), .ref (m0 + 371), .ref (m0 + 372), .ref (m0 + 373), .ref (m0 + 374), .null, .null, .null, .null, vI 0, vI 0, vI 0, .null, .null, .null, .null, .null, .null, .null, .null, .null, .null, .null, .null, vI 0, vI 0, vI 0, vI 0, .null, vI 0] rfl ?_
  refine w_aload_n rfl rfl ?_
  refine w_sipush rfl rfl ?_
  refine w_newarray rfl rfl (by decide) (by decide) ?_
  refine w_putfield rfl (PH_obj (by decide)) rfl rfl ?_
  refine PH_goA (j := 23) (off := 375) (by decide) rl_23 (Or.inl rfl) [vI 0, .ref (m0 + 1), .ref (m0 + 2), .ref (m0 + 3), .ref (m0 + 4), .ref (m0 + 5), .ref (m0 + 6), vI 0, vI 0, vI 0, .ref (m0 + 263), .ref (m0 + 264), .ref (m0 + 265), .ref (m0 + 266), .ref (m0 + 267), .ref (m0 + 268), vI 0, .ref (m0 + 369), .ref (m0 + 370), .ref (m0 + 371), .ref (m0 + 372), .ref (m0 + 373), .ref (m0 + 374), .ref (m0 + 375), .null, .null, .null, vI 0, vI 0, vI 0, .null, .null, .null, .null, .null, .null, .null, .null, .null, .null, .null, .null, vI 0, vI 0, vI 0, vI 0, .null, vI 0] rfl ?_
  refine w_aload_n rfl rfl ?_
  refine w_ldc (z := 256000) rfl rfl rfl ?_
  refine w_newarray rfl rfl (by decide) (by decide) ?_
  refine w_putfield rfl (PH_obj (by decide)) rfl rfl ?_
  refine PH_goA (j := 24) (off := 376) (by decide) rl_24 (Or.inr (Or.inl rfl)) [vI 0, .ref (m0 + 1), .ref (m0 + 2), .ref (m0 + 3), .ref (m0 + 4), .ref (m0 + 5), .ref (m0 + 6), vI 0, vI 0, vI 0, .ref (m0 + 263), .ref (m0 + 264), .ref (m0 + 265), .ref (m0 + 266), .ref (m0 + 267), .ref (m0 + 268), vI 0, .ref (m0 + 369), .ref (m0 + 370), .ref (m0 + 371), .ref (m0 + 372), .ref (m0 + 373), .ref (m0 + 374), .ref (m0 + 375), .ref (m0 + 376), .null, .null, vI 0, vI 0, vI 0, .null, .null, .null, .null, .null, .null, .null, .null, .null, .null, .null, .null, vI 0, vI 0, vI 0, vI 0, .null, vI 0] rfl ?_
  refine w_aload_n rfl rfl ?_
  refine w_ldc (z := 84000) rfl rfl rfl ?_
  refine w_newarray rfl rfl (by decide) (by decide) ?_
  refine w_putfield rfl (PH_obj (by decide)) rfl rfl ?_
  refine PH_goA (j := 25) (off := 377) (by decide) rl_25 (Or.inl rfl) [vI 0, .ref (m0 + 1), .ref (m0 + 2), .ref (m0 + 3), .ref (m0 + 4), .ref (m0 + 5), .ref (m0 + 6), vI 0, vI 0, vI 0, .ref (m0 + 263), .ref (m0 + 264), .ref (m0 + 265), .ref (m0 + 266), .ref (m0 + 267), .ref (m0 + 268), vI 0, .ref (m0 + 369), .ref (m0 + 370), .ref (m0 + 371), .ref (m0 + 372), .ref (m0 + 373), .ref (m0 + 374), .ref (m0 + 375), .ref (m0 + 376), .ref (m0 + 377), .null, vI 0, vI 0, vI 0, .null, .null, .null, .null, .null, .null, .null, .null, .null, .null, .null, .null, vI 0, vI 0, vI 0, vI 0, .null, vI 0] rfl ?_
  refine w_aload_n rfl rfl ?_
  refine w_ldc (z := 84000) rfl rfl rfl ?_
  refine w_newarray rfl rfl (by decide) (by decide) ?_
  refine w_putfield rfl (PH_obj (by decide)) rfl rfl ?_
  refine PH_goA (j := 26) (off := 378) (by decide) rl_26 (Or.inl rfl) [vI 0, .ref (m0 + 1), .ref (m0 + 2), .ref (m0 + 3), .ref (m0 + 4), .ref (m0 + 5), .ref (m0 + 6), vI 0, vI 0, vI 0, .ref (m0 + 263), .ref (m0 + 264), .ref (m0 + 265), .ref (m0 + 266), .ref (m0 + 267), .ref (m0 + 268), vI 0, .ref (m0 + 369), .ref (m0 + 370), .ref (m0 + 371), .ref (m0 + 372), .ref (m0 + 373), .ref (m0 + 374), .ref (m0 + 375), .ref (m0 + 376), .ref (m0 + 377), .ref (m0 + 378), vI 0, vI 0, vI 0, .null, .null, .null, .null, .null, .null, .null, .null, .null, .null, .null, .null, vI 0, vI 0, vI 0, vI 0, .null, vI 0] rfl ?_
  refine w_aload_n rfl rfl ?_
  refine w_sipush rfl rfl ?_
  refine w_newarray rfl rfl (by decide) (by decide) ?_
  refine w_putfield rfl (PH_obj (by decide)) rfl rfl ?_
  refine PH_goA (j := 30) (off := 379) (by decide) rl_30 (Or.inr (Or.inr rfl)) [vI 0, .ref (m0 + 1), .ref (m0 + 2), .ref (m0 + 3), .ref (m0 + 4), .ref (m0 + 5), .ref (m0 + 6), vI 0, vI 0, vI 0, .ref (m0 + 263), .ref (m0 + 264), .ref (m0 + 265), .ref (m0 + 266), .ref (m0 + 267), .ref (m0 + 268), vI 0, .ref (m0 + 369), .ref (m0 + 370), .ref (m0 + 371), .ref (m0 + 372), .ref (m0 + 373), .ref (m0 + 374), .ref (m0 + 375), .ref (m0 + 376), .ref (m0 + 377), .ref (m0 + 378), vI 0, vI 0, vI 0, .ref (m0 + 379), .null, .null, .null, .null, .null, .null, .null, .null, .null, .null, .null, vI 0, vI 0, vI 0, vI 0, .null, vI 0] rfl ?_
  refine w_aload_n rfl rfl ?_
  refine w_sipush rfl rfl ?_
  refine w_newarray rfl rfl (by decide) (by decide) ?_
  refine w_putfield rfl (PH_obj (by decide)) rfl rfl ?_
  refine PH_goA (j := 31) (off := 380) (by decide) rl_31 (Or.inr (Or.inr rfl)) [vI 0, .ref (m0 + 1), .ref (m0 + 2), .ref (m0 + 3), .ref (m0 + 4), .ref (m0 + 5), .ref (m0 + 6), vI 0, vI 0, vI 0, .ref (m0 + 263), .ref (m0 + 264), .ref (m0 + 265), .ref (m0 + 266), .ref (m0 + 267), .ref (m0 + 268), vI 0, .ref (m0 + 369), .ref (m0 + 370), .ref (m0 + 371), .ref (m0 + 372), .ref (m0 + 373), .ref (m0 + 374), .ref (m0 + 375), .ref (m0 + 376), .ref (m0 + 377), .ref (m0 + 378), vI 0, vI 0, vI 0, .ref (m0 + 379), .ref (m0 + 380), .null, .null, .null, .null, .null, .null, .null, .null, .null, .null, vI 0, vI 0, vI 0, vI 0, .null, vI 0] rfl ?_
  refine w_aload_n rfl rfl ?_
  refine w_sipush rfl rfl ?_
  refine w_newarray rfl rfl (by decide) (by decide) ?_
  refine w_putfield rfl (PH_obj (by decide)) rfl rfl ?_
  refine PH_goA (j := 32) (off := 381) (by decide) rl_32 (Or.inl rfl) [vI 0, .ref (m0 + 1), .ref (m0 + 2), .ref (m0 + 3), .ref (m0 + 4), .ref (m0 + 5), .ref (m0 + 6), vI 0, vI 0, vI 0, .ref (m0 + 263), .ref (m0 + 264), .ref (m0 + 265), .ref (m0 + 266), .ref (m0 + 267), .ref (m0 + 268), vI 0, .ref (m0 + 369), .ref (m0 + 370), .ref (m0 + 371), .ref (m0 + 372), .ref (m0 + 373), .ref (m0 + 374), .ref (m0 + 375), .ref (m0 + 376), .ref (m0 + 377), .ref (m0 + 378), vI 0, vI 0, vI 0, .ref (m0 + 379), .ref (m0 + 380), .ref (m0 + 381), .null, .null, .null, .null, .null, .null, .null, .null, .null, vI 0, vI 0, vI 0, vI 0, .null, vI 0] rfl ?_
  refine w_aload_n rfl rfl ?_
  refine w_sipush rfl rfl ?_
  refine w_newarray rfl rfl (by decide) (by decide) ?_
  refine w_putfield rfl (PH_obj (by decide)) rfl rfl ?_
  refine PH_goA (j := 33) (off := 382) (by decide) rl_33 (Or.inl rfl) [vI 0, .ref (m0 + 1), .ref (m0 + 2), .ref (m0 + 3), .ref (m0 + 4), .ref (m0 + 5), .ref (m0 + 6), vI 0, vI 0, vI 0, .ref (m0 + 263), .ref (m0 + 264), .ref (m0 + 265), .ref (m0 + 266), .ref (m0 + 267), .ref (m0 + 268), vI 0, .ref (m0 + 369), .ref (m0 + 370), .ref (m0 + 371), .ref (m0 + 372), .ref (m0 + 373), .ref (m0 + 374), .ref (m0 + 375), .ref (m0 + 376), .ref (m0 + 377), .ref (m0 + 378), vI 0, vI 0, vI 0, .ref (m0 + 379), .ref (m0 + 380), .ref (m0 + 381), .ref (m0 + 382), .null, .null, .null, .null, .null, .null, .null, .null, vI 0, vI 0, vI 0, vI 0, .null, vI 0] rfl ?_
  refine w_aload_n rfl rfl ?_
  refine w_sipush rfl rfl ?_
  refine w_newarray rfl rfl (by decide) (by decide) ?_
  refine w_putfield rfl (PH_obj (by decide)) rfl rfl ?_
  refine PH_goA (j := 34) (off := 383) (by decide) rl_34 (Or.inl rfl) [vI 0, .ref (m0 + 1), .ref (m0 + 2), .ref (m0 + 3), .ref (m0 + 4), .ref (m0 + 5), .ref (m0 + 6), vI 0, vI 0, vI 0, .ref (m0 + 263), .ref (m0 + 264), .ref (m0 + 265), .ref (m0 + 266), .ref (m0 + 267), .ref (m0 + 268), vI 0, .ref (m0 + 369), .ref (m0 + 370), .ref (m0 + 371), .ref (m0 + 372), .ref (m0 + 373), .ref (m0 + 374), .ref (m0 + 375), .ref (m0 + 376), .ref (m0 + 377), .ref (m0 + 378), vI 0, vI 0, vI 0, .ref (m0 + 379), .ref (m0 + 380), .ref (m0 + 381), .ref (m0 + 382), .ref (m0 + 383), .null, .null, .null, .null, .null, .null, .null, vI 0, vI 0, vI 0, vI 0, .null, vI 0] rfl ?_
  refine w_aload_n rfl rfl ?_
  refine w_sipush rfl rfl ?_
  refine w_newarray rfl rfl (by decide) (by decide) ?_
  refine w_putfield rfl (PH_obj (by decide)) rfl rfl ?_
  refine PH_goA (j := 35) (off := 384) (by decide) rl_35 (Or.inl rfl) [vI 0, .ref (m0 + 1), .ref (m0 + 2), .ref (m0 + 3), .ref (m0 + 4), .ref (m0 + 5), .ref (m0 + 6), vI 0, vI 0, vI 0, .ref (m0 + 263), .ref (m0 + 264), .ref (m0 + 265), .ref (m0 + 266), .ref (m0 + 267), .ref (m0 + 268), vI 0, .ref (m0 + 369), .ref (m0 + 370), .ref (m0 + 371), .ref (m0 + 372), .ref (m0 + 373), .ref (m0 + 374), .ref (m0 + 375), .ref (m0 + 376), .ref (m0 + 377), .ref (m0 + 378), vI 0, vI 0, vI 0, .ref (m0 + 379), .ref (m0 + 380), .ref (m0 + 381), .ref (m0 + 382), .ref (m0 + 383), .ref (m0 + 384), .null, .null, .null, .null, .null, .null, vI 0, vI 0, vI 0, vI 0, .null, vI 0] rfl ?_
  refine w_aload_n rfl rfl ?_
  refine w_sipush rfl rfl ?_
  refine w_newarray rfl rfl (by decide) (by decide) ?_
  refine w_putfield rfl (PH_obj (by decide)) rfl rfl ?_
  refine PH_goA (j := 36) (off := 385) (by decide) rl_36 (Or.inl rfl) [vI 0, .ref (m0 + 1), .ref (m0 + 2), .ref (m0 + 3), .ref (m0 + 4), .ref (m0 + 5), .ref (m0 + 6), vI 0, vI 0, vI 0, .ref (m0 + 263), .ref (m0 + 264), .ref (m0 + 265), .ref (m0 + 266), .ref (m0 + 267), .ref (m0 + 268), vI 0, .ref (m0 + 369), .ref (m0 + 370), .ref (m0 + 371), .ref (m0 + 372), .ref (m0 + 373), .ref (m0 + 374), .ref (m0 + 375), .ref (m0 + 376), .ref (m0 + 377), .ref (m0 + 378), vI 0, vI 0, vI 0, .ref (m0 + 379), .ref (m0 + 380), .ref (m0 + 381), .ref (m0 + 382), .ref (m0 + 383), .ref (m0 + 384), .ref (m0 + 385), .null, .null, .null, .null, .null, vI 0, vI 0, vI 0, vI 0, .null, vI 0] rfl ?_
  refine w_aload_n rfl rfl ?_
  refine w_sipush rfl rfl ?_
  refine w_newarray rfl rfl (by decide) (by decide) ?_
  refine w_putfield rfl (PH_obj (by decide)) rfl rfl ?_
  refine PH_goA (j := 37) (off := 386) (by decide) rl_37 (Or.inl rfl) [vI 0, .ref (m0 + 1), .ref (m0 + 2), .ref (m0 + 3), .ref (m0 + 4), .ref (m0 + 5), .ref (m0 + 6), vI 0, vI 0, vI 0, .ref (m0 + 263), .ref (m0 + 264), .ref (m0 + 265), .ref (m0 + 266), .ref (m0 + 267), .ref (m0 + 268), vI 0, .ref (m0 + 369), .ref (m0 + 370), .ref (m0 + 371), .ref (m0 + 372), .ref (m0 + 373), .ref (m0 + 374), .ref (m0 + 375), .ref (m0 + 376), .ref (m0 + 377), .ref (m0 + 378), vI 0, vI 0, vI 0, .ref (m0 + 379), .ref (m0 + 380), .ref (m0 + 381), .ref (m0 + 382), .ref (m0 + 383), .ref (m0 + 384), .ref (m0 + 385), .ref (m0 + 386), .null, .null, .null, .null, vI 0, vI 0, vI 0, vI 0, .null, vI 0] rfl ?_
  refine w_aload_n rfl rfl ?_
  refine w_sipush rfl rfl ?_
  refine w_newarray rfl rfl (by decide) (by decide) ?_
  refine w_putfield rfl (PH_obj (by decide)) rfl rfl ?_
  refine PH_goA (j := 38) (off := 387) (by decide) rl_38 (Or.inr (Or.inr rfl)) [vI 0, .ref (m0 + 1), .ref (m0 + 2), .ref (m0 + 3), .ref (m0 + 4), .ref (m0 + 5), .ref (m0 + 6), vI 0, vI 0, vI 0, .ref (m0 + 263), .ref (m0 + 264), .ref (m0 + 265), .ref (m0 + 266), .ref (m0 + 267), .ref (m0 + 268), vI 0, .ref (m0 + 369), .ref (m0 + 370), .ref (m0 + 371), .ref (m0 + 372), .ref (m0 + 373), .ref (m0 + 374), .ref (m0 + 375), .ref (m0 + 376), .ref (m0 + 377), .ref (m0 + 378), vI 0, vI 0, vI 0, .ref (m0 + 379), .ref (m0 + 380), .ref (m0 + 381), .ref (m0 + 382), .ref (m0 + 383), .ref (m0 + 384), .ref (m0 + 385), .ref (m0 + 386), .ref (m0 + 387), .null, .null, .null, vI 0, vI 0, vI 0, vI 0, .null, vI 0] rfl ?_
  refine w_aload_n rfl rfl ?_
  refine w_sipush rfl rfl ?_
  refine w_sipush rfl rfl ?_
  refine w_multi rfl rfl (by decide +kernel) (by decide) (by decide) (by decide) (by decide) ?_
  refine w_putfield rfl (PH_objM (by decide)) rfl rfl ?_
  refine PH_goM (j := 39) (off := 388) (N := 256) (by decide) rfl rfl (fun r hr => rlay_r39 hr) (Or.inr (Or.inl rfl)) [vI 0, .ref (m0 + 1), .ref (m0 + 2), .ref (m0 + 3), .ref (m0 + 4), .ref (m0 + 5), .ref (m0 + 6), vI 0, vI 0, vI 0, .ref (m0 + 263), .ref (m0 + 264), .ref (m0 + 265), .ref (m0 + 266), .ref (m0 + 267), .ref (m0 + 268), vI 0, .ref (m0 + 369), .ref (m0 + 370), .ref (m0 + 371), .ref (m0 + 372), .ref (m0 + 373), .ref (m0 + 374), .ref (m0 + 375), .ref (m0 + 376), .ref (m0 + 377), .ref (m0 + 378), vI 0, vI 0, vI 0, .ref (m0 + 379), .ref (m0 + 380), .ref (m0 + 381), .ref (m0 + 382), .ref (m0 + 383), .ref (m0 + 384), .ref (m0 + 385), .ref (m0 + 386), .ref (m0 + 387), .ref (m0 + 388), .null, .null, vI 0, vI 0, vI 0, vI 0, .null, vI 0] rfl ?_
  refine w_aload_n rfl rfl ?_
  refine w_sipush rfl rfl ?_
  refine w_sipush rfl rfl ?_
  refine w_multi rfl rfl (by decide +kernel) (by decide) (by decide) (by decide) (by decide) ?_
  refine w_putfield rfl (PH_objM (by decide)) rfl rfl ?_
  refine PH_goM (j := 40) (off := 645) (N := 256) (by decide) rfl rfl (fun r hr => rlay_r40 hr) (Or.inl rfl) [vI 0, .ref (m0 + 1), .ref (m0 + 2), .ref (m0 + 3), .ref (m0 + 4), .ref (m0 + 5), .ref (m0 + 6), vI 0, vI 0, vI 0, .ref (m0 + 263), .ref (m0 + 264), .ref (m0 + 265), .ref (m0 + 266), .ref (m0 + 267), .ref (m0 + 268), vI 0, .ref (m0 + 369), .ref (m0 + 370), .ref (m0 + 371), .ref (m0 + 372), .ref (m0 + 373), .ref (m0 + 374), .ref (m0 + 375), .ref (m0 + 376), .ref (m0 + 377), .ref (m0 + 378), vI 0, vI 0, vI 0, .ref (m0 + 379), .ref (m0 + 380), .ref (m0 + 381), .ref (m0 + 382), .ref (m0 + 383), .ref (m0 + 384), .ref (m0 + 385), .ref (m0 + 386), .ref (m0 + 387), .ref (m0 + 388), .ref (m0 + 645), .null, vI 0, vI 0, vI 0, vI 0, .null, vI 0] rfl ?_
  refine w_aload_n rfl rfl ?_
  refine w_sipush rfl rfl ?_
  refine w_sipush rfl rfl ?_
  refine w_multi rfl rfl (by decide +kernel) (by decide) (by decide) (by decide) (by decide) ?_
  refine w_putfield rfl (PH_objM (by decide)) rfl rfl ?_
  refine PH_goM (j := 41) (off := 902) (N := 256) (by decide) rfl rfl (fun r hr => rlay_r41 hr) (Or.inl rfl) [vI 0, .ref (m0 + 1), .ref (m0 + 2), .ref (m0 + 3), .ref (m0 + 4), .ref (m0 + 5), .ref (m0 + 6), vI 0, vI 0, vI 0, .ref (m0 + 263), .ref (m0 + 264), .ref (m0 + 265), .ref (m0 + 266), .ref (m0 + 267), .ref (m0 + 268), vI 0, .ref (m0 + 369), .ref (m0 + 370), .ref (m0 + 371), .ref (m0 + 372), .ref (m0 + 373), .ref (m0 + 374), .ref (m0 + 375), .ref (m0 + 376), .ref (m0 + 377), .ref (m0 + 378), vI 0, vI 0, vI 0, .ref (m0 + 379), .ref (m0 + 380), .ref (m0 + 381), .ref (m0 + 382), .ref (m0 + 383), .ref (m0 + 384), .ref (m0 + 385), .ref (m0 + 386), .ref (m0 + 387), .ref (m0 + 388), .ref (m0 + 645), .ref (m0 + 902), vI 0, vI 0, vI 0, vI 0, .null, vI 0] rfl ?_
  refine w_aload_n rfl rfl ?_
  refine w_bipush rfl rfl ?_
  refine w_newarray rfl rfl (by decide) (by decide) ?_
  refine w_putfield rfl (PH_obj (by decide)) rfl rfl ?_
  refine PH_goA (j := 46) (off := 1159) (by decide) rl_46 (Or.inl rfl) [vI 0, .ref (m0 + 1), .ref (m0 + 2), .ref (m0 + 3), .ref (m0 + 4), .ref (m0 + 5), .ref (m0 + 6), vI 0, vI 0, vI 0, .ref (m0 + 263), .ref (m0 + 264), .ref (m0 + 265), .ref (m0 + 266), .ref (m0 + 267), .ref (m0 + 268), vI 0, .ref (m0 + 369), .ref (m0 + 370), .ref (m0 + 371), .ref (m0 + 372), .ref (m0 + 373), .ref (m0 + 374), .ref (m0 + 375), .ref (m0 + 376), .ref (m0 + 377), .ref (m0 + 378), vI 0, vI 0, vI 0, .ref (m0 + 379), .ref (m0 + 380), .ref (m0 + 381), .ref (m0 + 382), .ref (m0 + 383), .ref (m0 + 384), .ref (m0 + 385), .ref (m0 + 386), .ref (m0 + 387), .ref (m0 + 388), .ref (m0 + 645), .ref (m0 + 902), vI 0, vI 0, vI 0, vI 0, .ref (m0 + 1159), vI 0] rfl ?_
  refine w_aload_n rfl rfl ?_
  refine w_bipush rfl rfl ?_
  refine PH_goF ?_ (by rfl)
  refine w_cvN rfl (by decide) (by omega) rfl RH_obj mt_111 (Nat.le_of_ble_eq_true rfl) (Nat.le_of_ble_eq_true rfl) (r_begin hb zR_g _ (by omega) (by decide) (by decide)) ?_
  refine w_return rfl rfl ?_
  exact ⟨rfl, _, by omega, rfl⟩
end Rr21
