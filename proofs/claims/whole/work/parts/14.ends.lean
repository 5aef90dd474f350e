/-! entries, returns, calls: what the run's soundness stands on -/
theorem fet_inv {E : List EN} {pc : Nat} {z : Instr × Nat × List Nat} (h : fet E pc = some z) : (pc, z) ∈ E := by
  induction E with
  | nil => cases h
  | cons e t ih =>
    unfold fet at h
    cases hb : Nat.beq e.1 pc with
    | true =>
      rw [hb] at h
      have h1 : e.2 = z := Option.some.inj h
      have h2 : e.1 = pc := Nat.eq_of_beq_eq_true hb
      rw [← h1, ← h2]
      exact List.mem_cons_self
    | false =>
      rw [hb] at h
      exact List.mem_cons_of_mem _ (ih h)
theorem popN_inv : ∀ {n : Nat} {st : List Value} {z : List Value × List Value}, popN n st = some z → z.1.length = n ∧ st = z.1.reverse ++ z.2
  | 0, st, z, h => by cases h; exact ⟨rfl, rfl⟩
  | n + 1, [], z, h => by cases h
  | n + 1, v :: r, z, h => by
    unfold popN at h
    dsimp only at h
    cases hq : popN n r with
    | none => rw [hq] at h; cases h
    | some q =>
      rw [hq] at h
      cases h
      obtain ⟨h1, h2⟩ := popN_inv hq
      refine ⟨by rw [List.length_append, h1]; rfl, ?_⟩
      rw [List.reverse_append, h2]
      rfl
theorem ent1_cat (v : Value) : ent1 v = if v.category = 2 then [some v, none] else [some v] := by cases v <;> rfl
theorem ent_len (vs : List Value) : (vs.flatMap ent1).length = (lg_sl vs).length := by
  induction vs with
  | nil => rfl
  | cons v t ih =>
    have e : lg_sl (v :: t) = (if v.category = 2 then [Slot.val v, Slot.second] else [Slot.val v]) ++ lg_sl t := rfl
    rw [List.flatMap_cons, List.length_append, ih, e, List.length_append, ent1_cat]
    split <;> rfl
theorem ent_args (n : Nat) : ∀ (vs : List Value) (k i : Nat) (v : Value), (vs.flatMap ent1 ++ List.replicate n none)[i]? = some (some v) → (k + i, v) ∈ lv_args k vs
  | [], k, i, v, h => by
    simp only [List.flatMap_nil, List.nil_append, List.getElem?_replicate] at h
    split at h <;> cases h
  | w :: t, k, i, v, h => by
    rw [List.flatMap_cons, List.append_assoc, ent1_cat] at h
    unfold lv_args
    split at h
    · rename_i hc
      rw [if_pos hc]
      match i, h with
      | 0, h => cases h; exact List.mem_cons_self
      | 1, h => cases h
      | i + 2, h =>
        have h2 : (t.flatMap ent1 ++ List.replicate n none)[i]? = some (some v) := h
        have := ent_args n t (k + 2) i v h2
        rw [show k + (i + 2) = k + 2 + i by omega]
        exact List.mem_cons_of_mem _ this
    · rename_i hc
      rw [if_neg hc]
      match i, h with
      | 0, h => cases h; exact List.mem_cons_self
      | i + 1, h =>
        have h2 : (t.flatMap ent1 ++ List.replicate n none)[i]? = some (some v) := h
        have := ent_args n t (k + 1) i v h2
        rw [show k + (i + 1) = k + 1 + i by omega]
        exact List.mem_cons_of_mem _ this
theorem LV.entry {nL : Nat} {vs : List Value} (h : (vs.flatMap ent1).length ≤ nL) : LV ((lg_sl vs ++ List.replicate (nL - (lg_sl vs).length) Slot.unset).toArray) nL (ent nL vs) := by
  refine ⟨by unfold ent; rw [List.length_append, List.length_replicate]; omega, lv_less (lv_entry vs (by rw [← ent_len]; exact h)) fun q hq => ?_⟩
  obtain ⟨i, v⟩ := q
  have := ent_args _ vs 0 i v (mem_la.mp hq)
  rwa [Nat.zero_add] at this
theorem LV.forget {ls : Array Slot} {nL : Nat} {lv : List (Option Value)} (h : LV ls nL lv) (i : Nat) : LV ls nL (lv.set i none) := by
  refine ⟨by rw [List.length_set]; exact h.1, lv_less h.2 fun q hq => ?_⟩
  obtain ⟨j, v⟩ := q
  have hq := mem_la.mp hq
  rw [List.getElem?_set] at hq
  by_cases e : i = j
  · rw [if_pos e] at hq
    split at hq <;> cases hq
  · rw [if_neg e] at hq
    exact mem_la.mpr hq
/-- a place that another value of one slot took: what is known of the rest is the same -/
theorem lv1_forget {lv : List (Option Value)} {i : Nat} {v w : Value} : (lv1 lv i v).set i none = (lv1 lv i w).set i none := by
  unfold lv1
  rw [List.set_set, List.set_set]
section SndE
variable {D : va_G} {dA : FieldType → ClassId} {base b L : Nat} {xs : Nat → Int32} {n0 s0 nL : Nat} {own : String} {cc : ByteArray}
variable {p : Program} {l : Launch} {e : Env} {R : Room} {s : State} {m : MethodId} {args : Array Value} {below : List Frame} {meth : Method} {c : Code} {Q : State → Prop}
variable {H : Heap} {locs : List Loc} {cells slots pc : Nat} {ls : Array Slot} {rest : List Value} {h : AH}
theorem ret_ok {Qc : Array Value → State → Outcome → State → Prop} {free : Addr → Prop} {rt : Option FieldType} {ins : Instr} {st : List Value} {v : Option Value} (hx : p.tables.exec = Jvm.exec) (hb : c.code = cc) (hr : meth.sig.returnType = rt) (hlocks : meth.locks = false) (hv : retV rt ins st = some v) (hdg : decode cc pc = .ok (ins, 1))
    (hq : ∀ t : State, t.heap = H → s.WarmedH t.vm → Qc args s (.returned v) t) (hf : ∀ q ∈ locs, free q.base) : W p l e R s m args below meth c H locs cells slots (MQ below Qc args s cells slots free) (F0 m pc ls st) := by
  unfold retV at hv
  split at hv
  · cases hv; exact W.iret hx hb hr hq hf hdg hlocks
  · split at hv
    · rename_i hz
      cases hv
      exact W.zret hx hb hr (by rcases hz with rfl | rfl <;> rfl) hq hf hdg hlocks
    · cases hv
  · cases hv; exact W.lret hx hb hr hq hf hdg hlocks
  · cases hv; exact W.aret hx hb hr (Or.inl ⟨_, rfl⟩) (Or.inr ⟨_, rfl⟩) hq hf hdg hlocks
  · cases hv; exact W.aret hx hb hr (Or.inl ⟨_, rfl⟩) (Or.inl rfl) hq hf hdg hlocks
  · cases hv; exact W.aret hx hb hr (Or.inr ⟨_, rfl⟩) (Or.inr ⟨_, rfl⟩) hq hf hdg hlocks
  · cases hv; exact W.vret hx hb hr hq hf hdg hlocks
  · cases hv
/-- what a callee is begun with, and what it ends with -/
def PreU (D : va_G) (dA : FieldType → ClassId) (base b L : Nat) (xs : Nat → Int32) (h : AH) (U : State) : Prop := Wd D dA U ∧ Hw base b L xs U U.heap ∧ Rp D dA base h U.heap
def QU (D : va_G) (dA : FieldType → ClassId) (base : Nat) (h1 : AH) (v : Option Value) : Array Value → State → Outcome → State → Prop := fun _ st oc t => oc = .returned v ∧ Rp D dA base h1 t.heap ∧ va_F (fun q => base ≤ q) st t
theorem blindU (as : List Value) : FrameBlind (va_Pc as (PreU D dA base b L xs h)) := fun a U g mk q => by
  obtain ⟨q0, q1, q2, q3⟩ := q
  exact ⟨q0, Wd.warm (s := U) (U := U.calling g mk a) (State.WarmedH.refl U) q1, Hw.moved (u := U) (U := U.calling g mk a) (Vm.Alike.refl U.vm) q2, q3⟩
theorem preU (hW : Wd D dA s) (hH : Hw base b L xs s s.heap) (hR : Rp D dA base h H) (hS : va_S (fun q => base ≤ q) s.heap H locs) (as : List Value) : ∀ U : State, U.heap = H → s.WarmedH U.vm → va_Pc as (PreU D dA base b L xs h) as.toArray U := by
  intro U hU hWm
  subst hU
  exact ⟨rfl, hW.warm hWm, (hH.kept hS.2.1 hS.1).moved hWm.alike, hR⟩
theorem after_call {mc ms : Nat} {as : Array Value} {st rest : List Value} {h1 : AH} {v : Option Value} {lv : List (Option Value)} (hr : va_Run p l e R s m args below meth c H locs cells slots mc ms (F0 m pc ls st) rest (QU D dA base h1 v as) (fun q => base ≤ q)) (hS : va_S (fun q => base ≤ q) s.heap H locs) (hL : LV ls nL lv) (hc : cells + n0 = h.1) (hl : slots + s0 = h.2.1) (e1 : h.1 + mc = h1.1) (e2 : h.2.1 + ms = h1.2.1)
    (k : KK D dA base n0 s0 nL p l e R s m args below meth c Q (pc + 3) lv (v.toList ++ rest) h1) : W p l e R s m args below meth c H locs cells slots Q (F0 m pc ls st) := by
  intro T hT X
  obtain ⟨v', st₀, t, T', L', h0, X', hL', g1, g2, ⟨gv, gR, gF⟩, go⟩ := hr T hT X
  cases gv
  obtain ⟨k1, k2, k3⟩ := vx_keep (A0 := fun q => base ≤ q) (A1 := fun q => base ≤ q) (free := fun q => base ≤ q) h0 g1 hS (fun _ _ z => z) (fun _ z => z) hL' gF
  obtain ⟨t2, a1, b1⟩ := k T'.heap (locs ++ L') (cells + mc) (slots + ms) ls (by rw [g1]; exact gR) k3 hL (by omega) (by omega) T' rfl X'
  exact ⟨t2, go t2 a1, b1⟩
/-- the words of a callee at every later state -/
theorem ws_later (hW : Wd D dA s) {w : Cond} (hw : w ∈ lw_tbl) (hk : wk w = true) : ∀ w' ∈ [w], ∀ (a' : Array Value) (U : State), s.WarmedH U.vm → w'.before a' U = true := by
  intro w' hw' a' U hWm
  cases List.mem_singleton.mp hw'
  exact (hW.warm hWm).word hw hk
theorem recvU (hW : Wd D dA s) {a ci : Nat} {q : vw_C} {fs : List Value} (ho : oat D dA a (.inr (ci, fs)) H) (hq : vcl[ci]? = some q) : ∃ cell : Cell, H[a]? = some cell ∧ cell.vm.isStatics = false ∧ s.vm.findClass q.1 = some cell.cls := by
  obtain ⟨q', h1, -, cell, g1, g2, g3, -⟩ := ho
  cases hq.symm.trans h1
  exact ⟨cell, g1, by rw [g3]; rfl, by rw [g2]; exact (hW.2.1.1 ci q hq).2.1⟩
end SndE
