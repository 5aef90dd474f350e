/-! rows on the heap -/
section SndH
variable {D : va_G} {dA : FieldType → ClassId} {base b L : Nat} {xs : Nat → Int32} {n0 s0 nL : Nat} {own : String} {cc : ByteArray}
variable {p : Program} {l : Launch} {e : Env} {R : Room} {s : State} {m : MethodId} {args : Array Value} {below : List Frame} {meth : Method} {c : Code} {Q : State → Prop}
variable {H : Heap} {locs : List Loc} {cells slots pc : Nat} {ls : Array Slot} {rest : List Value} {h : AH}
theorem goodLay {C : String} {T : u_T} {N : Nat} {w : Cond} (h : w ∈ u_ws C T N) : wk w = true := by
  obtain ⟨k, -, rfl⟩ := List.mem_map.mp h
  unfold u_lay
  split <;> rfl
theorem lays_ws (hW : Wd D dA s) {q : vw_C} (hq : q ∈ vcl) : ∀ w ∈ u_ws q.1 q.2.1 q.2.2, w.before args s = true := fun w hw => hW.word (vcl_in q hq w hw) (goodLay hw)
theorem rw_get (hexec : p.tables.exec = Jvm.exec) (hb : c.code = cc) (hW : Wd D dA s) (hown : s.vm.findClass own = some m.cls) {a r ci k idx wi : Nat} {nest : Bool} {fs : List Value} {v : Value} (ho : oat D dA a (.inr (ci, fs)) H) (hr : FT[r]? = some (own, idx, ci, k, nest, wi)) (hv : fs[k]? = some v) (hdg : decode cc pc = .ok (.getfield idx, 3))
    (kk : W p l e R s m args below meth c H locs cells slots Q (F0 m (pc + 3) ls (v :: rest))) : W p l e R s m args below meth c H locs cells slots Q (F0 m pc ls (.ref a :: rest)) := by
  obtain ⟨q, h1, h2, cell, q1, q2, q3, q4⟩ := ho
  have hft := List.all_eq_true.mp FT_ok _ (List.mem_of_getElem? hr)
  simp only [ftok, h1, Bool.and_eq_true, decide_eq_true_eq] at hft
  obtain ⟨hk, hw⟩ := hft
  have hq : q ∈ vcl := List.mem_of_getElem? h1
  obtain ⟨hS, hfc, kC, hkC, hkind⟩ := hW.2.1.1 ci q h1
  obtain ⟨cf, kf, fi, f, hi, hsl⟩ := hS k hk
  have hst := (u_facts (args := args) hfc hkC (u_lays (lays_ws hW hq) (fun _ h => h) hk) hi).1
  have hi2 : s.fieldFound? q.1 (q.2.1 k).2.1 (q.2.1 k).2.2.1 = some (cf, kf, fi, f) := by rw [← vcl_own q hq k hk]; exact hi
  have hslot : cell.slots[f.slot]? = some v := by rw [hsl, q4 k hk]; simp [vp_V, hv]
  cases nest with
  | false => exact W.getf hexec hb hown (hW.at hw rfl) hi2 hst q1 (by rw [q3]; exact fun h => by cases h) hslot rfl rfl hdg kk
  | true => exact va_Wgetf hexec hb hown (hW.at hw rfl) hi2 hst q1 (by rw [q3]; exact fun h => by cases h) hslot rfl rfl hdg kk
theorem fitv_ok {ty : FieldType} {v : Value} (h : fitv ty v = true) : narrow ty v = v ∧ fits ty v = true := by
  unfold fitv at h
  split at h
  · exact ⟨rfl, rfl⟩
  · rename_i x
    simp only [Bool.or_eq_true, beq_iff_eq] at h
    rcases h with rfl | rfl <;> exact ⟨by decide, by decide⟩
  · exact ⟨rfl, rfl⟩
  · exact ⟨rfl, rfl⟩
  · exact ⟨rfl, rfl⟩
  · exact ⟨rfl, rfl⟩
  · cases h
theorem vty_at {ci k : Nat} {q : vw_C} {ty : FieldType} (h1 : vcl[ci]? = some q) (hk : k < q.2.2) (ht : (vty.getD ci [])[k]? = some ty) : ty = fty q.2.1 k := by
  have hci : ci < 8 := (List.getElem?_eq_some_iff.mp h1).1
  obtain ⟨q', ts, e1, e2, e3, e4⟩ := vty_ok ci hci
  cases h1.symm.trans e1
  rw [List.getD_eq_getElem?_getD, e2] at ht
  exact Option.some.inj (ht.symm.trans (e4 k hk))
theorem rw_put (hexec : p.tables.exec = Jvm.exec) (hb : c.code = cc) (hW : Wd D dA s) (hown : s.vm.findClass own = some m.cls) {a r ci k idx wi : Nat} {nest ini : Bool} {fs : List Value} {v : Value} {ty : FieldType} (hR : Rp D dA base h H) (hS0 : va_S (fun q => base ≤ q) s.heap H locs) (ha : h.2.2 a = some (.inr (ci, fs))) (hr : FT[r]? = some (own, idx, ci, k, nest, wi))
    (hfin : (vcl[ci]?).any (fun v => !(v.2.1 k).2.2.2 || (ini && !nest && decide (v.1 = own))) = true) (hini : ini = true → meth.name = "<init>") (hty : (vty.getD ci [])[k]? = some ty) (hv : fitv ty v = true) (hdg : decode cc pc = .ok (.putfield idx, 3))
    (kk : ∀ (H1 : Heap) (locs1 : List Loc), Rp D dA base (hput h a (.inr (ci, fs.set k v))) H1 → va_S (fun q => base ≤ q) s.heap H1 locs1 → W p l e R s m args below meth c H1 locs1 cells slots Q (F0 m (pc + 3) ls rest)) : W p l e R s m args below meth c H locs cells slots Q (F0 m pc ls (v :: .ref a :: rest)) := by
  obtain ⟨hba, q, h1, h2, cell, q1, q2, q3, q4⟩ := hR.2.2 a _ ha
  have hft := List.all_eq_true.mp FT_ok _ (List.mem_of_getElem? hr)
  simp only [ftok, h1, Bool.and_eq_true, decide_eq_true_eq] at hft
  obtain ⟨hk, hw⟩ := hft
  have hq : q ∈ vcl := List.mem_of_getElem? h1
  have hKn := hW.2.1.1 ci q h1
  obtain ⟨hS, hfc, kC, hkC, hkind⟩ := hKn
  obtain ⟨cf, kf, fi, f, hi, hsl⟩ := hS k hk
  have hws := lays_ws (args := args) hW hq
  have hst := (u_facts (args := args) hfc hkC (u_lays hws (fun _ h => h) hk) hi).1
  have hi2 : s.fieldFound? q.1 (q.2.1 k).2.1 (q.2.1 k).2.2.1 = some (cf, kf, fi, f) := by rw [← vcl_own q hq k hk]; exact hi
  have hap := va_apart (own := own) hws (fun _ h => h) (fty q.2.1) (vcl_ty q hq) (vcl_nm q hq) hW.2.1 h1
  obtain ⟨hn, hfit⟩ := fitv_ok hv
  rw [vty_at h1 hk hty] at hn hfit
  have hd := vcl_ty q hq k hk
  have hlay := hws _ (u_in_lay hk)
  rw [h1] at hfin
  simp only [Option.any_some, Bool.or_eq_true, Bool.and_eq_true, Bool.not_eq_true', decide_eq_true_eq] at hfin
  have go : ∀ H' : Heap, H'[a]? = some (cell.setSlot f.slot v) → H'.size = H.size → (∀ q, q ≠ a → H'[q]? = H[q]?) → W p l e R s m args below meth c H' (locs ++ [⟨a, f.slot⟩]) cells slots Q (F0 m (pc + 3) ls rest) := by
    intro H' e1 e2 e3
    rw [hsl] at e1
    refine kk H' _ (hR.put hba ⟨q, h1, by rw [List.length_set]; exact h2, t_OB.to (V := updV (vp_V fs) k v) ⟨_, e1, q2, q3, t_set q4 hap hk v⟩ (fun j _ => vp_updV_set (by rw [h2]; exact hk) v j)⟩ e2 e3) (hS0.put e2 e3 hba)
  have hlt : f.slot < cell.slots.size := by rw [hsl]; exact k2_hasslot (q4 k hk)
  by_cases hf : (q.2.1 k).2.2.2 = true
  · obtain ⟨⟨g1, g2⟩, g3⟩ := hfin.resolve_left (by rw [hf]; decide)
    subst g2
    unfold u_lay at hlay
    rw [if_pos hf] at hlay
    have hcf : m.cls = cf := by
      obtain ⟨_, _, c', _, _, _, -, -, hf', -, -, -, hown2, -⟩ := Cond.laysFinal_spec hlay
      have e1 : c' = cf := by have := hi.symm.trans hf'; simp at this; exact this.1.symm
      rw [vcl_own q hq k hk, g3] at hown2
      rw [← e1]; exact Option.some.inj (hown.symm.trans hown2)
    have h6 := u_fits hfc hkC hkind (Or.inr hlay) hi hd hn hfit
    exact W.putFinK hexec hb hown (hW.at hw rfl) hi2 hst hcf (hini g1) (by rw [q2]; exact h6) q1 q3 hlt rfl rfl hdg go
  · have hf : (q.2.1 k).2.2.2 = false := by cases hz : (q.2.1 k).2.2.2 <;> simp_all
    unfold u_lay at hlay
    rw [if_neg (by rw [hf]; decide)] at hlay
    have h6 := u_store hfc hkC hkind hlay hi hd hn hfit
    cases nest with
    | false => exact W.putK hexec hb (f := f) ⟨hown, hW.at hw rfl, ⟨_, _, _, hi2⟩, hst⟩ (by rw [q2]; exact h6) q1 q3 hlt rfl rfl hdg go
    | true => exact va_WputK hexec hb (f := f) hown (hW.at hw rfl) hi2 hst (by rw [q2]; exact h6) q1 q3 hlt rfl rfl hdg go
theorem rw_new (hexec : p.tables.exec = Jvm.exec) (hb : c.code = cc) (hW : Wd D dA s) (hown : s.vm.findClass own = some m.cls) {ci idx wi : Nat} {q : vw_C} {ts : List FieldType} (hR : Rp D dA base h H) (hS0 : va_S (fun q => base ≤ q) s.heap H locs) (h1 : vcl[ci]? = some q) (hts : vty[ci]? = some ts) (hw : lw_tbl[wi]? = some (.classLink own idx q.1))
    (hcells : cells + 1 ≤ R.cells) (hslots : slots + ts.length ≤ R.slots) (hdg : decode cc pc = .ok (.new idx, 3))
    (kk : ∀ H1 : Heap, Rp D dA base (hnew h (.inr (ci, ts.map defaultValue)) ts.length) H1 → va_S (fun q => base ≤ q) s.heap H1 locs → W p l e R s m args below meth c H1 locs (cells + 1) (slots + ts.length) Q (F0 m (pc + 3) ls (.ref h.1 :: rest))) : W p l e R s m args below meth c H locs cells slots Q (F0 m pc ls rest) := by
  have hq : q ∈ vcl := List.mem_of_getElem? h1
  have hci : ci < 8 := (List.getElem?_eq_some_iff.mp h1).1
  obtain ⟨q', ts', e1, e2, e3, e4⟩ := vty_ok ci hci
  cases h1.symm.trans e1
  cases hts.symm.trans e2
  have hKn := hW.2.1.1 ci q h1
  obtain ⟨i1, i2⟩ := vcl_inst q hq
  rw [e3] at hslots kk
  refine W.newcK hexec hb hown (hW.at hw rfl) (hW.word i1 rfl) (hW.word i2 rfl) rfl hdg hcells hslots hKn.2.1 hR.1 fun H1 kC hkC b1 z1 o1 => ?_
  have ho : oat D dA h.1 (.inr (ci, ts.map defaultValue)) H1 := by
    refine ⟨q, h1, by rw [List.length_map]; exact e3, (u_born (args := args) (fty q.2.1) (lays_ws hW hq) (fun _ h => h) hKn hkC b1 (vcl_ty q hq)).to fun j hj => ?_⟩
    simp [vp_V, e4 j hj]
  exact kk H1 (hR.new ho z1 o1) ⟨Nat.le_trans hS0.1 (by rw [z1, hR.1]; omega), fun x g1 g2 => (o1 x (by rw [← hR.1]; exact Nat.lt_of_lt_of_le g1 hS0.1)).trans (hS0.2.1 x g1 g2), hS0.2.2⟩
theorem newT_ok {at_ : ArrayType} {ty : FieldType} (h : newT at_ = some ty) : newarray.typeOf at_ = ty ∧ Cond.arrayClass ty ∈ lw_tbl ∧ ty ∈ atys ∧ componentBytes ty ≤ 8 ∧ "[" ++ (newarray.typeOf at_).toString = "[" ++ ty.toString ∧ (∀ (U : State) (cA : ClassId), va_RA U cA ty → U.vm.findClass ("[" ++ ty.toString) = some cA) := by
  have w1 : Cond.arrayClass .int ∈ lw_tbl := by decide +kernel
  have w2 : Cond.arrayClass .long ∈ lw_tbl := by decide +kernel
  have w3 : Cond.arrayClass .byte ∈ lw_tbl := by decide +kernel
  have w4 : Cond.arrayClass .boolean ∈ lw_tbl := by decide +kernel
  cases at_ <;> cases h
  all_goals exact ⟨rfl, by assumption, by decide, by decide, rfl, fun U cA h => h⟩
theorem rw_newa (hexec : p.tables.exec = Jvm.exec) (hb : c.code = cc) (hW : Wd D dA s) {at_ : ArrayType} {ty : FieldType} {n : Int32} (hR : Rp D dA base h H) (hS0 : va_S (fun q => base ≤ q) s.heap H locs) (hty : newT at_ = some ty) (hn : ¬ (n < 0 ∨ 1000000 < n.toNatClampNeg))
    (hcells : cells + 1 ≤ R.cells) (hslots : slots + n.toNatClampNeg ≤ R.slots) (hdg : decode cc pc = .ok (.newarray at_, 2))
    (kk : ∀ H1 : Heap, Rp D dA base (hnew h (.inl (ty, n.toNatClampNeg, fun _ => defaultValue ty)) n.toNatClampNeg) H1 → va_S (fun q => base ≤ q) s.heap H1 locs → W p l e R s m args below meth c H1 locs (cells + 1) (slots + n.toNatClampNeg) Q (F0 m (pc + 2) ls (.ref h.1 :: rest))) : W p l e R s m args below meth c H locs cells slots Q (F0 m pc ls (.int n :: rest)) := by
  obtain ⟨t1, t2, t3, t4, t5, t6⟩ := newT_ok hty
  subst t1
  refine va_newaK hexec hb (hW.word t2 rfl) rfl hdg rfl (fun q => hn (Or.inl q)) rfl ?_ hcells hslots hR.1 fun H1 cA b1 z1 o1 hAr hNm => ?_
  · have : n.toNatClampNeg ≤ 1000000 := Nat.not_lt.mp fun q => hn (Or.inr q)
    exact Nat.le_trans (Nat.mul_le_mul this t4) (by decide)
  · have hc : cA = dA (newarray.typeOf at_) := Option.some.inj (hNm.symm.trans (t6 s _ (hW.2.2.1 _ t3).2))
    subst hc
    exact kk H1 (hR.new ⟨t3, b1⟩ z1 o1) ⟨Nat.le_trans hS0.1 (by rw [z1, hR.1]; omega), fun x g1 g2 => (o1 x (by rw [← hR.1]; exact Nat.lt_of_lt_of_le g1 hS0.1)).trans (hS0.2.1 x g1 g2), hS0.2.2⟩
theorem rw_anew (hexec : p.tables.exec = Jvm.exec) (hb : c.code = cc) (hW : Wd D dA s) (hown : s.vm.findClass own = some m.cls) {C : String} {n : Int32} {idx wi wj : Nat} (hR : Rp D dA base h H) (hS0 : va_S (fun q => base ≤ q) s.heap H locs) (hty : FieldType.object C ∈ atys) (hw : lw_tbl[wi]? = some (.classLink own idx C)) (hw2 : lw_tbl[wj]? = some (.arrayOver (.object C))) (hn : ¬ (n < 0 ∨ 1000000 < n.toNatClampNeg))
    (hcells : cells + 1 ≤ R.cells) (hslots : slots + n.toNatClampNeg ≤ R.slots) (hdg : decode cc pc = .ok (.anewarray idx, 3))
    (kk : ∀ H1 : Heap, Rp D dA base (hnew h (.inl (.object C, n.toNatClampNeg, fun _ => .null)) n.toNatClampNeg) H1 → va_S (fun q => base ≤ q) s.heap H1 locs → W p l e R s m args below meth c H1 locs (cells + 1) (slots + n.toNatClampNeg) Q (F0 m (pc + 3) ls (.ref h.1 :: rest))) : W p l e R s m args below meth c H locs cells slots Q (F0 m pc ls (.int n :: rest)) := by
  refine W.anew hexec hb hown (hW.at hw rfl) (hW.at hw2 rfl) rfl hdg rfl (fun q => hn (Or.inl q)) ?_ hcells hslots fun cA kA comp f1 f2 f3 f4 => ?_
  · have : n.toNatClampNeg ≤ 1000000 := Nat.not_lt.mp fun q => hn (Or.inr q)
    omega
  · obtain ⟨kA', comp', k1, k2, k3, k4⟩ := (hW.2.2.1 _ hty).2
    cases Option.some.inj (f1.symm.trans k4)
    generalize hH1 : H.push ({ cls := dA (.object C), slots := Array.replicate n.toNatClampNeg .null, vm := .none } : Cell) = H1
    have z1 : H1.size = h.1 + 1 := by rw [← hH1, Array.size_push, hR.1]
    have e1 : H1[h.1]? = some (arrV (dA (.object C)) n.toNatClampNeg (fun _ => .null)) := by rw [← hH1, ← hR.1, Array.getElem?_push_size, ← arrV_new]
    have o1 : ∀ q : Nat, q < h.1 → H1[q]? = H[q]? := fun q hq => by rw [← hH1, Array.getElem?_push, if_neg (by rw [hR.1]; exact Nat.ne_of_lt hq)]
    rw [show H.size = h.1 from hR.1]
    exact kk H1 (hR.new ⟨hty, e1⟩ z1 o1) ⟨Nat.le_trans hS0.1 (by rw [z1, hR.1]; omega), fun x g1 g2 => (o1 x (by rw [← hR.1]; exact Nat.lt_of_lt_of_le g1 hS0.1)).trans (hS0.2.1 x g1 g2), hS0.2.2⟩
theorem arr_in {cA : ClassId} {n : Nat} {f : Nat → Value} {i : Int32} (hi : vp_in i n) : ¬ (i < 0 ∨ (arrV cA n f).slots.size ≤ i.toNatClampNeg) := by rw [arrV_size]; exact hi
theorem arr_rd {cA : ClassId} {n : Nat} {f : Nat → Value} {i : Int32} (hi : vp_in i n) : (arrV cA n f).slots[i.toNatClampNeg]? = some (f i.toNatClampNeg) := arrV_read _ _ (Nat.not_le.mp fun q => hi (Or.inr q))
theorem arr_nu {cA : ClassId} {n : Nat} {f : Nat → Value} : (arrV cA n f).vm ≠ .unknown := fun q => by cases q
/-- a stored element -/
theorem Rp.ast (hR : Rp D dA base h H) {a n : Nat} {ty : FieldType} {f : Nat → Value} {i : Nat} {v : Value} {H1 : Heap} (ha : h.2.2 a = some (.inl (ty, n, f))) (e1 : H1[a]? = some ((arrV (dA ty) n f).setSlot i v)) (z : H1.size = H.size) (oq : ∀ q, q ≠ a → H1[q]? = H[q]?) : Rp D dA base (hput h a (.inl (ty, n, updV f i v))) H1 := by
  obtain ⟨hb, ht, hc⟩ := hR.2.2 a _ ha
  exact hR.put hb ⟨ht, by rw [e1, arrV_store]⟩ z oq
end SndH
