/-! an array of arrays: the outer array, then its rows one by one -/
/-- the outer array with its first i rows laid -/
def mo (c : ClassId) (N z i : Nat) : Cell := arrV c N (fun j => if j < i then .ref (z + 1 + j) else .null)
theorem mo_succ (c : ClassId) (N z i : Nat) : (mo c N z i).setSlot i (.ref (z + 1 + i)) = mo c N z (i + 1) := by
  unfold mo
  rw [arrV_store]
  congr 1
  funext j
  unfold updV
  by_cases e : j = i
  · subst e; simp
  · rw [if_neg e]
    dsimp only
    by_cases h : j < i
    · rw [if_pos h, if_pos (by omega)]
    · rw [if_neg h, if_neg (by omega)]
def mrow (c : ClassId) (M : Nat) (v : Value) : Cell := arrV c M (fun _ => v)
/-- the state behind i rows -/
def mfl (T : State) (c comp : ClassId) (N M : Nat) (v : Value) : Nat → State
  | 0 => T.pushCell (mo c N T.heap.size 0)
  | i + 1 => ((mfl T c comp N M v i).pushCell (mrow comp M v)).setCell T.heap.size (mo c N T.heap.size (i + 1))
theorem mfl_facts (T : State) (c comp : ClassId) (N M : Nat) (v : Value) : ∀ i, (mfl T c comp N M v i).heap.size = T.heap.size + 1 + i ∧ (mfl T c comp N M v i).heap[T.heap.size]? = some (mo c N T.heap.size i) ∧ (mfl T c comp N M v i).vm = T.vm ∧ (mfl T c comp N M v i).slotsUsed = T.slotsUsed + N + i * M
  | 0 => ⟨by simp [mfl], by simp [mfl], rfl, by simp [mfl, mo, arrV_size]⟩
  | i + 1 => by
    obtain ⟨a, b, d, u⟩ := mfl_facts T c comp N M v i
    have hlt : T.heap.size < (mfl T c comp N M v i).heap.size := by omega
    have hb' : ((mfl T c comp N M v i).pushCell (mrow comp M v)).heap[T.heap.size]? = some (mo c N T.heap.size i) := by rw [State.heap_pushCell_of_lt (h := hlt)]; exact b
    refine ⟨?_, State.heap_setCell_self hb', by simp [mfl, d], ?_⟩
    · simp [mfl, State.setCell, a]; omega
    · simp [mfl, u, mrow, arrV_size, Nat.succ_mul]; omega
theorem mfl_top (T : State) (f : JFrame) (c comp : ClassId) (N M : Nat) (v : Value) : ∀ i, mfl (T.setTop f) c comp N M v i = (mfl T c comp N M v i).setTop f
  | 0 => rfl
  | i + 1 => by simp only [mfl, mfl_top T f c comp N M v i, State.heap_setTop, State.pushCell_setTop, State.setCell_setTop]
theorem mfl_old (T : State) (c comp : ClassId) (N M : Nat) (v : Value) {a : Addr} (ha : a < T.heap.size) : ∀ i, (mfl T c comp N M v i).heap[a]? = T.heap[a]?
  | 0 => State.heap_pushCell_of_lt _ _ ha
  | i + 1 => by
    have f1 := (mfl_facts T c comp N M v i).1
    have hlt : a < (mfl T c comp N M v i).heap.size := Nat.lt_of_lt_of_le ha (by rw [f1]; omega)
    show (((mfl T c comp N M v i).pushCell (mrow comp M v)).setCell T.heap.size _).heap[a]? = _
    rw [State.heap_setCell_other (Nat.ne_of_gt ha), State.heap_pushCell_of_lt (h := hlt)]
    exact mfl_old T c comp N M v ha i
theorem mfl_row (T : State) (c comp : ClassId) (N M : Nat) (v : Value) : ∀ i j, j < i → (mfl T c comp N M v i).heap[T.heap.size + 1 + j]? = some (mrow comp M v)
  | 0, _, h => absurd h (Nat.not_lt_zero _)
  | i + 1, j, h => by
    have f1 := (mfl_facts T c comp N M v i).1
    show (((mfl T c comp N M v i).pushCell (mrow comp M v)).setCell T.heap.size _).heap[T.heap.size + 1 + j]? = _
    rw [State.heap_setCell_other (show T.heap.size ≠ T.heap.size + 1 + j by omega)]
    rcases Nat.lt_or_ge j i with hj | hj
    · have hlt : T.heap.size + 1 + j < (mfl T c comp N M v i).heap.size := by rw [f1]; omega
      rw [State.heap_pushCell_of_lt (h := hlt)]
      exact mfl_row T c comp N M v i j hj
    · have e : j = i := by omega
      subst e
      rw [← f1]
      exact State.heap_pushCell_size _ _
section MuW
variable {E : CtlPost} {e : Env} {d : Bool} {acts : List Action} {s : State}
theorem mw_new {c comp : ClassId} {k : Class} {ty : FieldType} {n : Nat} {v : Value} (hk : s.vm.classes[c]? = some k) (hkind : k.kind = .array comp ty)
    (hlimit : ¬ n > e.platform.arrayLengthLimit) (hheap : ¬ n * componentBytes ty > e.platform.maxHeapBytes) (hfit : fits ty v = true) (hdef : v.isDefault = true) {Q : Addr → Pre}
    (h1 : s.heap.size < e.platform.maxCells) (h2 : s.slotsUsed + n ≤ e.platform.maxSlots) (hq : Q s.heap.size d acts (s.pushCell (arrV c n (fun _ => v)))) : wp (Jvm.newArray c n v) Q E e d acts s := by
  rw [← arrV_new] at hq
  have hfits : ∀ i w, (Array.replicate n v)[i]? = some w → s.fitsSlot c .none i w = true := by
    intro i w hw
    simp only [Array.getElem?_replicate] at hw
    split at hw
    · cases hw; simp [State.fitsSlot, State.slotType?, hk, hkind, hfit]
    · cases hw
  have hda : allocActs (Array.replicate n v) s.heap.size acts = acts := by
    have hall : ((Array.replicate n v).all (·.isDefault)) = true := by
      rw [Array.all_replicate]; split <;> simp [hdef]
    unfold allocActs; rw [if_pos hall]
  simp only [Jvm.newArray, Jvm.arrayFits, wp_bind', W.ask, W.ite, hlimit, if_false, wp_pure', W.theClass, hk, hkind, hheap, W.alloc, W.stop, Option.some.injEq, exists_eq_left', Array.size_replicate, hda]
  rw [if_neg (by omega)]
  exact ⟨h1, h2, hfits, hq⟩
theorem mw_fits {t : FieldType} (v : Value) (hv : v = .null ∨ ∃ a, v = .ref a) : fits (.array t) v = true := by
  rcases hv with rfl | ⟨a, rfl⟩ <;> rfl
theorem mw_row {comp cc : ClassId} {kc : Class} {ty : FieldType} {m : Int32} (hkc : s.vm.classes[comp]? = some kc) (hkindc : kc.kind = .array cc ty) (hm : ¬ m < 0)
    (hl2 : ¬ m.toNatClampNeg > e.platform.arrayLengthLimit) (hh2 : ¬ m.toNatClampNeg * componentBytes ty > e.platform.maxHeapBytes) (hdf : fits ty (defaultValue ty) = true) (hdd : (defaultValue ty).isDefault = true)
    (h1 : s.heap.size < e.platform.maxCells) (h2 : s.slotsUsed + m.toNatClampNeg ≤ e.platform.maxSlots) {Q : Addr → Pre} (hq : Q s.heap.size d acts (s.pushCell (mrow comp m.toNatClampNeg (defaultValue ty)))) : wp (multianewarray.make comp [m]) Q E e d acts s := by
  rw [multianewarray.make]
  simp only [wp_bind', W.ite, hm, if_false, wp_pure', W.theClass, hkc, hkindc, Option.some.injEq, exists_eq_left']
  exact mw_new hkc hkindc hl2 hh2 hdf hdd h1 h2 hq
theorem mw_two {c comp cc : ClassId} {k kc : Class} {ty : FieldType} {n m : Int32} (hk : s.vm.classes[c]? = some k) (hkind : k.kind = .array comp (.array ty)) (hkc : s.vm.classes[comp]? = some kc) (hkindc : kc.kind = .array cc ty) (hn : ¬ n < 0) (hm : ¬ m < 0)
    (hl1 : ¬ n.toNatClampNeg > e.platform.arrayLengthLimit) (hh1 : ¬ n.toNatClampNeg * componentBytes (.array ty) > e.platform.maxHeapBytes) (hl2 : ¬ m.toNatClampNeg > e.platform.arrayLengthLimit) (hh2 : ¬ m.toNatClampNeg * componentBytes ty > e.platform.maxHeapBytes)
    (hdf : fits ty (defaultValue ty) = true) (hdd : (defaultValue ty).isDefault = true) (hc : s.heap.size + 1 + n.toNatClampNeg ≤ e.platform.maxCells) (hs : s.slotsUsed + n.toNatClampNeg + n.toNatClampNeg * m.toNatClampNeg ≤ e.platform.maxSlots)
    {Q : Addr → Pre} (hq : ∀ d' acts', Q s.heap.size d' acts' (mfl s c comp n.toNatClampNeg m.toNatClampNeg (defaultValue ty) n.toNatClampNeg)) : wp (multianewarray.make c [n, m]) Q E e d acts s := by
  have hfind : ([m].find? (· < 0)) = none := by simp [hm]
  rw [multianewarray.make]
  simp only [wp_bind', W.ite, hn, if_false, wp_pure', W.theClass, hk, hkind, Option.some.injEq, exists_eq_left']
  refine mw_new hk hkind hl1 hh1 (mw_fits _ (Or.inl rfl)) rfl (by omega) (by have := Nat.zero_le (n.toNatClampNeg * m.toNatClampNeg); omega) ?_
  simp only [hfind]
  rw [ite_self, wp_bind', Std.Legacy.Range.forIn_eq_forIn_range']
  have hsz : ([:n.toNatClampNeg] : Std.Legacy.Range).size = n.toNatClampNeg := by simp [Std.Legacy.Range.size]
  rw [hsz]
  show wp (forIn (List.range' 0 n.toNatClampNeg 1) PUnit.unit _) _ E e d acts _
  have h0 : s.pushCell (arrV c n.toNatClampNeg (fun _ => .null)) = mfl s c comp n.toNatClampNeg m.toNatClampNeg (defaultValue ty) 0 := by simp [mfl, mo]
  refine wp_forIn_inv (fun rest s' => ∃ i, i ≤ n.toNatClampNeg ∧ rest = List.range' i (n.toNatClampNeg - i) ∧ s' = mfl s c comp n.toNatClampNeg m.toNatClampNeg (defaultValue ty) i) _ _ ⟨0, Nat.zero_le _, rfl, h0⟩ ?_ ?_
  · rintro x rest s' d' acts' Q' ⟨i, hi, hl, rfl⟩ hnext
    have hlt : i < n.toNatClampNeg := by
      rcases Nat.lt_or_ge i n.toNatClampNeg with h | h
      · exact h
      · rw [show n.toNatClampNeg - i = 0 from by omega] at hl; simp at hl
    obtain ⟨rfl, hrest⟩ : x = i ∧ rest = List.range' (i + 1) (n.toNatClampNeg - (i + 1)) := by
      rw [show n.toNatClampNeg - i = (n.toNatClampNeg - (i + 1)) + 1 from by omega, List.range'_succ] at hl
      exact ⟨(List.cons.inj hl).1, (List.cons.inj hl).2⟩
    obtain ⟨f1, f2, f3, f4⟩ := mfl_facts s c comp n.toNatClampNeg m.toNatClampNeg (defaultValue ty) x
    have hmul : x * m.toNatClampNeg + m.toNatClampNeg ≤ n.toNatClampNeg * m.toNatClampNeg := by
      have := Nat.mul_le_mul_right m.toNatClampNeg (show x + 1 ≤ n.toNatClampNeg from hlt)
      rw [Nat.succ_mul] at this; exact this
    simp only [wp_bind']
    refine mw_row (by rw [f3]; exact hkc) hkindc hm hl2 hh2 hdf hdd (by rw [f1]; omega) (by rw [f4]; omega) ?_
    have hlt0 : s.heap.size < (mfl s c comp n.toNatClampNeg m.toNatClampNeg (defaultValue ty) x).heap.size := by rw [f1]; omega
    simp only [wp_bind', W.writeLoc, wp_pure']
    refine ⟨mo c n.toNatClampNeg s.heap.size x, by rw [State.heap_pushCell_of_lt (h := hlt0)]; exact f2, arr_nu, by unfold mo; rw [arrV_size]; exact hlt, ?_, hnext _ _ _ ⟨x + 1, hlt, hrest, ?_⟩⟩
    · show State.fitsSlot _ c .none _ _ = true
      simp [State.fitsSlot, State.slotType?, f3, hk, hkind, mw_fits _ (Or.inr ⟨_, rfl⟩)]
    · rw [f1, mo_succ]; rfl
  · rintro s' d' acts' ⟨i, hi, hl, rfl⟩
    have hiN : i = n.toNatClampNeg := by
      rcases Nat.lt_or_ge i n.toNatClampNeg with h | h
      · rw [show n.toNatClampNeg - i = (n.toNatClampNeg - (i + 1)) + 1 from by omega, List.range'_succ] at hl; cases hl
      · omega
    subst hiN
    simp only [wp_pure']
    exact hq _ _
end MuW
section MuS
variable {p : Program} {l : Launch} {e : Env} {R : Room} {s : State} {m : MethodId} {args : Array Value} {below : List Frame} {meth : Method} {c : Code} {T : State} {locs : List Loc} {cells slots : Nat}
theorem ms_fill (X : Stand p l e R s m args below meth c T locs cells slots) (cA comp : ClassId) (N M : Nat) (v : Value) :
    ∀ i, Stand p l e R s m args below meth c (mfl T cA comp N M v i) (locs ++ (List.range i).map fun j => ⟨T.heap.size, j⟩) (cells + 1 + i) (slots + N + i * M)
  | 0 => by
    have h := X.pushed (mo cA N T.heap.size 0)
    rw [show (mo cA N T.heap.size 0).slots.size = N from arrV_size _ _ _] at h
    simpa [mfl] using h
  | i + 1 => by
    have Xi := ms_fill X cA comp N M v i
    obtain ⟨f1, f2, f3, f4⟩ := mfl_facts T cA comp N M v i
    have hlt0 : T.heap.size < (mfl T cA comp N M v i).heap.size := by rw [f1]; omega
    have hcell : ((mfl T cA comp N M v i).pushCell (mrow comp M v)).heap[T.heap.size]? = some (mo cA N T.heap.size i) := by rw [State.heap_pushCell_of_lt (h := hlt0)]; exact f2
    have h := (Xi.pushed (mrow comp M v)).stored hcell i (.ref (T.heap.size + 1 + i))
    rw [show (mrow comp M v).slots.size = M from arrV_size _ _ _, mo_succ] at h
    have e2 : (locs ++ (List.range (i + 1)).map fun j => (⟨T.heap.size, j⟩ : Loc)) = (locs ++ (List.range i).map fun j => (⟨T.heap.size, j⟩ : Loc)) ++ [⟨T.heap.size, i⟩] := by simp [List.range_succ, List.append_assoc]
    have e3 : slots + N + (i + 1) * M = slots + N + i * M + M := by rw [Nat.succ_mul]; omega
    rw [e2, e3]
    exact h
end MuS
/-- the abstract heap behind it -/
def hmul (h : AH) (ty : FieldType) (N K : Nat) : AH := (h.1 + 1 + N, h.2.1 + N + N * K, fun a => if a = h.1 then some (.inl (.array ty, N, fun j => if j < N then .ref (h.1 + 1 + j) else .null)) else if h.1 < a ∧ a ≤ h.1 + N then some (.inl (ty, K, fun _ => defaultValue ty)) else h.2.2 a)
theorem multi_words : ∀ ty ∈ ([.byte, .boolean, .int] : List FieldType), (FieldType.array ty ∈ atys ∧ ty ∈ atys) ∧ fits ty (defaultValue ty) = true ∧ (defaultValue ty).isDefault = true ∧ componentBytes ty ≤ 4 ∧ "[" ++ (FieldType.array ty).toString = "[[" ++ ty.toString := by
  intro ty h
  simp only [List.mem_cons, List.not_mem_nil, or_false] at h
  rcases h with rfl | rfl | rfl <;> exact ⟨⟨by decide, by decide⟩, rfl, rfl, by decide, by decide⟩
section MuR
variable {D : va_G} {dA : FieldType → ClassId} {base : Nat} {own : String} {cc : ByteArray}
variable {p : Program} {l : Launch} {e : Env} {R : Room} {s : State} {m : MethodId} {args : Array Value} {below : List Frame} {meth : Method} {c : Code} {Q : State → Prop}
variable {H : Heap} {locs : List Loc} {cells slots pc : Nat} {ls : Array Slot} {rest : List Value} {h : AH}
theorem rw_multi (hexec : p.tables.exec = Jvm.exec) (hb : c.code = cc) (hW : Wd D dA s) (hown : s.vm.findClass own = some m.cls) {ty : FieldType} {n k : Int32} {idx wi : Nat} (hty : ty ∈ ([.byte, .boolean, .int] : List FieldType)) (hR : Rp D dA base h H) (hS0 : va_S (fun q => base ≤ q) s.heap H locs) (hw : lw_tbl[wi]? = some (.classLink own idx ("[" ++ (FieldType.array ty).toString)))
    (hn : ¬ n < 0) (hk : ¬ k < 0) (hn2 : n.toNatClampNeg ≤ 100000) (hk2 : k.toNatClampNeg ≤ 100000) (hcells : cells + (1 + n.toNatClampNeg) ≤ R.cells) (hslots : slots + (n.toNatClampNeg + n.toNatClampNeg * k.toNatClampNeg) ≤ R.slots) (hdg : decode cc pc = .ok (.multianewarray idx 2, 4))
    (kk : ∀ (H1 : Heap) (locs1 : List Loc), Rp D dA base (hmul h ty n.toNatClampNeg k.toNatClampNeg) H1 → va_S (fun q => base ≤ q) s.heap H1 locs1 → W p l e R s m args below meth c H1 locs1 (cells + 1 + n.toNatClampNeg) (slots + n.toNatClampNeg + n.toNatClampNeg * k.toNatClampNeg) Q (F0 m (pc + 4) ls (.ref h.1 :: rest))) : W p l e R s m args below meth c H locs cells slots Q (F0 m pc ls (.int k :: .int n :: rest)) := by
  intro T hT X
  obtain ⟨⟨t1, t2⟩, hdf, hdd, hcb, -⟩ := multi_words ty hty
  have hpl : e.platform.magicAccessors = ({} : Platform).magicAccessors := by rw [X.admits.platform]
  obtain ⟨kA, hkA, hkindA⟩ := hW.2.2.2.2 ty hty
  obtain ⟨-, kC, hkC, cm, hkindC⟩ := (hW.2.2.1 ty t2).1 0 (fun _ => .null)
  have hnameA : s.vm.findClass ("[" ++ (FieldType.array ty).toString) = some (dA (.array ty)) := (hW.2.2.1 _ t1).2
  obtain ⟨c0, hfc0, hcl⟩ := Cond.classLink_spec hown (hW.at hw rfl (A := args)) e.platform hpl
  cases hnameA.symm.trans hfc0
  obtain ⟨hg₁, hwarm₁, hready₁⟩ := State.classEntry (e := e) X.warmed hcl
  generalize T.vm.noted m.cls idx (.cls (dA (.array ty))) = vm₁ at hg₁ hwarm₁ hready₁
  have hal : s.vm.Alike vm₁ := hwarm₁.alike
  obtain ⟨kA₁, hkA₁, heA⟩ := hal.2.2 _ _ hkA
  obtain ⟨kC₁, hkC₁, heC⟩ := hal.2.2 _ _ hkC
  have hkindA₁ : kA₁.kind = .array (dA ty) (.array ty) := by rw [heA]; exact hkindA
  have hkindC₁ : kC₁.kind = .array cm ty := by rw [heC]; exact hkindC
  have X₁ := X.noted hwarm₁
  obtain ⟨hr1, hr2⟩ := X.roomAbove hcells hslots
  have hl1 : ¬ n.toNatClampNeg > e.platform.arrayLengthLimit := by rw [Launch.admits_arrayLengthLimit X.admits]; omega
  have hh1 : ¬ n.toNatClampNeg * componentBytes (.array ty) > e.platform.maxHeapBytes := by
    rw [Launch.admits_maxHeapBytes X.admits]; show ¬ n.toNatClampNeg * 4 > 536870912; omega
  have hl2 : ¬ k.toNatClampNeg > e.platform.arrayLengthLimit := by rw [Launch.admits_arrayLengthLimit X.admits]; omega
  have hh2 : ¬ k.toNatClampNeg * componentBytes ty > e.platform.maxHeapBytes := by
    rw [Launch.admits_maxHeapBytes X.admits]
    have := Nat.mul_le_mul hk2 hcb
    omega
  have XF := ms_fill X₁ (dA (.array ty)) (dA ty) n.toNatClampNeg k.toNatClampNeg (defaultValue ty) n.toNatClampNeg
  obtain ⟨f1, f2, f3, f4⟩ := mfl_facts (T.setVm vm₁) (dA (.array ty)) (dA ty) n.toNatClampNeg k.toNatClampNeg (defaultValue ty) n.toNatClampNeg
  have hsz : (T.setVm vm₁).heap.size = h.1 := by show T.heap.size = h.1; rw [hT]; exact hR.1
  have hold : ∀ a : Nat, a < h.1 → (mfl (T.setVm vm₁) (dA (.array ty)) (dA ty) n.toNatClampNeg k.toNatClampNeg (defaultValue ty) n.toNatClampNeg).heap[a]? = H[a]? := fun a ha => by
    rw [mfl_old _ _ _ _ _ _ (by rw [hsz]; exact ha)]
    show T.heap[a]? = _
    rw [hT]
  have hRp : Rp D dA base (hmul h ty n.toNatClampNeg k.toNatClampNeg) (mfl (T.setVm vm₁) (dA (.array ty)) (dA ty) n.toNatClampNeg k.toNatClampNeg (defaultValue ty) n.toNatClampNeg).heap := by
    refine ⟨by rw [f1, hsz]; rfl, Nat.le_trans hR.2.1 (show h.1 ≤ h.1 + 1 + n.toNatClampNeg by omega), fun a o ho => ?_⟩
    have ho : (if a = h.1 then some (Sum.inl (FieldType.array ty, n.toNatClampNeg, fun j => if j < n.toNatClampNeg then Value.ref (h.1 + 1 + j) else .null)) else if h.1 < a ∧ a ≤ h.1 + n.toNatClampNeg then some (.inl (ty, k.toNatClampNeg, fun _ => defaultValue ty)) else h.2.2 a) = some o := ho
    split at ho
    · rename_i ea
      cases ho
      refine ⟨by rw [ea]; exact hR.2.1, t1, ?_⟩
      rw [ea, ← hsz, f2]
      rfl
    · split at ho
      · rename_i ea
        cases ho
        refine ⟨Nat.le_trans hR.2.1 (Nat.le_of_lt ea.1), t2, ?_⟩
        have := mfl_row (T.setVm vm₁) (dA (.array ty)) (dA ty) n.toNatClampNeg k.toNatClampNeg (defaultValue ty) n.toNatClampNeg (a - (h.1 + 1)) (by omega)
        rw [hsz, show h.1 + 1 + (a - (h.1 + 1)) = a by omega] at this
        exact this
      · have h3 := hR.2.2 a o ho
        exact ⟨h3.1, h3.2.kept (hold a (by rw [← hR.1]; exact h3.2.lt))⟩
  have hSF : va_S (fun q => base ≤ q) s.heap (mfl (T.setVm vm₁) (dA (.array ty)) (dA ty) n.toNatClampNeg k.toNatClampNeg (defaultValue ty) n.toNatClampNeg).heap (locs ++ (List.range n.toNatClampNeg).map fun j => ⟨(T.setVm vm₁).heap.size, j⟩) := by
    refine ⟨Nat.le_trans hS0.1 (by rw [f1, hsz, hR.1]; omega), fun q g1 g2 => (hold q (by rw [← hR.1]; exact Nat.lt_of_lt_of_le g1 hS0.1)).trans (hS0.2.1 q g1 g2), fun q hq => ?_⟩
    rcases List.mem_append.mp hq with hq | hq
    · exact hS0.2.2 q hq
    · obtain ⟨j, -, rfl⟩ := List.mem_map.mp hq
      show base ≤ (T.setVm vm₁).heap.size
      rw [hsz]
      exact hR.2.1
  obtain ⟨t, a1, b1⟩ := kk _ _ hRp hSF _ rfl XF
  refine ⟨t, ?_, b1⟩
  have hdg' : decode c.code pc = .ok (.multianewarray idx 2, 4) := by rw [hb]; exact hdg
  rw [← hsz] at a1
  jvm_step X.here [hexec, hdg']
  simp only [multianewarray.sem, wp_bind', W.resolveClassAt_links (State.method?_setTop (F0 m pc ls (.int k :: .int n :: rest)) X.here.top) hg₁]
  rw [W.popN, if_neg (by decide)]
  refine ⟨F0 m pc ls (.int k :: .int n :: rest), State.topJava?_setTop' (s := T.setVm vm₁) _ X.here.top, [.int n, .int k], rest, rfl, rfl, ?_⟩
  simp only [List.mapM_cons, List.mapM_nil, wp_bind', wp_pure']
  refine mw_two (k := kA₁) (kc := kC₁) (comp := dA ty) (cc := cm) (ty := ty) hkA₁ hkindA₁ hkC₁ hkindC₁ hn hk hl1 hh1 hl2 hh2 hdf hdd (by show T.heap.size + 1 + _ ≤ _; omega) (by show T.slotsUsed + _ + _ ≤ _; omega) (fun d' acts' => ?_)
  have eS : ((T.setTop (F0 m pc ls (.int k :: .int n :: rest))).setVm vm₁).setTop { F0 m pc ls (.int k :: .int n :: rest) with stack := rest } = (T.setVm vm₁).setTop { F0 m pc ls (.int k :: .int n :: rest) with stack := rest } := by
    show ((T.setVm vm₁).setTop _).setTop _ = _
    rw [State.setTop_setTop]
  rw [eS, mfl_top]
  simp only [wp_bind', W.mark, W.pushRef, State.topJava?_setTop' _ XF.here.top, Option.some.injEq, exists_eq_left', State.setTop_setTop, State.heap_setTop]
  intro acts
  simp [jvm, XF.here.top]
  exact a1
end MuR
