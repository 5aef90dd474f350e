/-! the classes whose objects the abstract heap holds -/
def cn_vault : String := "TapeVault"
def cf_vault : u_T := fun k => match k with
  | 0 => ("TapeVault", "tree", "LTapeVault$Tree;", true)
  | 1 => ("TapeVault", "volumes", "LTapeVault$Volumes;", true)
  | 2 => ("TapeVault", "writer", "LTapeVault$Writer;", true)
  | 3 => ("TapeVault", "copy", "LTapeVault$Restored;", true)
  | 4 => ("TapeVault", "dumps", "[LTapeVault$Dump;", true)
  | _ => ("TapeVault", "dumpCount", "I", false)
def cn_tree : String := "TapeVault$Tree"
def cf_tree : u_T := fun k => match k with
  | 0 => ("TapeVault$Tree", "nodes", "[LTapeVault$Node;", true)
  | 1 => ("TapeVault$Tree", "nodeCount", "I", false)
  | _ => ("TapeVault$Tree", "time", "I", false)
def cn_vols : String := "TapeVault$Volumes"
def cf_vols : u_T := fun k => match k with
  | 0 => ("TapeVault$Volumes", "words", "[J", false)
  | 1 => ("TapeVault$Volumes", "spoiled", "[B", false)
  | 2 => ("TapeVault$Volumes", "capacity", "I", false)
  | 3 => ("TapeVault$Volumes", "written", "I", false)
  | _ => ("TapeVault$Volumes", "filled", "I", false)
def cn_writ : String := "TapeVault$Writer"
def cf_writ : u_T := fun k => match k with
  | 0 => ("TapeVault$Writer", "tree", "LTapeVault$Tree;", true)
  | _ => ("TapeVault$Writer", "volumes", "LTapeVault$Volumes;", true)
def cn_rest : String := "TapeVault$Restored"
def cf_rest : u_T := fun k => match k with
  | 0 => ("TapeVault$Restored", "volumes", "LTapeVault$Volumes;", true)
  | 1 => ("TapeVault$Restored", "facts", "[I", true)
  | 2 => ("TapeVault$Restored", "missing", "[I", true)
  | 3 => ("TapeVault$Restored", "lost", "[Z", true)
  | 4 => ("TapeVault$Restored", "there", "Z", false)
  | 5 => ("TapeVault$Restored", "chainLength", "I", false)
  | 6 => ("TapeVault$Restored", "lostCount", "I", false)
  | _ => ("TapeVault$Restored", "readCount", "I", false)
def cn_node : String := "TapeVault$Node"
def cf_node : u_T := fun k => match k with
  | 0 => ("TapeVault$Node", "number", "I", true)
  | 1 => ("TapeVault$Node", "kind", "I", true)
  | 2 => ("TapeVault$Node", "parent", "LTapeVault$Node;", false)
  | 3 => ("TapeVault$Node", "name", "I", false)
  | 4 => ("TapeVault$Node", "size", "I", false)
  | 5 => ("TapeVault$Node", "stamp", "I", false)
  | 6 => ("TapeVault$Node", "octets", "[B", false)
  | 7 => ("TapeVault$Node", "firstEntry", "LTapeVault$Node;", false)
  | _ => ("TapeVault$Node", "nextEntry", "LTapeVault$Node;", false)
def cn_dump : String := "TapeVault$Dump"
def cf_dump : u_T := fun k => match k with
  | 0 => ("TapeVault$Dump", "number", "I", true)
  | 1 => ("TapeVault$Dump", "level", "I", true)
  | 2 => ("TapeVault$Dump", "time", "I", true)
  | 3 => ("TapeVault$Dump", "base", "LTapeVault$Dump;", true)
  | 4 => ("TapeVault$Dump", "chainLength", "I", true)
  | 5 => ("TapeVault$Dump", "changed", "I", false)
  | 6 => ("TapeVault$Dump", "first", "I", false)
  | _ => ("TapeVault$Dump", "blocks", "I", false)
def cn_modl : String := "TapeVaultModel"
def cf_modl : u_T := fun k => match k with
  | 0 => ("TapeVaultModel", "err", "I", false)
  | 1 => ("TapeVaultModel", "kind", "[I", true)
  | 2 => ("TapeVaultModel", "parent", "[I", true)
  | 3 => ("TapeVaultModel", "name", "[I", true)
  | 4 => ("TapeVaultModel", "size", "[I", true)
  | 5 => ("TapeVaultModel", "stamp", "[I", true)
  | 6 => ("TapeVaultModel", "data", "[[B", true)
  | 7 => ("TapeVaultModel", "time", "I", false)
  | 8 => ("TapeVaultModel", "volume", "I", false)
  | 9 => ("TapeVaultModel", "written", "I", false)
  | 10 => ("TapeVaultModel", "level", "[I", true)
  | 11 => ("TapeVaultModel", "when", "[I", true)
  | 12 => ("TapeVaultModel", "base", "[I", true)
  | 13 => ("TapeVaultModel", "firstBlock", "[I", true)
  | 14 => ("TapeVaultModel", "firstRecord", "[I", true)
  | 15 => ("TapeVaultModel", "there", "[[Z", true)
  | 16 => ("TapeVaultModel", "dumps", "I", false)
  | 17 => ("TapeVaultModel", "rNode", "[I", true)
  | 18 => ("TapeVaultModel", "rKind", "[I", true)
  | 19 => ("TapeVaultModel", "rName", "[I", true)
  | 20 => ("TapeVaultModel", "rParent", "[I", true)
  | 21 => ("TapeVaultModel", "rSize", "[I", true)
  | 22 => ("TapeVaultModel", "rStamp", "[I", true)
  | 23 => ("TapeVaultModel", "rFrom", "[I", true)
  | 24 => ("TapeVaultModel", "octets", "[B", true)
  | 25 => ("TapeVaultModel", "entryName", "[I", true)
  | 26 => ("TapeVaultModel", "entryNode", "[I", true)
  | 27 => ("TapeVaultModel", "records", "I", false)
  | 28 => ("TapeVaultModel", "octetMany", "I", false)
  | 29 => ("TapeVaultModel", "entryMany", "I", false)
  | 30 => ("TapeVaultModel", "spoiled", "[Z", true)
  | 31 => ("TapeVaultModel", "label", "[Z", true)
  | 32 => ("TapeVaultModel", "xKind", "[I", true)
  | 33 => ("TapeVaultModel", "xParent", "[I", true)
  | 34 => ("TapeVaultModel", "xName", "[I", true)
  | 35 => ("TapeVaultModel", "xSize", "[I", true)
  | 36 => ("TapeVaultModel", "xStamp", "[I", true)
  | 37 => ("TapeVaultModel", "xEntries", "[I", true)
  | 38 => ("TapeVaultModel", "lost", "[Z", true)
  | 39 => ("TapeVaultModel", "xData", "[[B", true)
  | 40 => ("TapeVaultModel", "xEntryName", "[[I", true)
  | 41 => ("TapeVaultModel", "xEntryNode", "[[I", true)
  | 42 => ("TapeVaultModel", "restored", "Z", false)
  | 43 => ("TapeVaultModel", "chain", "I", false)
  | 44 => ("TapeVaultModel", "lostMany", "I", false)
  | 45 => ("TapeVaultModel", "read", "I", false)
  | 46 => ("TapeVaultModel", "block", "[I", true)
  | _ => ("TapeVaultModel", "filled", "I", false)
def vcl : List vw_C := [(cn_vault, cf_vault, 6), (cn_tree, cf_tree, 3), (cn_vols, cf_vols, 5), (cn_writ, cf_writ, 2), (cn_rest, cf_rest, 8), (cn_node, cf_node, 9), (cn_dump, cf_dump, 8), (cn_modl, cf_modl, 48)]
/-- the type of a field -/
def fty (T : u_T) (k : Nat) : FieldType := (parseFieldDescriptor (T k).2.2.1).getD .int
theorem vcl_ty : ∀ q ∈ vcl, ∀ k, k < q.2.2 → parseFieldDescriptor (q.2.1 k).2.2.1 = some (fty q.2.1 k) := by decide +kernel
theorem vcl_nm : ∀ q ∈ vcl, ∀ a, a < q.2.2 → ∀ b, b < q.2.2 → a ≠ b → (q.2.1 a).2.1 ≠ (q.2.1 b).2.1 := by decide +kernel
theorem vcl_own : ∀ q ∈ vcl, ∀ k, k < q.2.2 → (q.2.1 k).1 = q.1 := by decide +kernel
/-- words that stay true as the tables warm -/
def wk (w : Cond) : Bool := match w with
  | .fieldLinkNest .. => true
  | .methodLinkNest .. => true
  | .declares _ => true
  | .castable .. => true
  | .arrayOver (.object _) => true
  | w => goodWord w
theorem wk_warm {w : Cond} (hw : wk w = true) {s U : State} (hW : s.WarmedH U.vm) (h : w.before #[] s = true) : w.before #[] U = true := by
  cases w with
  | fieldLinkNest a i b n d q => exact va_Nw.warmF hW h
  | methodLinkNest a i x q => exact va_Nw.warmM hW h
  | declares x => exact va_Nw.warmD hW h
  | castable a b => exact va_Nw.warmC hW h
  | arrayOver ty =>
    cases ty with
    | object C => exact va_AO.moved hW.alike h
    | _ => exact absurd hw (by simp [wk, goodWord, Cond.onTables])
  | _ => exact word_at hW (good_of_word hw) h
theorem wk_any {w : Cond} (hw : wk w = true) {s : State} {A : Array Value} (h : w.before #[] s = true) : w.before A s = true := by
  cases w with
  | fieldLinkNest a i b n d q => exact va_tabs rfl rfl h
  | methodLinkNest a i x q => exact va_tabs rfl rfl h
  | declares x => exact va_tabs rfl rfl h
  | castable a b => exact va_tabs rfl rfl h
  | arrayOver ty => exact h
  | _ => exact word_at (State.WarmedH.refl s) (good_of_word hw) h
/-! abstract heaps: the next address, the slots laid so far, the cells that are known -/
abbrev AO : Type := (FieldType × Nat × (Nat → Value)) ⊕ (Nat × List Value)
abbrev AH : Type := Nat × Nat × (Nat → Option AO)
def hput (h : AH) (a : Nat) (o : AO) : AH := (h.1, h.2.1, va_up h.2.2 a (some o))
def hnew (h : AH) (o : AO) (k : Nat) : AH := (h.1 + 1, h.2.1 + k, va_up h.2.2 h.1 (some o))
def hskip (h : AH) (k : Nat) : AH := (h.1 + 1, h.2.1 + k, h.2.2)
/-- the array types that are made -/
def atys : List FieldType := [.int, .long, .byte, .boolean, .object "TapeVault$Node", .object "TapeVault$Dump", .array .byte, .array .boolean, .array .int]
/-- what is thrown, and the pairs of which one isn't the other -/
def exn : List String := ["java/lang/IllegalArgumentException", "java/lang/IllegalStateException", "java/lang/IndexOutOfBoundsException", "java/lang/UnsupportedOperationException"]
/-- what the tables say, at any state of the run -/
def Wd (D : va_G) (dA : FieldType → ClassId) (U : State) : Prop :=
  (∀ w ∈ lw_tbl, wk w = true → w.before #[] U = true) ∧ va_K D vcl [] U ∧ (∀ ty ∈ atys, ArrOfT U (dA ty) ty ∧ va_RA U (dA ty) ty) ∧
  (∀ a ∈ exn, ∀ b ∈ exn, a ≠ b → va_Nc a b U) ∧ (∀ ty ∈ ([.byte, .boolean, .int] : List FieldType), ∃ kA : Class, U.vm.classes[dA (.array ty)]? = some kA ∧ kA.kind = .array (dA ty) (.array ty))
theorem Wd.warm {D : va_G} {dA : FieldType → ClassId} {s U : State} (hW : s.WarmedH U.vm) (h : Wd D dA s) : Wd D dA U := by
  obtain ⟨h1, h2, h3, h4, h5⟩ := h
  refine ⟨fun w hw hk => wk_warm hk hW (h1 w hw hk), va_K.moved hW.alike h2, fun ty ht => ⟨arrOfT_moved hW.alike (h3 ty ht).1, va_RA.moved hW.alike (h3 ty ht).2⟩, fun a ha b hb hn => va_Nc.moved hW.alike (h4 a ha b hb hn), fun ty ht => ?_⟩
  obtain ⟨kA, e1, e2⟩ := h5 ty ht
  obtain ⟨k', hk', he⟩ := hW.alike.2.2 _ _ e1
  exact ⟨k', hk', by rw [he]; exact e2⟩
theorem Wd.word {D : va_G} {dA : FieldType → ClassId} {s : State} (h : Wd D dA s) {w : Cond} (hw : w ∈ lw_tbl) (hk : wk w = true) {A : Array Value} : w.before A s = true := wk_any hk (h.1 w hw hk)
/-- what lies below the run's own cells: the script, and what a throw reads -/
def Hw (base b L : Nat) (xs : Nat → Int32) (U : State) (H : Heap) : Prop :=
  vx_Zq Bundle.tN "UNASSIGNED_STACK" Bundle.steD (fun q => base ≤ q) U H ∧ vx_Zq Bundle.tN "SUPPRESSED_SENTINEL" Bundle.listD (fun q => base ≤ q) U H ∧ va_X b L xs U H ∧ b < base ∧ base ≤ H.size
theorem Hw.moved {base b L : Nat} {xs : Nat → Int32} {u U : State} {H : Heap} (hvm : u.vm.Alike U.vm) (h : Hw base b L xs u H) : Hw base b L xs U H :=
  ⟨vx_Zq.moved hvm h.1, vx_Zq.moved hvm h.2.1, va_X.moved hvm h.2.2.1, h.2.2.2⟩
theorem Hw.kept {base b L : Nat} {xs : Nat → Int32} {U : State} {H H1 : Heap} (h : Hw base b L xs U H) (hq : ∀ a : Nat, a < H.size → ¬ base ≤ a → H1[a]? = H[a]?) (hz : H.size ≤ H1.size) : Hw base b L xs U H1 :=
  ⟨vx_Zq.kept h.1 hq, vx_Zq.kept h.2.1 hq, va_X.kept h.2.2.1 (hq b (Nat.lt_of_lt_of_le h.2.2.2.1 h.2.2.2.2) (Nat.not_le.mpr h.2.2.2.1)), h.2.2.2.1, Nat.le_trans h.2.2.2.2 hz⟩
/-- one known cell -/
def oat (D : va_G) (dA : FieldType → ClassId) (a : Nat) (o : AO) (H : Heap) : Prop := match o with
  | .inl (ty, n, f) => ty ∈ atys ∧ H[a]? = some (arrV (dA ty) n f)
  | .inr (ci, fs) => ∃ r : vw_C, vcl[ci]? = some r ∧ fs.length = r.2.2 ∧ t_OB a (D.1 ci) r.2.2 (D.2 ci) H (vp_V fs)
theorem oat.kept {D : va_G} {dA : FieldType → ClassId} {a : Nat} {o : AO} {H H1 : Heap} (h : oat D dA a o H) (hq : H1[a]? = H[a]?) : oat D dA a o H1 := by
  match o, h with
  | .inl (ty, n, f), h => exact ⟨h.1, by rw [hq]; exact h.2⟩
  | .inr (ci, fs), h =>
    obtain ⟨r, h1, h2, h3⟩ := h
    exact ⟨r, h1, h2, h3.kept hq⟩
theorem oat.lt {D : va_G} {dA : FieldType → ClassId} {a : Nat} {o : AO} {H : Heap} (h : oat D dA a o H) : a < H.size := by
  match o, h with
  | .inl (ty, n, f), h => exact (Array.getElem?_eq_some_iff.mp h.2).1
  | .inr (ci, fs), h =>
    obtain ⟨r, h1, h2, cell, h3, -⟩ := h
    exact (Array.getElem?_eq_some_iff.mp h3).1
/-- the machine's heap holds the abstract one -/
def Rp (D : va_G) (dA : FieldType → ClassId) (base : Nat) (h : AH) (H : Heap) : Prop :=
  H.size = h.1 ∧ base ≤ h.1 ∧ ∀ (a : Nat) (o : AO), h.2.2 a = some o → base ≤ a ∧ oat D dA a o H
theorem Rp.put {D : va_G} {dA : FieldType → ClassId} {base : Nat} {h : AH} {H H1 : Heap} (hR : Rp D dA base h H) {a : Nat} {o : AO} (hb : base ≤ a) (ho : oat D dA a o H1) (hz : H1.size = H.size) (hq : ∀ q, q ≠ a → H1[q]? = H[q]?) : Rp D dA base (hput h a o) H1 := by
  refine ⟨hz.trans hR.1, hR.2.1, fun q x hx => ?_⟩
  by_cases e : q = a
  · subst e
    have : (va_up h.2.2 q (some o)) q = some x := hx
    rw [va_up_self] at this
    cases this
    exact ⟨hb, ho⟩
  · have h2 : (va_up h.2.2 a (some o)) q = some x := hx
    rw [va_up_ne _ _ e] at h2
    exact ⟨(hR.2.2 q x h2).1, (hR.2.2 q x h2).2.kept (hq q e)⟩
theorem Rp.new {D : va_G} {dA : FieldType → ClassId} {base : Nat} {h : AH} {H H1 : Heap} (hR : Rp D dA base h H) {o : AO} {k : Nat} (ho : oat D dA h.1 o H1) (hz : H1.size = h.1 + 1) (hq : ∀ q, q < h.1 → H1[q]? = H[q]?) : Rp D dA base (hnew h o k) H1 := by
  refine ⟨hz, Nat.le_succ_of_le hR.2.1, fun q x hx => ?_⟩
  by_cases e : q = h.1
  · subst e
    have : (va_up h.2.2 h.1 (some o)) h.1 = some x := hx
    rw [va_up_self] at this
    cases this
    exact ⟨hR.2.1, ho⟩
  · have h2 : (va_up h.2.2 h.1 (some o)) q = some x := hx
    rw [va_up_ne _ _ e] at h2
    have h3 := hR.2.2 q x h2
    exact ⟨h3.1, h3.2.kept (hq q (by rw [← hR.1]; exact h3.2.lt))⟩
theorem Rp.skip {D : va_G} {dA : FieldType → ClassId} {base : Nat} {h : AH} {H H1 : Heap} (hR : Rp D dA base h H) {k : Nat} (hz : H1.size = h.1 + 1) (hq : ∀ q, q < h.1 → H1[q]? = H[q]?) : Rp D dA base (hskip h k) H1 :=
  ⟨hz, Nat.le_succ_of_le hR.2.1, fun q x hx => ⟨(hR.2.2 q x hx).1, (hR.2.2 q x hx).2.kept (hq q (by rw [← hR.1]; exact (hR.2.2 q x hx).2.lt))⟩⟩
/-! locals by their places -/
def la (lv : List (Option Value)) : List (Nat × Value) := (List.range lv.length).filterMap fun i => (lv.getD i none).map fun v => (i, v)
theorem mem_la {lv : List (Option Value)} {i : Nat} {v : Value} : (i, v) ∈ la lv ↔ lv[i]? = some (some v) := by
  simp only [la, List.mem_filterMap, List.mem_range, Option.map_eq_some_iff, Prod.mk.injEq]
  constructor
  · rintro ⟨j, hj, w, hw, rfl, rfl⟩
    rw [List.getD_eq_getElem?_getD] at hw
    rw [List.getElem?_eq_getElem hj] at hw ⊢
    simpa using hw
  · intro h
    have hi : i < lv.length := (List.getElem?_eq_some_iff.mp h).1
    exact ⟨i, hi, v, by rw [List.getD_eq_getElem?_getD, h]; rfl, rfl, rfl⟩
def LV (ls : Array Slot) (nL : Nat) (lv : List (Option Value)) : Prop := lv.length = nL ∧ lv_has ls nL (la lv)
theorem LV.get {ls : Array Slot} {nL : Nat} {lv : List (Option Value)} (h : LV ls nL lv) {i : Nat} {v : Value} (hi : lv[i]? = some (some v)) : ls[i]? = some (.val v) := h.2.2.2 (i, v) (mem_la.mpr hi)
theorem lv_less {ls : Array Slot} {nL : Nat} {l l' : List (Nat × Value)} (h : lv_has ls nL l) (hl : ∀ q ∈ l', q ∈ l) : lv_has ls nL l' := ⟨h.1, h.2.1, fun q hq => h.2.2 q (hl q hq)⟩
/-- the place before is cleared where it held a long -/
def lvc (lv : List (Option Value)) (i : Nat) : List (Option Value) := match i with
  | 0 => lv
  | j + 1 => match lv[j]? with
    | some (some (.long _)) => lv.set j none
    | some (some (.double _)) => lv.set j none
    | _ => lv
def lv1 (lv : List (Option Value)) (i : Nat) (v : Value) : List (Option Value) := (lvc lv i).set i (some v)
def lv2 (lv : List (Option Value)) (i : Nat) (v : Value) : List (Option Value) := ((lvc lv i).set i (some v)).set (i + 1) none
theorem lvc_len (lv : List (Option Value)) (i : Nat) : (lvc lv i).length = lv.length := by
  unfold lvc
  split
  · rfl
  · split <;> simp
theorem lvc_get {lv : List (Option Value)} {i j : Nat} {w : Value} (h : (lvc lv i)[j]? = some (some w)) : lv[j]? = some (some w) ∧ ¬ (j + 1 = i ∧ w.category = 2) := by
  unfold lvc at h
  split at h
  · exact ⟨h, fun e => by omega⟩
  · rename_i k
    split at h
    · rename_i x hx
      rw [List.getElem?_set] at h
      by_cases e : k = j
      · subst e
        simp at h
      · rw [if_neg e] at h
        exact ⟨h, fun q => e (by omega)⟩
    · rename_i x hx
      rw [List.getElem?_set] at h
      by_cases e : k = j
      · subst e
        simp at h
      · rw [if_neg e] at h
        exact ⟨h, fun q => e (by omega)⟩
    · rename_i n1 n2
      refine ⟨h, fun q => ?_⟩
      have e : j = k := by omega
      subst e
      cases w <;> simp [Value.category] at q
      · exact n1 _ h
      · exact n2 _ h
theorem LV.set1 {ls : Array Slot} {nL : Nat} {lv : List (Option Value)} {i : Nat} {v : Value} (h : LV ls nL lv) (hi : i < nL) (hc : v.category = 1) : ∃ ls', storeLocals ls i v = some ls' ∧ LV ls' nL (lv1 lv i v) := by
  obtain ⟨ls', e, h'⟩ := lv_store1 h.2 hi hc
  refine ⟨ls', e, by simp [lv1, lvc_len, h.1], lv_less h' fun q hq => ?_⟩
  obtain ⟨j, w⟩ := q
  have hq := mem_la.mp hq
  unfold lv1 at hq
  rw [List.getElem?_set] at hq
  by_cases e2 : i = j
  · subst e2
    rw [if_pos rfl, if_pos (by rw [lvc_len, h.1]; exact hi)] at hq
    cases hq
    exact List.mem_cons_self
  · rw [if_neg e2] at hq
    obtain ⟨q1, q2⟩ := lvc_get hq
    refine List.mem_cons_of_mem _ (List.mem_filter.mpr ⟨mem_la.mpr q1, ?_⟩)
    simp only [Bool.and_eq_true, Bool.not_eq_true', beq_eq_false_iff_ne, ne_eq]
    exact ⟨fun x => e2 x.symm, by
      cases hz : (j + 1 == i && w.category == 2)
      · rfl
      · simp only [Bool.and_eq_true, beq_iff_eq] at hz
        exact absurd hz q2⟩
theorem LV.set2 {ls : Array Slot} {nL : Nat} {lv : List (Option Value)} {i : Nat} {v : Value} (h : LV ls nL lv) (hi : i + 1 < nL) (hc : v.category = 2) : ∃ ls', storeLocals ls i v = some ls' ∧ LV ls' nL (lv2 lv i v) := by
  obtain ⟨ls', e, h'⟩ := lv_store2 h.2 hi hc
  refine ⟨ls', e, by simp [lv2, lvc_len, h.1], lv_less h' fun q hq => ?_⟩
  obtain ⟨j, w⟩ := q
  have hq := mem_la.mp hq
  unfold lv2 at hq
  rw [List.getElem?_set] at hq
  by_cases e3 : i + 1 = j
  · subst e3
    rw [if_pos rfl] at hq
    split at hq <;> cases hq
  rw [if_neg e3, List.getElem?_set] at hq
  by_cases e2 : i = j
  · subst e2
    rw [if_pos rfl, if_pos (by rw [lvc_len, h.1]; omega)] at hq
    cases hq
    exact List.mem_cons_self
  · rw [if_neg e2] at hq
    obtain ⟨q1, q2⟩ := lvc_get hq
    refine List.mem_cons_of_mem _ (List.mem_filter.mpr ⟨mem_la.mpr q1, ?_⟩)
    simp only [Bool.and_eq_true, Bool.not_eq_true', beq_eq_false_iff_ne, ne_eq]
    exact ⟨fun x => e2 x.symm, fun x => e3 x.symm, by
      cases hz : (j + 1 == i && w.category == 2)
      · rfl
      · simp only [Bool.and_eq_true, beq_iff_eq] at hz
        exact absurd hz q2⟩
