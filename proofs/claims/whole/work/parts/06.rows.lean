/-! the step is the machine's -/
def ilen : Instr → Nat
  | .bipush _ | .ldc _ | .iload _ | .lload _ | .aload _ | .istore _ | .lstore _ | .astore _ | .newarray _ => 2
  | .sipush _ | .ldc2_w _ | .iinc .. | .goto _ | .ifCond .. | .if_icmp .. | .ifnull _ | .ifnonnull _ | .if_acmp .. | .getfield _ | .putfield _ | .anewarray _ | .new _ | .invokevirtual _ | .invokestatic _ | .invokespecial _ => 3
  | .multianewarray .. => 4
  | _ => 1
def tgt1 (pc : Nat) (off : Int) (ri : List Nat) : Bool := match ri with
  | t :: _ => decide ((pc : Int) + off = (t : Int))
  | [] => false
/-- an entry of a method's list is what its bytes say, and its links are words of the tables -/
def eok (own : String) (cc : ByteArray) (ini : Bool) (e : EN) : Bool :=
  (match e.2.1 with
    | .tableswitch d _ _ offs => decide (decode cc e.1 = .ok (e.2.1, e.2.2.1 - e.1)) && (match e.2.2.2 with
      | t0 :: ts => decide ((e.1 : Int) + d = (t0 : Int)) && decide (offs.toList.map (fun o => (e.1 : Int) + o) = ts.map (fun t : Nat => (t : Int)))
      | [] => false)
    | _ => decide (decode cc e.1 = .ok (e.2.1, ilen e.2.1)) && decide (e.2.2.1 = e.1 + ilen e.2.1)) &&
  (match e.2.1 with
    | .goto off => tgt1 e.1 off e.2.2.2
    | .ifnull off => tgt1 e.1 off e.2.2.2
    | .ifnonnull off => tgt1 e.1 off e.2.2.2
    | .ifCond _ off => tgt1 e.1 off e.2.2.2
    | .if_icmp _ off => tgt1 e.1 off e.2.2.2
    | .if_acmp _ off => tgt1 e.1 off e.2.2.2
    | .ldc idx => match e.2.2.2 with
      | r :: _ => (KI[r]?).any fun q => decide (q.1 = own) && decide (q.2.1 = idx)
      | [] => false
    | .ldc2_w idx => match e.2.2.2 with
      | r :: _ => (KJ[r]?).any fun q => decide (q.1 = own) && decide (q.2.1 = idx)
      | [] => false
    | .getfield idx => match e.2.2.2 with
      | r :: ci :: k :: _ => (FT[r]?).any fun q => decide (q.1 = own) && decide (q.2.1 = idx) && decide (q.2.2.1 = ci) && decide (q.2.2.2.1 = k)
      | _ => false
    | .putfield idx => match e.2.2.2 with
      | r :: ci :: k :: _ => (FT[r]?).any fun q => decide (q.1 = own) && decide (q.2.1 = idx) && decide (q.2.2.1 = ci) && decide (q.2.2.2.1 = k) && (vcl[ci]?).any fun v => !(v.2.1 k).2.2.2 || (ini && !q.2.2.2.2.1 && decide (v.1 = own))
      | _ => false
    | .new idx => match e.2.2.2 with
      | ci :: wi :: _ => (vcl[ci]?).any fun v => decide (lw_tbl[wi]? = some (.classLink own idx v.1))
      | _ => false
    | .anewarray idx => match e.2.2.2 with
      | t :: wi :: wj :: _ => match atys[t]? with
        | some (.object C) => decide (lw_tbl[wi]? = some (.classLink own idx C)) && decide (lw_tbl[wj]? = some (.arrayOver (.object C)))
        | _ => false
      | _ => false
    | _ => true)
section Snd
variable {D : va_G} {dA : FieldType → ClassId} {base b L : Nat} {xs : Nat → Int32} {n0 s0 nL : Nat} {own : String} {cc : ByteArray}
variable {p : Program} {l : Launch} {e : Env} {R : Room} {s : State} {m : MethodId} {args : Array Value} {below : List Frame} {meth : Method} {c : Code} {Q : State → Prop}
/-- what a method's body stands on -/
def Cx (D : va_G) (dA : FieldType → ClassId) (base b L : Nat) (xs : Nat → Int32) (own : String) (cc : ByteArray) (nL : Nat) (p : Program) (s : State) (m : MethodId) (meth : Method) (c : Code) : Prop :=
  p.tables.exec = Jvm.exec ∧ c.code = cc ∧ c.maxLocals = nL ∧ s.vm.findClass own = some m.cls ∧ Wd D dA s ∧ Hw base b L xs s s.heap ∧ meth.locks = false
/-- the machine goes on from an abstract frame -/
def KK (D : va_G) (dA : FieldType → ClassId) (base n0 s0 nL : Nat) (p : Program) (l : Launch) (e : Env) (R : Room) (s : State) (m : MethodId) (args : Array Value) (below : List Frame) (meth : Method) (c : Code) (Q : State → Prop) (pc : Nat) (lv : List (Option Value)) (st : List Value) (h : AH) : Prop :=
  ∀ (H : Heap) (locs : List Loc) (cells slots : Nat) (ls : Array Slot), Rp D dA base h H → va_S (fun q => base ≤ q) s.heap H locs → LV ls nL lv → cells + n0 = h.1 → slots + s0 = h.2.1 → W p l e R s m args below meth c H locs cells slots Q (F0 m pc ls st)
theorem tgt1_inv {pc : Nat} {off : Int} {ri : List Nat} (h : tgt1 pc off ri = true) : ∃ t r, ri = t :: r ∧ (pc : Int) + off = (t : Int) := by
  match ri, h with
  | t :: r, h => exact ⟨t, r, rfl, of_decide_eq_true h⟩
theorem nI1_cons {t : Nat} {r : List Nat} {f : Nat → Option SR} : nI1 (t :: r) f = f t := rfl
/-- a word of the tables by its place -/
theorem Wd.at {D : va_G} {dA : FieldType → ClassId} {s : State} (h : Wd D dA s) {w : Cond} {i : Nat} (hw : lw_tbl[i]? = some w) (hk : wk w = true) {A : Array Value} : w.before A s = true := h.word (List.mem_of_getElem? hw) hk
theorem W.ofsteps {H : Heap} {locs : List Loc} {cells slots : Nat} {g g2 : JFrame} (h : ∀ T : State, T.heap = H → Stand p l e R s m args below meth c T locs cells slots → ∀ t, Steps p.tables e below (T.setTop g2) t → Steps p.tables e below (T.setTop g) t) (k : W p l e R s m args below meth c H locs cells slots Q g2) : W p l e R s m args below meth c H locs cells slots Q g := by
  intro T hT X
  obtain ⟨t, a1, b1⟩ := k T hT X
  exact ⟨t, h T hT X t a1, b1⟩
/-- storing a local by a row that only needs the store's success -/
theorem wx_store1 {H : Heap} {locs : List Loc} {cells slots : Nat} {lv : List (Option Value)} {ls : Array Slot} {i pc pc' : Nat} {v : Value} {st st' : List Value} (hL : LV ls nL lv) (hi : i < nL) (hv : v.category = 1)
    (row : ∀ ls' : Array Slot, storeLocals ls i v = some ls' → W p l e R s m args below meth c H locs cells slots Q (F0 m pc' ls' st') → W p l e R s m args below meth c H locs cells slots Q (F0 m pc ls st))
    (k : ∀ ls', LV ls' nL (lv1 lv i v) → W p l e R s m args below meth c H locs cells slots Q (F0 m pc' ls' st')) : W p l e R s m args below meth c H locs cells slots Q (F0 m pc ls st) := by
  obtain ⟨ls', e', h'⟩ := hL.set1 hi hv
  exact row ls' e' (k ls' h')
theorem wx_store2 {H : Heap} {locs : List Loc} {cells slots : Nat} {lv : List (Option Value)} {ls : Array Slot} {i pc pc' : Nat} {v : Value} {st st' : List Value} (hL : LV ls nL lv) (hi : i + 1 < nL) (hv : v.category = 2)
    (row : ∀ ls' : Array Slot, storeLocals ls i v = some ls' → W p l e R s m args below meth c H locs cells slots Q (F0 m pc' ls' st') → W p l e R s m args below meth c H locs cells slots Q (F0 m pc ls st))
    (k : ∀ ls', LV ls' nL (lv2 lv i v) → W p l e R s m args below meth c H locs cells slots Q (F0 m pc' ls' st')) : W p l e R s m args below meth c H locs cells slots Q (F0 m pc ls st) := by
  obtain ⟨ls', e', h'⟩ := hL.set2 hi hv
  exact row ls' e' (k ls' h')
theorem rw_istore_n (hexec : p.tables.exec = Jvm.exec) (hb : c.code = cc) {H : Heap} {locs : List Loc} {cells slots pc : Nat} {ls ls' : Array Slot} {k : Fin 4} {x : Int32} {rest : List Value} (hdg : decode cc pc = .ok (.istore_n k, 1)) (e' : storeLocals ls k (.int x) = some ls') (kk : W p l e R s m args below meth c H locs cells slots Q (F0 m (pc + 1) ls' rest)) : W p l e R s m args below meth c H locs cells slots Q (F0 m pc ls (.int x :: rest)) := by
  intro T hT X
  obtain ⟨t, a, b⟩ := kk T hT X
  refine ⟨t, ?_, b⟩
  jvm_step X.here [X.here.top, ↓top_set X.here.top, hexec, hb, hdg, e']
  exact a
theorem rw_istore (hexec : p.tables.exec = Jvm.exec) (hb : c.code = cc) {H : Heap} {locs : List Loc} {cells slots pc : Nat} {ls ls' : Array Slot} {k : Nat} {x : Int32} {rest : List Value} (hdg : decode cc pc = .ok (.istore k, 2)) (e' : storeLocals ls k (.int x) = some ls') (kk : W p l e R s m args below meth c H locs cells slots Q (F0 m (pc + 2) ls' rest)) : W p l e R s m args below meth c H locs cells slots Q (F0 m pc ls (.int x :: rest)) := by
  intro T hT X
  obtain ⟨t, a, b⟩ := kk T hT X
  refine ⟨t, ?_, b⟩
  jvm_step X.here [X.here.top, ↓top_set X.here.top, hexec, hb, hdg, e']
  exact a
theorem rw_lstore_n (hexec : p.tables.exec = Jvm.exec) (hb : c.code = cc) {H : Heap} {locs : List Loc} {cells slots pc : Nat} {ls ls' : Array Slot} {k : Fin 4} {x : Int64} {rest : List Value} (hdg : decode cc pc = .ok (.lstore_n k, 1)) (e' : storeLocals ls k (.long x) = some ls') (kk : W p l e R s m args below meth c H locs cells slots Q (F0 m (pc + 1) ls' rest)) : W p l e R s m args below meth c H locs cells slots Q (F0 m pc ls (.long x :: rest)) := by
  intro T hT X
  obtain ⟨t, a, b⟩ := kk T hT X
  refine ⟨t, ?_, b⟩
  jvm_step X.here [X.here.top, ↓top_set X.here.top, hexec, hb, hdg, e']
  exact a
theorem rw_lstore (hexec : p.tables.exec = Jvm.exec) (hb : c.code = cc) {H : Heap} {locs : List Loc} {cells slots pc : Nat} {ls ls' : Array Slot} {k : Nat} {x : Int64} {rest : List Value} (hdg : decode cc pc = .ok (.lstore k, 2)) (e' : storeLocals ls k (.long x) = some ls') (kk : W p l e R s m args below meth c H locs cells slots Q (F0 m (pc + 2) ls' rest)) : W p l e R s m args below meth c H locs cells slots Q (F0 m pc ls (.long x :: rest)) := by
  intro T hT X
  obtain ⟨t, a, b⟩ := kk T hT X
  refine ⟨t, ?_, b⟩
  jvm_step X.here [X.here.top, ↓top_set X.here.top, hexec, hb, hdg, e']
  exact a
theorem rw_astore_n (hexec : p.tables.exec = Jvm.exec) (hb : c.code = cc) {H : Heap} {locs : List Loc} {cells slots pc : Nat} {ls ls' : Array Slot} {k : Fin 4} {x : Option Nat} {rest : List Value} (hdg : decode cc pc = .ok (.astore_n k, 1)) (e' : storeLocals ls k (va_rf x) = some ls') (kk : W p l e R s m args below meth c H locs cells slots Q (F0 m (pc + 1) ls' rest)) : W p l e R s m args below meth c H locs cells slots Q (F0 m pc ls (va_rf x :: rest)) := by
  intro T hT X
  obtain ⟨t, a, b⟩ := kk T hT X
  refine ⟨t, ?_, b⟩
  cases x
  · have e' : storeLocals ls k .null = some ls' := e'
    jvm_step X.here [X.here.top, ↓top_set X.here.top, hexec, hb, hdg, va_rf, e']
    exact ⟨rfl, a⟩
  · rename_i q
    have e' : storeLocals ls k (.ref q) = some ls' := e'
    jvm_step X.here [X.here.top, ↓top_set X.here.top, hexec, hb, hdg, va_rf, e']
    exact ⟨rfl, a⟩
theorem rw_astore (hexec : p.tables.exec = Jvm.exec) (hb : c.code = cc) {H : Heap} {locs : List Loc} {cells slots pc : Nat} {ls ls' : Array Slot} {k : Nat} {x : Option Nat} {rest : List Value} (hdg : decode cc pc = .ok (.astore k, 2)) (e' : storeLocals ls k (va_rf x) = some ls') (kk : W p l e R s m args below meth c H locs cells slots Q (F0 m (pc + 2) ls' rest)) : W p l e R s m args below meth c H locs cells slots Q (F0 m pc ls (va_rf x :: rest)) := by
  intro T hT X
  obtain ⟨t, a, b⟩ := kk T hT X
  refine ⟨t, ?_, b⟩
  cases x
  · have e' : storeLocals ls k .null = some ls' := e'
    jvm_step X.here [X.here.top, ↓top_set X.here.top, hexec, hb, hdg, va_rf, e']
    exact ⟨rfl, a⟩
  · rename_i q
    have e' : storeLocals ls k (.ref q) = some ls' := e'
    jvm_step X.here [X.here.top, ↓top_set X.here.top, hexec, hb, hdg, va_rf, e']
    exact ⟨rfl, a⟩
theorem rw_iinc (hexec : p.tables.exec = Jvm.exec) (hb : c.code = cc) {H : Heap} {locs : List Loc} {cells slots pc : Nat} {ls ls' : Array Slot} {k : Nat} {n : Int} {x : Int32} {rest : List Value} (hdg : decode cc pc = .ok (.iinc k n, 3)) (hg : ls[k]? = some (.val (.int x))) (e' : storeLocals ls k (.int (x + Int32.ofInt n)) = some ls') (kk : W p l e R s m args below meth c H locs cells slots Q (F0 m (pc + 3) ls' rest)) : W p l e R s m args below meth c H locs cells slots Q (F0 m pc ls rest) := by
  intro T hT X
  obtain ⟨t, a, b⟩ := kk T hT X
  refine ⟨t, ?_, b⟩
  jvm_step X.here [X.here.top, ↓top_set X.here.top, hexec, hb, hdg, hg, e']
  exact a
theorem rw_aload_n (hexec : p.tables.exec = Jvm.exec) (hb : c.code = cc) {H : Heap} {locs : List Loc} {cells slots pc : Nat} {ls : Array Slot} {k : Fin 4} {x : Option Nat} {rest : List Value} (hdg : decode cc pc = .ok (.aload_n k, 1)) (hg : ls[(k : Nat)]? = some (.val (va_rf x))) (kk : W p l e R s m args below meth c H locs cells slots Q (F0 m (pc + 1) ls (va_rf x :: rest))) : W p l e R s m args below meth c H locs cells slots Q (F0 m pc ls rest) := by
  cases x
  · exact lv_aload_nN hexec hb hdg rfl hg kk
  · exact lv_aload_n hexec hb hdg rfl hg kk
theorem rw_aload (hexec : p.tables.exec = Jvm.exec) (hb : c.code = cc) {H : Heap} {locs : List Loc} {cells slots pc : Nat} {ls : Array Slot} {k : Nat} {x : Option Nat} {rest : List Value} (hdg : decode cc pc = .ok (.aload k, 2)) (hg : ls[k]? = some (.val (va_rf x))) (kk : W p l e R s m args below meth c H locs cells slots Q (F0 m (pc + 2) ls (va_rf x :: rest))) : W p l e R s m args below meth c H locs cells slots Q (F0 m pc ls rest) := by
  cases x
  · exact lv_aloadN hexec hb hdg hg kk
  · exact lv_aload hexec hb hdg hg kk
end Snd
