/-! a throw that the caller's table catches; a throw that leaves its method -/
section Cy
variable {e : Env} {f : JFrame} {a : Addr}
theorem cy_link {Q : Handler → Pre} {E : CtlPost} {d : Bool} {acts : List Action} {s : State} {x : ExceptionTableEntry} {t : List ExceptionTableEntry} {c : ClassId} {cell : Cell} (hx : covers x f.pc = true) (h0 : x.catchType ≠ 0)
    (hl : s.vm.ClassLinks e.platform f.method.cls x.catchType c) (hcell : s.heap[a]? = some cell) (hobj : ∀ k, cell.vm ≠ .statics k)
    (hk : ∃ k, s.vm.classes[cell.cls]? = some k) (hc : ∃ k, s.vm.classes[c]? = some k) :
    wp (findHandler.go f a (x :: t)) Q E e d acts s ↔ (if s.vm.assignable cell.cls c = true then Q (.found x.handlerPc) d acts (s.setVm (s.vm.noted f.method.cls x.catchType (.cls c))) else wp (findHandler.go f a t) Q E e d acts (s.setVm (s.vm.noted f.method.cls x.catchType (.cls c)))) := by
  simp only [covers] at hx
  obtain ⟨ha, ht⟩ := (resolveClass_links e.toSetting hl).op (op := VmOp.resolveClass f.method.cls x.catchType) rfl
  have hal : s.vm.Alike (s.vm.noted f.method.cls x.catchType (.cls c)) := (Vm.Alike.refl s.vm).noted _ _ _
  obtain ⟨k1, hk1⟩ := hk
  obtain ⟨k2, hk2⟩ := hc
  obtain ⟨k1', hk1', -⟩ := hal.2.2 _ _ hk1
  obtain ⟨k2', hk2', -⟩ := hal.2.2 _ _ hk2
  have hfit' : (s.vm.noted f.method.cls x.catchType (.cls c)).assignable cell.cls c = s.vm.assignable cell.cls c := by rw [hal.assignable]
  cases hz : s.vm.assignable cell.cls c <;> rw [hz] at hfit' <;> simp [findHandler.go, hx, h0, ha, ht, hcell, hobj, hk1', hk2', hfit', VmOp.dirties, VmOp.acts]
theorem cy_step {s : State} {r : List Frame} {pc : Nat} {vm' : Vm} (hfind : ∀ (Q : Handler → Pre) (E : CtlPost) (d : Bool) (acts : List Action), wp (findHandler f a) Q E e d acts s ↔ Q (.found pc) d acts (s.setVm vm')) :
    (stepThrowing e s a (.java f :: r)).Is ((s.setVm vm').setFrames (.java { f with pc := pc, stack := [.ref a] } :: r)) [] := by
  simp only [stepThrowing, searchFrame, vmDo]
  generalize hr : Sem.go _ e false [] s = res
  obtain ⟨as, rfl, ha⟩ := Sem.eq_ok_of hr (a := Handler.found pc) (s' := s.setVm vm') (acts' := []) (by simp [hfind _ _ _ _])
  exact ⟨rfl, ha⟩
theorem cy_frames (u : State) (vm' : Vm) (F G : List Frame) : ((u.setFrames F).setVm vm').setFrames G = (u.setVm vm').setFrames G := by
  have h1 : (u.setFrames F).setVm vm' = (u.setVm vm').setFrames F := rfl
  rw [h1, State.setFrames_setFrames]
theorem cy_caught {tb : Tables} {s target : State} {g : JFrame} {c : Code} {below : List Frame} (h : At s g.method c below) {pc : Nat} {vm' : Vm}
    (hfind : ∀ (Q : Handler → Pre) (E : CtlPost) (d : Bool) (acts : List Action), wp (findHandler g a) Q E e d acts ((s.setTop g).pushFrame (.throwing a)) ↔ Q (.found pc) d acts (((s.setTop g).pushFrame (.throwing a)).setVm vm'))
    (hrest : Steps tb e below ((s.setVm vm').setTop { g with pc := pc, stack := [.ref a] }) target) : Steps tb e below ((s.setTop g).pushFrame (.throwing a)) target := by
  obtain ⟨hgo, hw⟩ := h.throwing a
  refine Steps.head hgo hw ?_
  rw [stepThread_throwing (frames_entered h.top _), (cy_step (s := (s.setTop g).pushFrame (.throwing a)) hfind).1]
  obtain ⟨g₀, hg⟩ := Option.isSome_iff_exists.mp h.top
  obtain ⟨r, hr⟩ := State.topJava?_eq_some.mp hg
  have hr' : (s.setVm vm').frames = .java g₀ :: r := hr
  rw [State.setTop_of_frames _ hr'] at hrest
  rw [hr, List.tail_cons, State.pushFrame, cy_frames, State.setTop_of_frames _ hr, cy_frames]
  exact hrest
/-- the words of the handlers -/
theorem hcl_ok : ∀ q ∈ hcl, q.1 ≠ 0 ∧ (exn[q.2]?).any (fun n => decide (Cond.classLink "TapeVaultLaw" q.1 n ∈ lw_tbl)) = true := by decide +kernel
theorem exn_cast : ∀ n ∈ exn, Cond.castable n n ∈ lw_tbl := by decide +kernel
theorem exn_nd : ∀ i < 4, ∀ j < 4, i ≠ j → exn[i]? ≠ exn[j]? := by decide +kernel
theorem lookup_mem {l : List (Nat × Nat)} {a b : Nat} (h : l.lookup a = some b) : (a, b) ∈ l := by
  induction l with
  | nil => cases h
  | cons q t ih =>
    obtain ⟨x, y⟩ := q
    rw [List.lookup_cons] at h
    split at h
    · rename_i hz
      cases h
      rw [beq_iff_eq] at hz
      rw [hz]
      exact List.mem_cons_self
    · exact List.mem_cons_of_mem _ (ih h)
theorem cy_go {D : va_G} {dA : FieldType → ClassId} {s₀ : State} (hW0 : Wd D dA s₀) (hown : s₀.vm.findClass "TapeVaultLaw" = some f.method.cls) (hpl : e.platform.magicAccessors = ({} : Platform).magicAccessors) {cell : Cell} (hobj : ∀ k, cell.vm ≠ .statics k) {E hp : Nat} {cls : String} (hE : exn[E]? = some cls) (hcl : s₀.vm.findClass cls = some cell.cls) :
    ∀ (hh : List (Nat × Nat × Nat × Nat)) (S : State), s₀.WarmedH S.vm → S.heap[a]? = some cell → fh hh f.pc E = some hp →
      ∃ vm', s₀.WarmedH vm' ∧ ∀ (Q : Handler → Pre) (E' : CtlPost) (d : Bool) (acts : List Action), wp (findHandler.go f a (tableOf hh)) Q E' e d acts S ↔ Q (.found hp) d acts (S.setVm vm') := by
  obtain ⟨k0, hk0, -⟩ := Vm.findClass_spec hcl
  intro hh
  induction hh with
  | nil => intro S _ _ h; cases h
  | cons q t ih =>
    intro S hW hcell hf
    unfold fh at hf
    obtain ⟨k0', hk0', -⟩ := hW.alike.2.2 _ _ hk0
    split at hf
    · rename_i hcov
      have hx : covers (⟨q.1, q.2.1, q.2.2.1, q.2.2.2⟩ : ExceptionTableEntry) f.pc = true := by simp [covers, hcov.1, hcov.2]
      split at hf
      · rename_i F hF
        obtain ⟨h0, hw⟩ := hcl_ok _ (lookup_mem hF)
        cases hn : exn[F]? with
        | none => rw [hn] at hw; cases hw
        | some nm =>
          rw [hn] at hw
          simp only [Option.any_some, decide_eq_true_eq] at hw
          obtain ⟨c5, hc5, hl⟩ := Cond.classLink_spec hown (hW0.word hw rfl (A := #[])) e.platform hpl
          obtain ⟨dk, _, _, kt, hd, _, _, _, _, hkt, _, hopen⟩ := hl.here
          obtain ⟨kt', hkt', -⟩ := hW.alike.2.2 _ _ hkt
          have hW1 := hW.noted hd hopen (State.rightAt_cls hl)
          have key := fun Q E' d acts => cy_link (e := e) (f := f) (a := a) (Q := Q) (E := E') (d := d) (acts := acts) (s := S) (x := ⟨q.1, q.2.1, q.2.2.1, q.2.2.2⟩) (t := tableOf t) (c := c5) (cell := cell) hx h0 (hW.classLinks hl) hcell hobj ⟨k0', hk0'⟩ ⟨kt', hkt'⟩
          split at hf
          · rename_i hFE
            subst hFE
            cases hf
            cases hn.symm.trans hE
            obtain ⟨c3, c4, hc3, hc4, hasg⟩ := Cond.castable_spec (hW0.word (exn_cast cls (List.mem_of_getElem? hE)) rfl (A := #[]))
            cases Option.some.inj (hc3.symm.trans hcl)
            cases Option.some.inj (hc4.symm.trans hc5)
            refine ⟨_, hW1, fun Q E' d acts => ?_⟩
            refine (key Q E' d acts).trans ?_
            rw [hW.alike.assignable, hasg]
            simp
          · rename_i hFE
            have hne : cls ≠ nm := fun z => by
              have hF4 : F < 4 := (List.getElem?_eq_some_iff.mp hn).1
              have hE4 : E < 4 := (List.getElem?_eq_some_iff.mp hE).1
              exact exn_nd F hF4 E hE4 hFE (by rw [hn, hE, z])
            obtain ⟨a8, b8, g1, g2, g3⟩ := hW0.2.2.2.1 cls (List.mem_of_getElem? hE) nm (List.mem_of_getElem? hn) hne
            cases Option.some.inj (g1.symm.trans hcl)
            cases Option.some.inj (g2.symm.trans hc5)
            obtain ⟨vm', hW', hq⟩ := ih (S.setVm (S.vm.noted f.method.cls q.2.2.2 (.cls c5))) hW1 hcell hf
            refine ⟨vm', hW', fun Q E' d acts => ?_⟩
            refine (key Q E' d acts).trans ?_
            rw [hW.alike.assignable, g3]
            exact hq Q E' d acts
      · cases hf
    · rename_i hcov
      obtain ⟨vm', hW', hq⟩ := ih S hW hcell hf
      refine ⟨vm', hW', fun Q E' d acts => ?_⟩
      show wp (findHandler.go f a (⟨q.1, q.2.1, q.2.2.1, q.2.2.2⟩ :: tableOf t)) Q E' e d acts S ↔ _
      rw [W.findHandler_go_skip (by simp only [covers, Bool.and_eq_false_iff, decide_eq_false_iff_not]; by_cases z : q.1 ≤ f.pc; exact Or.inr (fun y => hcov ⟨z, y⟩); exact Or.inl z)]
      exact hq Q E' d acts
end Cy
section CyW
variable {D : va_G} {dA : FieldType → ClassId} {base b L : Nat} {xs : Nat → Int32} {n0 s0 nL : Nat} {own : String} {cc : ByteArray}
variable {p : Program} {l : Launch} {e : Env} {R : Room} {s : State} {m : MethodId} {args : Array Value} {below : List Frame} {meth : Method} {c : Code} {Q : State → Prop}
variable {H : Heap} {locs : List Loc} {cells slots pc : Nat} {ls : Array Slot} {rest : List Value} {h : AH}
/-- caught by the method's own table -/
theorem cy_catch (hW0 : Wd D dA s) (hown : s.vm.findClass "TapeVaultLaw" = some m.cls) {hh : List (Nat × Nat × Nat × Nat)} (htab : c.exceptionTable.toList = tableOf hh) {E hp : Nat} {cls : String} {ce : Cell} {q : Addr} (hE : exn[E]? = some cls) (hcell : H[q]? = some ce) (hv : ce.vm = .none) (hcl : s.vm.findClass cls = some ce.cls) (hf : fh hh pc E = some hp)
    (kk : W p l e R s m args below meth c H locs cells slots Q (F0 m hp ls [.ref q])) : vx_W p l e R s m args below meth c H locs cells slots Q (F0 m pc ls rest) q := by
  intro T hT X
  have hpl : e.platform.magicAccessors = ({} : Platform).magicAccessors := by rw [X.admits.platform]
  obtain ⟨vm', hW', hq⟩ := cy_go (e := e) (f := F0 m pc ls rest) (a := q) hW0 hown hpl (cell := ce) (fun k z => by rw [hv] at z; cases z) hE hcl hh ((T.setTop (F0 m pc ls rest)).pushFrame (.throwing q)) X.warmed (show T.heap[q]? = some ce by rw [hT]; exact hcell) hf
  obtain ⟨t, a1, b1⟩ := kk (T.setVm vm') hT (X.noted hW')
  refine ⟨t, ?_, b1⟩
  refine cy_caught (g := F0 m pc ls rest) X.here (vm' := vm') (pc := hp) (fun Q E' d acts => ?_) a1
  rw [W.findHandler_eq (meth := meth) (code := c) X.method' X.code, htab]
  exact hq Q E' d acts
end CyW
section VyT
variable {p : Program} {l : Launch} {e : Env} {R : Room} {s : State} {m : MethodId} {args : Array Value} {below : List Frame} {meth : Method} {c : Code} {H : Heap} {locs : List Loc} {cells slots : Nat} {Q : State → Prop}
variable {mc ms : Nat} {free : Addr → Prop} {A0 A1 : Nat → Prop} {H0 : Heap} {a : Array Value} {ls : Array Slot} {st0 rest : List Value}
variable {Qc : Array Value → State → Outcome → State → Prop} {XC : String → State → State → Prop}
/-- 'throw new E()', with the heap's size behind it -/
theorem vy_throw0 {cc : ByteArray} {pc : Nat} (hexec : p.tables.exec = Jvm.exec) (hb : c.code = cc) (hl : l.stackTraces = false) {own cls : String} {names : List String} {ik ic mc ms : Nat} {A : Nat → Prop}
    (hown : s.vm.findClass own = some m.cls) (hcls : Bundle.fit cls = true) (hnames : ∀ n ∈ names, Bundle.fit n = true)
    (hk : (Cond.classLink own ik cls).before args s = true) (hini : (Cond.initialized cls).before args s = true) (hat : ∀ w ∈ vx_at0 own ic cls names, w.before args s = true)
    (hgood : ∀ w ∈ Cond.classLink own ik cls :: Cond.initialized cls :: vx_at0 own ic cls names, vx_ot w = true)
    (hU : vx_Zq Bundle.tN "UNASSIGNED_STACK" Bundle.steD A s s.heap) (hN : vx_Zq Bundle.tN "SUPPRESSED_SENTINEL" Bundle.listD A s s.heap) (hS : va_S A s.heap H locs) (hsize : ls.size = c.maxLocals)
    (d0 : decode cc pc = .ok (.new ik, 3)) (d3 : decode cc (pc + 3) = .ok (.dup, 1)) (d4 : decode cc (pc + 4) = .ok (.invokespecial ic, 3)) (d7 : decode cc (pc + 7) = .ok (.athrow, 1))
    (hout : ∀ x ∈ c.exceptionTable.toList, covers x (pc + 7) = false)
    (hRframes : names.length + 3 < R.frames) (hRlocals : (rest.map fun v => v.category).sum + (13 * (names.length + 1) + 42) ≤ R.locals) (hRcells : cells + 1 ≤ R.cells) (hRslots : slots + 6 ≤ R.slots) (hlocks : meth.locks = false)
    (hx : ∀ t : State, s.vm.Alike t.vm → t.heap.size = H.size + 1 → (∀ q : Nat, q < H.size → t.heap[q]? = H[q]?) → XC cls s t)
    (hf : ∀ z ∈ locs, free z.base) (hc : cells + 1 ≤ mc) (hs : slots + 6 ≤ ms) :
    W p l e R s m args below meth c H locs cells slots (vx_MQ below Qc XC args s mc ms free) (F0 m pc ls rest) := by
  intro T hT X
  have htr : e.platform.stackTraces = false := (show e.platform.stackTraces = l.stackTraces by rw [X.admits.platform]).trans hl
  have Y := vx_rebase X (R' := { frames := R.frames, locals := R.locals, cells := 1, slots := 6 }) (Nat.le_refl _) (Nat.le_refl _) hRcells hRslots
  obtain ⟨s', hA⟩ : ∃ z, z = (T.setVm s.vm).setFrames (.invoking m args :: below) := ⟨_, rfl⟩
  rw [← hA] at Y
  have hvm : s'.vm = s.vm := by rw [hA]; rfl
  have hhp : s'.heap = H := by rw [hA]; exact hT
  have hW0 : s.WarmedH s'.vm := by rw [hvm]; exact State.WarmedH.refl s
  have hat' : ∀ w ∈ vx_at0 own ic cls names, w.before args s' = true := fun w hw => vx_ot_at hW0 hvm.symm (hgood w (List.mem_cons_of_mem _ (List.mem_cons_of_mem _ hw))) (hat w hw)
  have hk' : (Cond.classLink own ik cls).before args s' = true := vx_ot_at hW0 hvm.symm (hgood _ List.mem_cons_self) hk
  have hini' : (Cond.initialized cls).before args s' = true := vx_ot_at hW0 hvm.symm (hgood _ (List.mem_cons_of_mem _ List.mem_cons_self)) hini
  have hU' : vx_Zq Bundle.tN "UNASSIGNED_STACK" Bundle.steD A s' s'.heap := by rw [hhp]; exact vx_Zq.moved hW0.alike (hU.kept hS.2.1)
  have hN' : vx_Zq Bundle.tN "SUPPRESSED_SENTINEL" Bundle.listD A s' s'.heap := by rw [hhp]; exact vx_Zq.moved hW0.alike (hN.kept hS.2.1)
  have h : ∀ w ∈ Bundle.ownAtoms0 own ic cls names, w.before args s' = true := vx_own hat' (vx_isRefq hU'.1) (vx_isRefq hN'.1) hU'.2.word hN'.2.word
  have hown' : s'.vm.findClass own = some m.cls := by rw [hvm]; exact hown
  have hins : (Cond.instantiable cls 6).before args s' = true := h _ (by simp [Bundle.ownAtoms0])
  obtain ⟨vm₁, cX, kX, hfX, hkX, -, -, X₁, st1⟩ := Y.newCold hexec (own := own) (C := cls) (index := ik) (n := 6) hown' hk' hins hini'
    (g := F0 m pc ls rest) rfl (by rw [hb]; exact d0) (Nat.le_refl _) (Nat.le_refl _)
  generalize hT1 : (T.setVm vm₁).pushCell { cls := cX, slots := kX.instanceTypes.map defaultValue, vm := .none } = T1 at X₁ st1
  have hcat : (Value.ref T.heap.size).category = 1 := rfl
  have hcellA : T1.heap[T.heap.size]? = some (freshCell cX kX) := by rw [← hT1]; exact State.heap_pushCell_size _ _
  have d3' : decode c.code (pc + 3) = .ok (.dup, 1) := by rw [hb]; exact d3
  obtain ⟨U, hsteps, hrun, hend, hW, hsame, ce, hce, hO⟩ := X₁.ctorThrow0 hexec htr (own := own) (cls := cls) (names := names) (ic := ic) hown' hcls hnames h (fun x hx => nomatch hx) hfX hkX hcellA (by rw [hhp, hT]; exact Nat.le_refl _)
    (g := { method := m, pc := pc + 4, locals := ls, stack := .ref T.heap.size :: .ref T.heap.size :: rest, locked := none }) rfl hsize rfl rfl (rest := rest) rfl
    (by rw [hb]; exact d4) (by rw [hb]; exact d7) hout hRframes (by simp only [List.map_cons, List.sum_cons, hcat]; omega) hlocks
  obtain ⟨f1, f2⟩ := vx_frame hsame
  have f3 : U.heap.size = H.size + 1 := by
    have u1 : U.heap.size ≤ s'.heap.size + (0 + 1) := hsame.2.2.1
    have u2 : T.heap.size < U.heap.size := (Array.getElem?_eq_some_iff.mp hce).1
    rw [hhp] at u1
    rw [hT] at u2
    omega
  rw [hhp] at f1 f2
  have hWs : s.WarmedH U.vm := State.WarmedH.trans hW0 hW
  have hcl : s.vm.findClass cls = some ce.cls := by
    have h9 := hO.cls
    rw [hvm] at h9
    exact h9
  have hall : s.sameButNew ({ U with vm := s.vm } : State) locs mc ms := by
    subst hA
    obtain ⟨e1, e2⟩ := hsame
    rw [State.setFrames_setFrames] at e1
    have h2 : (T.setVm s.vm).sameButNew ({ U with vm := s.vm } : State) [] (0 + 1) (0 + 6) := ⟨e1, e2⟩
    have h3 := X.same.trans h2
    rw [List.append_nil] at h3
    exact h3.mono hc hs
  refine ⟨U, ?_, .threw T.heap.size, hrun, hend, Or.inr ⟨T.heap.size, rfl, cls, ce, locs, hx U hWs.alike f3 (fun q hq => f2 q hq (fun z hz => nomatch hz)), hce, hO.vm, hcl, hWs, hall, hf⟩⟩
  refine st1 _ ?_
  show Steps p.tables e below (T1.setTop { method := m, pc := pc + 3, locals := ls, stack := .ref T.heap.size :: rest, locked := none }) _
  jvm_step X₁.here [X₁.here.top, hexec, d3', Value.category]
  exact hsteps
end VyT
