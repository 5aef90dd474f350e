/-! the run again, piece by piece over what comes behind it -/
abbrev RF : Type := Nat → MI → Nat → List (Option Value) → List Value → AH → Option (AH × RO)
def stF (sb sL : Nat) (sx : Nat → Int32) (rc : RF) (d : Nat) (M : MI) (ins : Instr) (nx : Nat) (ri : List Nat) (lv : List (Option Value)) (st : List Value) (h : AH) : Option (AH × RO) := match stp sb sL sx (mL M) ins nx ri lv st h with
  | some z => rc d M z.1 z.2.1 z.2.2.1 z.2.2.2
  | none => none
def fiF (M : MI) (ins : Instr) (st : List Value) (h : AH) : Option (AH × RO) := match retV (mR M) ins st with
  | some v => some (h, .inl v)
  | none => none
/-- behind a callee that has thrown -/
def ctF (rc : RF) (d : Nat) (M : MI) (pc : Nat) (lv : List (Option Value)) (h : AH) (E : Nat) : Option (AH × RO) := if (mY M).cls = "TapeVaultLaw" then (match fh (mH M) pc E with
  | none => none
  | some hp => match fet (mE M) hp with
    | some (.astore_n q, nx2, _) => if (q : Nat) < mL M then rc d M nx2 ((lv1 lv q .null).set q none) [] h else none
    | some (.astore q, nx2, _) => if q < mL M then rc d M nx2 ((lv1 lv q .null).set q none) [] h else none
    | _ => none) else none
/-- System.arraycopy between two arrays of one type, whose elements are of that type -/
def acq (st : List Value) (h : AH) : Option (List Value × AH) := match st with
  | .int n :: .int dp :: .ref a :: .int sp :: .ref a0 :: r => match h.2.2 a0, h.2.2 a with
    | some (.inl (t0, n0, f)), some (.inl (t1, n1, g)) => if t0 = t1 ∧ (t0 = .long ∨ t0 = .byte) ∧ ¬ sp < 0 ∧ ¬ dp < 0 ∧ ¬ n < 0 ∧ sp.toNatClampNeg + n.toNatClampNeg ≤ n0 ∧ dp.toNatClampNeg + n.toNatClampNeg ≤ n1 ∧ (∀ i, i < n.toNatClampNeg → fits t0 (f (sp.toNatClampNeg + i)) = true) then some (r, hput h a (.inl (t1, n1, va_cpy f g sp.toNatClampNeg dp.toNatClampNeg n.toNatClampNeg))) else none
    | _, _ => none
  | _ => none
/-- a call of a method of the tables -/
def cdF (rc : RF) (d : Nat) (M : MI) (pc nx kd na k : Nat) (t : List Nat) (lv : List (Option Value)) (st : List Value) (h : AH) : Option (AH × RO) := match d with
  | 0 => none
  | d' + 1 => match popN na st with
    | none => none
    | some z => match tgtM kd k t z.2 h with
      | none => none
      | some y => match mt[y.1]? with
        | none => none
        | some M' => if ((y.2.1 ++ z.1).flatMap ent1).length ≤ mL M' ∧ wsum y.2.2 ≤ 8 then (match rc d' M' 0 (ent (mL M') (y.2.1 ++ z.1)) [] h with
            | none => none
            | some (h1, .inl v) => rc (d' + 1) M nx lv (v.toList ++ y.2.2) h1
            | some (h1, .inr E) => if kd = 9 then ctF rc (d' + 1) M pc lv h1 E else none)
          else none
def caF (rc : RF) (d : Nat) (M : MI) (pc nx : Nat) (ri : List Nat) (lv : List (Option Value)) (st : List Value) (h : AH) : Option (AH × RO) := match ri with
  | 10 :: _ => match st with
    | .ref _ :: r => if 1 ≤ d ∧ wsum r ≤ 8 then rc d M nx lv r h else none
    | _ => none
  | 7 :: _ => match acq st h with
    | some z => if 2 ≤ d ∧ wsum z.1 ≤ 8 then rc d M nx lv z.1 z.2 else none
    | none => none
  | 11 :: _ => match st with
    | .int y :: .int x :: r => if 1 ≤ d ∧ wsum r ≤ 8 then rc d M nx lv (.int (if x < y then y else x) :: r) h else none
    | _ => none
  | 12 :: _ => match st with
    | .int y :: .int x :: r => if 1 ≤ d ∧ wsum r ≤ 8 then rc d M nx lv (.int (if y < x then y else x) :: r) h else none
    | _ => none
  | kd :: na :: k :: t => cdF rc d M pc nx kd na k t lv st h
  | _ => none
def muT : Nat → Option FieldType
  | 6 => some .byte
  | 7 => some .boolean
  | 8 => some .int
  | _ => none
def mchk (M : MI) (pc i nx w : Nat) (ty : FieldType) : Bool := decide (decode (mB M) pc = .ok (.multianewarray i 2, 4)) && decide (lw_tbl[w]? = some (.classLink (mY M).cls i ("[" ++ (FieldType.array ty).toString))) && decide (nx = pc + 4)
def muG (rc : RF) (d : Nat) (M : MI) (pc i nx : Nat) (ty : FieldType) (w : Nat) (lv : List (Option Value)) (st : List Value) (h : AH) : Option (AH × RO) := match st with
  | .int k :: .int n :: r => if mchk M pc i nx w ty = true ∧ ¬ n < 0 ∧ ¬ k < 0 ∧ n.toNatClampNeg ≤ 100000 ∧ k.toNatClampNeg ≤ 100000 then rc d M nx lv (.ref h.1 :: r) (hmul h ty n.toNatClampNeg k.toNatClampNeg) else none
  | _ => none
def muF (rc : RF) (d : Nat) (M : MI) (pc i nx : Nat) (ri : List Nat) (lv : List (Option Value)) (st : List Value) (h : AH) : Option (AH × RO) := match ri with
  | t :: w :: _ => match muT t with
    | some ty => muG rc d M pc i nx ty w lv st h
    | none => none
  | _ => none
def dpF (sb sL : Nat) (sx : Nat → Int32) (rc : RF) (d : Nat) (M : MI) (pc : Nat) (ins : Instr) (nx : Nat) (ri : List Nat) (lv : List (Option Value)) (st : List Value) (h : AH) : Option (AH × RO) := match ins with
  | .ireturn => fiF M ins st h
  | .lreturn => fiF M ins st h
  | .areturn => fiF M ins st h
  | .return_ => fiF M ins st h
  | .invokevirtual _ => caF rc d M pc nx ri lv st h
  | .invokespecial _ => caF rc d M pc nx ri lv st h
  | .invokestatic _ => caF rc d M pc nx ri lv st h
  | .multianewarray i _ => muF rc d M pc i nx ri lv st h
  | .new _ => match ri with
    | [50, E, _, _] => if 5 < d ∧ wsum st ≤ 8 then some (hskip h 6, .inr E) else none
    | _ => stF sb sL sx rc d M ins nx ri lv st h
  | _ => stF sb sL sx rc d M ins nx ri lv st h
def rnF (sb sL : Nat) (sx : Nat → Int32) : Nat → RF
  | 0 => fun _ _ _ _ _ _ => none
  | n + 1 => fun d M pc lv st h => match fet (mE M) pc with
    | none => none
    | some q => dpF sb sL sx (rnF sb sL sx n) d M pc q.1 q.2.1 q.2.2 lv st h
section SndR
variable {D : va_G} {dA : FieldType → ClassId} {base b L : Nat} {xs : Nat → Int32} {l : Launch}
/-- how a frame ends -/
def FinW (D : va_G) (dA : FieldType → ClassId) (base n0 s0 : Nat) (M : MI) (p : Program) (l : Launch) (e : Env) (R : Room) (s : State) (m : MethodId) (args : Array Value) (below : List Frame) (meth : Method) (c : Code) (Q : State → Prop) (h' : AH) (o : RO) : Prop := match o with
  | .inl v => ∀ (H : Heap) (locs : List Loc) (cells slots : Nat) (ls : Array Slot) (pc : Nat) (st : List Value) (ins : Instr), Rp D dA base h' H → va_S (fun q => base ≤ q) s.heap H locs → cells + n0 = h'.1 → slots + s0 = h'.2.1 → retV (mR M) ins st = some v → decode (mB M) pc = .ok (ins, 1) → W p l e R s m args below meth c H locs cells slots Q (F0 m pc ls st)
  | .inr E => ∀ (h0 : AH) (H : Heap) (locs : List Loc) (cells slots : Nat) (ls : Array Slot) (pc : Nat) (st : List Value) (ik nx ic w : Nat), h' = hskip h0 6 → Rp D dA base h0 H → va_S (fun q => base ≤ q) s.heap H locs → ls.size = mL M → cells + n0 = h0.1 → slots + s0 = h0.2.1 → 5 < R.frames → wsum st ≤ 8 → eokx M (pc, .new ik, nx, [50, E, ic, w]) = true → W p l e R s m args below meth c H locs cells slots Q (F0 m pc ls st)
/-- a frame's surroundings are good -/
def Gd (D : va_G) (dA : FieldType → ClassId) (base b L : Nat) (xs : Nat → Int32) (n0 s0 : Nat) (M : MI) (p : Program) (l : Launch) (e : Env) (R : Room) (s : State) (m : MethodId) (args : Array Value) (below : List Frame) (meth : Method) (c : Code) (Q : State → Prop) (d : Nat) (h' : AH) (o : RO) : Prop :=
  Cx D dA base b L xs (mY M).cls (mB M) (mL M) p s m meth c ∧ ((mY M).name = "<init>" → meth.name = "<init>") ∧ c.exceptionTable.toList = tableOf (mH M) ∧ R.frames = d ∧ 28 * d ≤ R.locals ∧ h'.1 ≤ n0 + R.cells ∧ h'.2.1 ≤ s0 + R.slots ∧ FinW D dA base n0 s0 M p l e R s m args below meth c Q h' o
/-- what the abstract run comes to, the machine comes to -/
def Ok (D : va_G) (dA : FieldType → ClassId) (base b L : Nat) (xs : Nat → Int32) (l : Launch) (d : Nat) (M : MI) (pc : Nat) (lv : List (Option Value)) (st : List Value) (h : AH) (h' : AH) (o : RO) : Prop :=
  (h.1 ≤ h'.1 ∧ h.2.1 ≤ h'.2.1) ∧ ∀ (p : Program) (e : Env) (R : Room) (s : State) (m : MethodId) (args : Array Value) (below : List Frame) (meth : Method) (c : Code) (Q : State → Prop) (n0 s0 : Nat), Gd D dA base b L xs n0 s0 M p l e R s m args below meth c Q d h' o → KK D dA base n0 s0 (mL M) p l e R s m args below meth c Q pc lv st h
def Snd (D : va_G) (dA : FieldType → ClassId) (base b L : Nat) (xs : Nat → Int32) (l : Launch) (rc : RF) : Prop := ∀ (d : Nat) (M : MI) (pc : Nat) (lv : List (Option Value)) (st : List Value) (h h' : AH) (o : RO), mokb M = true → rc d M pc lv st h = some (h', o) → Ok D dA base b L xs l d M pc lv st h h' o
theorem eok_of {M : MI} {pc nx : Nat} {ins : Instr} {ri : List Nat} (h : eokx M (pc, ins, nx, ri) = true) (h1 : ∀ ik, ins = .new ik → ∀ r, ri ≠ 50 :: r) (h2 : ∀ i j, ins ≠ .multianewarray i j) : eok (mY M).cls (mB M) (decide ((mY M).name = "<init>")) (pc, ins, nx, ri) = true ∧ cok (mY M).cls (mB M) (pc, ins, nx, ri) = true := by
  unfold eokx at h
  split at h
  · rename_i ik r e1 e2
    exact absurd e2 (h1 ik e1 r)
  · exact absurd ‹_ = Instr.multianewarray _ _› (h2 _ _)
  · rwa [Bool.and_eq_true] at h
theorem st_ok {rc : RF} (hS : Snd D dA base b L xs l rc) {d : Nat} {M : MI} {pc nx : Nat} {ins : Instr} {ri : List Nat} {lv : List (Option Value)} {st : List Value} {h h' : AH} {o : RO} (hM : mokb M = true) (he : eok (mY M).cls (mB M) (decide ((mY M).name = "<init>")) (pc, ins, nx, ri) = true) (hr : stF b L xs rc d M ins nx ri lv st h = some (h', o)) : Ok D dA base b L xs l d M pc lv st h h' o := by
  unfold stF at hr
  cases hz : stp b L xs (mL M) ins nx ri lv st h with
  | none => rw [hz] at hr; cases hr
  | some z =>
    rw [hz] at hr
    obtain ⟨m1, k1⟩ := hS d M z.1 z.2.1 z.2.2.1 z.2.2.2 h' o hM hr
    have m2 := stp_mono hz
    refine ⟨⟨Nat.le_trans m2.1 m1.1, Nat.le_trans m2.2 m1.2⟩, fun p e R s m args below meth c Q n0 s0 g => ?_⟩
    exact stp_ok g.1 (fun q => g.2.1 (of_decide_eq_true q)) he hz ⟨Nat.le_trans m1.1 g.2.2.2.2.2.1, Nat.le_trans m1.2 g.2.2.2.2.2.2.1⟩ (k1 p e R s m args below meth c Q n0 s0 g)
theorem fi_ok {d : Nat} {M : MI} {pc nx : Nat} {ins : Instr} {ri : List Nat} {lv : List (Option Value)} {st : List Value} {h h' : AH} {o : RO} (hdg : decode (mB M) pc = .ok (ins, 1)) (hr : fiF M ins st h = some (h', o)) : Ok D dA base b L xs l d M pc lv st h h' o := by
  unfold fiF at hr
  cases hv : retV (mR M) ins st with
  | none => rw [hv] at hr; cases hr
  | some v =>
    rw [hv] at hr
    cases hr
    refine ⟨⟨Nat.le_refl _, Nat.le_refl _⟩, fun p e R s m args below meth c Q n0 s0 g => ?_⟩
    intro H locs cells slots ls hR hS hL hc hl
    exact g.2.2.2.2.2.2.2 H locs cells slots ls pc st ins hR hS hc hl hv hdg
/-- a callee that returns, by its contract -/
theorem met_of {rc : RF} (hS : Snd D dA base b L xs l rc) {d : Nat} {M : MI} {as : List Value} {h h1 : AH} {v : Option Value} (hm : M ∈ mt) (hy : plainName (mY M).cls = true) (hlen : (as.flatMap ent1).length ≤ mL M) (hr : rc d M 0 (ent (mL M) as) [] h = some (h1, .inl v)) :
    Met l (mY M) [cwd M] ({ frames := d, cells := h1.1 - h.1, slots := h1.2.1 - h.2.1, locals := 28 * d }) (va_Pc as (PreU D dA base b L xs h)) (QU D dA base h1 v) (h1.1 - h.1) (h1.2.1 - h.2.1) (fun q => base ≤ q) := by
  have hok := mok_all M hm
  obtain ⟨m1, k1⟩ := hS d M 0 _ _ h h1 _ hok hr
  have body : ∀ (p : Program) (e : Env) (s : State) (m : MethodId) (args : Array Value) (below : List Frame) (meth : Method) (c : Code) (s₁ : State), BodyLoose p l (mY M) (headSpec [cwd M] ({ frames := d, cells := h1.1 - h.1, slots := h1.2.1 - h.2.1, locals := 28 * d })) (mB M) (mL M) (mR M) e s m args below meth c s₁ → c.maxLocals = mL M → c.exceptionTable.toList = tableOf (mH M) → va_Pc as (PreU D dA base b L xs h) args s →
      W p l e (headSpec [cwd M] ({ frames := d, cells := h1.1 - h.1, slots := h1.2.1 - h.2.1, locals := 28 * d })).room s m args below meth c s.heap [] 0 0 (MQ below (QU D dA base h1 v) args s (h1.1 - h.1) (h1.2.1 - h.2.1) (fun q => base ≤ q)) (entryFrame m args (mL M)) := by
    intro p e s m args below meth c s₁ B hml htab hv
    obtain ⟨rfl, hW, hH, hR⟩ := hv
    rw [lg_entry_eq]
    refine k1 p e _ s m as.toArray below meth c _ h.1 h.2.1 ⟨⟨B.exec, B.bytes, hml, findClass_of_methodNamed B.named, hW, hH, B.notSynchronized⟩, fun q => ?_, htab, rfl, Nat.le_refl _, ?_, ?_, ?_⟩ s.heap [] 0 0 _ hR va_S.rf (LV.entry hlen) (Nat.zero_add _) (Nat.zero_add _)
    · exact (name_of_methodNamed B.named B.method).1.trans q
    · show h1.1 ≤ h.1 + (h1.1 - h.1)
      omega
    · show h1.2.1 ≤ h.2.1 + (h1.2.1 - h.2.1)
      omega
    · intro H locs cells slots ls pc st ins hR1 hS1 hc hl hv hdg
      have ec : cells = h1.1 - h.1 := by omega
      have el : slots = h1.2.1 - h.2.1 := by omega
      subst ec el
      exact ret_ok B.exec B.bytes B.returns B.notSynchronized hv hdg (fun t ht _ => ⟨rfl, by rw [ht]; exact hR1, hS1.F ht⟩) hS1.2.2
  cases hH : mH M with
  | nil =>
    have hc : cwd M = .code (mY M) (mB M) (mL M) (mR M) := by unfold cwd; rw [hH]
    refine Met.ofW (cc := mB M) (maxL := mL M) (ret := mR M) (ws' := []) hy (by rw [hc]) ?_
    intro p e s m args below meth c s₁ B hml hv
    refine body p e s m args below meth c s₁ B hml ?_ hv
    obtain ⟨meth9, c9, g1, g2, -, -, -, -, g7, -⟩ := Cond.code_spec B.named (atoms_spec (ws := [cwd M]) B.pre _ (by rw [hc]; exact List.mem_singleton.mpr rfl))
    cases Option.some.inj (g1.symm.trans B.method)
    cases Option.some.inj (g2.symm.trans (Stand.of_body B).code)
    rw [hH, Array.isEmpty_iff.mp g7]
    rfl
  | cons q t =>
    have hc : cwd M = .codeWith (mY M) (mB M) (mL M) (mR M) (mH M) := by unfold cwd; rw [hH]
    refine va_MetW (cc := mB M) (maxL := mL M) (ret := mR M) (hh := mH M) (ws' := []) hy (by rw [hc]) ?_
    intro p e s m args below meth c s₁ B hml hv
    exact body p e s m args below meth c s₁ B hml (vx_table (x := mY M) B (atoms_spec (ws := [cwd M]) B.pre _ (by rw [hc]; exact List.mem_singleton.mpr rfl))) hv
end SndR
