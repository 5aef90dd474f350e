/-! calls -/
section SndC
variable {D : va_G} {dA : FieldType → ClassId} {base b L : Nat} {xs : Nat → Int32} {l : Launch}
theorem yok_inv {y : MethodName} {na : Nat} (h : yok y na = true) : (y.cls ≠ "java/lang/invoke/MethodHandle" ∧ y.cls ≠ "java/lang/invoke/VarHandle") ∧ (∀ sig, parseMethodDescriptor y.desc = some sig → na = sig.parameters.length) ∧ plainName y.cls = true := by
  simp only [yok, Bool.and_eq_true, decide_eq_true_eq] at h
  obtain ⟨⟨⟨h1, h2⟩, h3⟩, h4⟩ := h
  refine ⟨⟨h1, h2⟩, fun sig hs => ?_, h4⟩
  rw [hs] at h3
  exact (Option.some.inj h3).symm
theorem wis_inv {i : Nat} {w : Cond} (h : wis i w = true) : lw_tbl[i]? = some w := of_decide_eq_true h
/-- what every call has: the callee's contract, its room -/
theorem room_ok {R : Room} {d mL' : Nat} (h1 : R.frames = d + 1) (h2 : 28 * (d + 1) ≤ R.locals) (h3 : mL' ≤ 9) : d + 1 ≤ R.frames ∧ 8 + (mL' + 11) + 28 * d ≤ R.locals := ⟨by omega, by omega⟩
/-- the call's end, for all kinds: r1 is the machine's run of the callee -/
theorem cd_fin {rc : RF} (hS : Snd D dA base b L xs l rc) {d : Nat} {M : MI} {pc nx : Nat} {lv : List (Option Value)} {st rest : List Value} {h h1 h' : AH} {o : RO} {v : Option Value} {as : List Value} (hM : mokb M = true) (hnx : nx = pc + 3) (m1 : h.1 ≤ h1.1 ∧ h.2.1 ≤ h1.2.1) (hr : rc (d + 1) M nx lv (v.toList ++ rest) h1 = some (h', o))
    (r1 : ∀ (p : Program) (e : Env) (R : Room) (s : State) (m : MethodId) (args : Array Value) (below : List Frame) (meth : Method) (c : Code) (H : Heap) (locs : List Loc) (cells slots : Nat) (ls : Array Slot), Cx D dA base b L xs (mY M).cls (mB M) (mL M) p s m meth c → R.frames = d + 1 → 28 * (d + 1) ≤ R.locals → Rp D dA base h H → va_S (fun q => base ≤ q) s.heap H locs → ls.size = mL M → cells + (h1.1 - h.1) ≤ R.cells ∧ slots + (h1.2.1 - h.2.1) ≤ R.slots →
      va_Run p l e R s m args below meth c H locs cells slots (h1.1 - h.1) (h1.2.1 - h.2.1) (F0 m pc ls st) rest (QU D dA base h1 v as.toArray) (fun q => base ≤ q)) : Ok D dA base b L xs l (d + 1) M pc lv st h h' o := by
  obtain ⟨m2, k2⟩ := hS (d + 1) M nx lv _ h1 h' o hM hr
  refine ⟨⟨Nat.le_trans m1.1 m2.1, Nat.le_trans m1.2 m2.2⟩, fun p e R s m args below meth c Q n0 s0 g => ?_⟩
  intro H locs cells slots ls hR hS1 hL hc hl
  have g5 := g.2.2.2.2.2.1
  have g6 := g.2.2.2.2.2.2.1
  subst hnx
  exact after_call (h := h) (r1 p e R s m args below meth c H locs cells slots ls g.1 g.2.2.2.1 g.2.2.2.2.1 hR hS1 (hL.2.1) ⟨by omega, by omega⟩) hS1 hL hc hl (by omega) (by omega) (k2 p e R s m args below meth c Q n0 s0 g)
/-- the parts of a callee's words that all kinds ask -/
theorem cw_parts {M' : MI} (hm : M' ∈ mt) (hH : mH M' = []) {s : State} {args : Array Value} (hW : Wd D dA s) : cwd M' = .code (mY M') (mB M') (mL M') (mR M') ∧ (∀ w ∈ [Cond.code (mY M') (mB M') (mL M') (mR M')], ∀ (a' : Array Value) (U : State), s.WarmedH U.vm → w.before a' U = true) ∧ (Cond.code (mY M') (mB M') (mL M') (mR M')).before args s = true := by
  have hc : cwd M' = .code (mY M') (mB M') (mL M') (mR M') := by unfold cwd; rw [hH]
  have hw := cw_all M' hm
  rw [hc] at hw
  exact ⟨hc, ws_later hW hw rfl, hW.word hw rfl⟩
/-- a static call -/
theorem cd_static {rc : RF} (hS : Snd D dA base b L xs l rc) {d : Nat} {M M' : MI} {pc nx idx na k w1 w2 w3 : Nat} {nest : Bool} {lv : List (Option Value)} {st rest : List Value} {h h1 h' : AH} {o : RO} {v : Option Value} {as : List Value} (hM : mokb M = true) (hdg : decode (mB M) pc = .ok (.invokestatic idx, 3)) (hnx : nx = pc + 3) (hk : mt[k]? = some M') (hok : cokS (mY M).cls idx nest false na k w1 w2 w3 = true) (hn : as.length = na) (hst : st = as.reverse ++ rest)
    (hlen : (as.flatMap ent1).length ≤ mL M') (hw : wsum rest ≤ 8) (hr1 : rc d M' 0 (ent (mL M') as) [] h = some (h1, .inl v)) (hr : rc (d + 1) M nx lv (v.toList ++ rest) h1 = some (h', o)) : Ok D dA base b L xs l (d + 1) M pc lv st h h' o := by
  have hm := List.mem_of_getElem? hk
  simp only [cokS, hk, Option.any_some, Bool.and_eq_true] at hok
  obtain ⟨⟨⟨⟨h1y, h2⟩, h3⟩, h4⟩, h5⟩ := hok
  obtain ⟨y1, y2, y3⟩ := yok_inv h1y
  have hH : mH M' = [] := by simpa using h5
  have hMet := met_of hS hm y3 hlen hr1
  refine cd_fin (as := as) hS hM hnx (hS d M' 0 _ _ h h1 _ (mok_all M' hm) hr1).1 hr fun p e R s m args below meth c H locs cells slots ls cx f1 f2 hR hS1 hsz hf => ?_
  obtain ⟨hx, hb, hml, hown, hW, hHw, hlocks⟩ := cx
  obtain ⟨q1, q2, q3⟩ := cw_parts (args := args) hm hH hW
  rw [q1] at hMet
  obtain ⟨r1, r2⟩ := room_ok f1 f2 (mL_all M' hm)
  cases nest with
  | false =>
    exact va_runS (Ts := []) ⟨hx, hb, hml, hown, fun _ z => nomatch z⟩ hMet ⟨⟨rfl, rfl, r1, r2, q2, List.mem_singleton.mpr rfl, q3, hW.at (wis_inv h4) rfl, y1, y2, hW.at (wis_inv h2) rfl⟩, hW.at (wis_inv h3) rfl⟩ ⟨blindU as, preU hW hHw hR hS1 as⟩ rfl hn hsz hst (lv_room hw) hdg hf
  | true =>
    exact va_runSN (Ts := []) ⟨hx, hb, hml, hown, fun _ z => nomatch z⟩ hMet ⟨⟨⟨rfl, rfl, r1, r2, q2, List.mem_singleton.mpr rfl⟩, q3, hW.at (wis_inv h4) rfl, y1, y2, hW.at (wis_inv h2) rfl⟩, hW.at (wis_inv h3) rfl, trivial⟩ ⟨blindU as, preU hW hHw hR hS1 as⟩ rfl hn hsz hst (lv_room hw) hdg hf
/-- a static call of a method with a table -/
theorem cd_staticW {rc : RF} (hS : Snd D dA base b L xs l rc) {d : Nat} {M M' : MI} {pc nx idx na k w1 w2 w3 : Nat} {lv : List (Option Value)} {st rest : List Value} {h h1 h' : AH} {o : RO} {v : Option Value} {as : List Value} (hM : mokb M = true) (hdg : decode (mB M) pc = .ok (.invokestatic idx, 3)) (hnx : nx = pc + 3) (hk : mt[k]? = some M') (hok : cokS (mY M).cls idx false true na k w1 w2 w3 = true) (hn : as.length = na) (hst : st = as.reverse ++ rest)
    (hlen : (as.flatMap ent1).length ≤ mL M') (hw : wsum rest ≤ 8) (hr1 : rc d M' 0 (ent (mL M') as) [] h = some (h1, .inl v)) (hr : rc (d + 1) M nx lv (v.toList ++ rest) h1 = some (h', o)) : Ok D dA base b L xs l (d + 1) M pc lv st h h' o := by
  have hm := List.mem_of_getElem? hk
  simp only [cokS, hk, Option.any_some, Bool.and_eq_true] at hok
  obtain ⟨⟨⟨⟨h1y, h2⟩, h3⟩, h4⟩, h5⟩ := hok
  obtain ⟨y1, y2, y3⟩ := yok_inv h1y
  have hc : cwd M' = .codeWith (mY M') (mB M') (mL M') (mR M') (mH M') := by
    unfold cwd
    cases hz : mH M' with
    | nil => rw [hz] at h5; simp at h5
    | cons q t => rfl
  have hMet := met_of hS hm y3 hlen hr1
  refine cd_fin (as := as) hS hM hnx (hS d M' 0 _ _ h h1 _ (mok_all M' hm) hr1).1 hr fun p e R s m args below meth c H locs cells slots ls cx f1 f2 hR hS1 hsz hf => ?_
  obtain ⟨hx, hb, hml, hown, hW, hHw, hlocks⟩ := cx
  have hw2 := cw_all M' hm
  rw [hc] at hw2 hMet
  obtain ⟨r1, r2⟩ := room_ok f1 f2 (mL_all M' hm)
  exact vx_runSW (Ts := []) ⟨hx, hb, hml, hown, fun _ z => nomatch z⟩ hMet ⟨⟨rfl, rfl, r1, r2, ws_later hW hw2 rfl, List.mem_singleton.mpr rfl⟩, hW.word hw2 rfl, hW.at (wis_inv h4) rfl, y1, y2, hW.at (wis_inv h2) rfl, hW.at (wis_inv h3) rfl⟩ ⟨blindU as, preU hW hHw hR hS1 as⟩ rfl hn hsz hst (lv_room hw) hdg hf
/-- a constructor's call -/
theorem cd_init {rc : RF} (hS : Snd D dA base b L xs l rc) {d : Nat} {M M' : MI} {pc nx idx na k w1 w2 w3 a : Nat} {nest : Bool} {lv : List (Option Value)} {st rest : List Value} {h h1 h' : AH} {o : RO} {v : Option Value} {as : List Value} (hM : mokb M = true) (hdg : decode (mB M) pc = .ok (.invokespecial idx, 3)) (hnx : nx = pc + 3) (hk : mt[k]? = some M') (hok : cokI (mY M).cls idx nest na k w1 w2 w3 = true) (hn : as.length = na) (hst : st = as.reverse ++ .ref a :: rest)
    (hlen : ((.ref a :: as).flatMap ent1).length ≤ mL M') (hw : wsum rest ≤ 8) (hr1 : rc d M' 0 (ent (mL M') (.ref a :: as)) [] h = some (h1, .inl v)) (hr : rc (d + 1) M nx lv (v.toList ++ rest) h1 = some (h', o)) : Ok D dA base b L xs l (d + 1) M pc lv st h h' o := by
  have hm := List.mem_of_getElem? hk
  simp only [cokI, hk, Option.any_some, Bool.and_eq_true, decide_eq_true_eq] at hok
  obtain ⟨⟨⟨⟨⟨⟨h1y, h2⟩, h3⟩, h4⟩, h5⟩, h6⟩, h7⟩ := hok
  obtain ⟨y1, y2, y3⟩ := yok_inv h1y
  have hH : mH M' = [] := by simpa using h5
  have hMet := met_of hS hm y3 hlen hr1
  refine cd_fin (as := .ref a :: as) hS hM hnx (hS d M' 0 _ _ h h1 _ (mok_all M' hm) hr1).1 hr fun p e R s m args below meth c H locs cells slots ls cx f1 f2 hR hS1 hsz hf => ?_
  obtain ⟨hx, hb, hml, hown, hW, hHw, hlocks⟩ := cx
  obtain ⟨q1, q2, q3⟩ := cw_parts (args := args) hm hH hW
  rw [q1] at hMet
  rw [h7] at hMet q2 q3
  obtain ⟨r1, r2⟩ := room_ok f1 f2 (mL_all M' hm)
  cases nest with
  | false =>
    exact va_runI (Ts := []) (As := as) ⟨hx, hb, hml, hown, fun _ z => nomatch z⟩ hMet ⟨⟨rfl, rfl, r1, r2, q2, List.mem_singleton.mpr rfl, q3, hW.at (wis_inv h4) rfl, y1, y2, hW.at (wis_inv h2) rfl⟩, h6, hW.at (wis_inv h3) rfl⟩ ⟨blindU (.ref a :: as), preU hW hHw hR hS1 (.ref a :: as)⟩ rfl hn hsz hst (lv_room hw) hdg hf
  | true =>
    exact va_runIN (Ts := []) (As := as) ⟨hx, hb, hml, hown, fun _ z => nomatch z⟩ hMet ⟨⟨⟨rfl, rfl, r1, r2, q2, List.mem_singleton.mpr rfl⟩, q3, hW.at (wis_inv h4) rfl, y1, y2, hW.at (wis_inv h2) rfl⟩, h6, hW.at (wis_inv h3) rfl⟩ ⟨blindU (.ref a :: as), preU hW hHw hR hS1 (.ref a :: as)⟩ rfl hn hsz hst (lv_room hw) hdg hf
/-- a call on a receiver of the method's own class -/
theorem cd_virt {rc : RF} (hS : Snd D dA base b L xs l rc) {d : Nat} {M M' : MI} {pc nx idx na k ci w1 w2 w3 w4 a : Nat} {fs : List Value} {lv : List (Option Value)} {st rest : List Value} {h h1 h' : AH} {o : RO} {v : Option Value} {as : List Value} (hM : mokb M = true) (hdg : decode (mB M) pc = .ok (.invokevirtual idx, 3)) (hnx : nx = pc + 3) (hk : mt[k]? = some M') (hok : cokV (mY M).cls idx na k ci w1 w2 w3 w4 = true) (ha : h.2.2 a = some (.inr (ci, fs))) (hn : as.length = na) (hst : st = as.reverse ++ .ref a :: rest)
    (hlen : ((.ref a :: as).flatMap ent1).length ≤ mL M') (hw : wsum rest ≤ 8) (hr1 : rc d M' 0 (ent (mL M') (.ref a :: as)) [] h = some (h1, .inl v)) (hr : rc (d + 1) M nx lv (v.toList ++ rest) h1 = some (h', o)) : Ok D dA base b L xs l (d + 1) M pc lv st h h' o := by
  have hm := List.mem_of_getElem? hk
  simp only [cokV, hk, Option.any_some, Bool.and_eq_true] at hok
  obtain ⟨⟨⟨⟨⟨⟨h1y, h2⟩, h3⟩, h4⟩, h5⟩, h6⟩, h7⟩ := hok
  obtain ⟨y1, y2, y3⟩ := yok_inv h1y
  have hH : mH M' = [] := by simpa using h6
  have hMet := met_of hS hm y3 hlen hr1
  refine cd_fin (as := .ref a :: as) hS hM hnx (hS d M' 0 _ _ h h1 _ (mok_all M' hm) hr1).1 hr fun p e R s m args below meth c H locs cells slots ls cx f1 f2 hR hS1 hsz hf => ?_
  obtain ⟨hx, hb, hml, hown, hW, hHw, hlocks⟩ := cx
  obtain ⟨q1, q2, q3⟩ := cw_parts (args := args) hm hH hW
  rw [q1] at hMet
  obtain ⟨r1, r2⟩ := room_ok f1 f2 (mL_all M' hm)
  cases hq : vcl[ci]? with
  | none => rw [hq] at h7; cases h7
  | some q =>
    rw [hq] at h7
    simp only [Option.any_some, decide_eq_true_eq] at h7
    have hrv := recvU hW (hR.2.2 a _ ha).2 hq
    rw [h7] at hrv
    exact va_runV (Ts := []) (As := as) (C := (mY M').cls) ⟨hx, hb, hml, hown, fun _ z => nomatch z⟩ hMet ⟨⟨rfl, rfl, r1, r2, q2, List.mem_singleton.mpr rfl, q3, hW.at (wis_inv h5) rfl, y1, y2, hW.at (wis_inv h2) rfl⟩, hW.at (wis_inv h3) rfl, hW.at (wis_inv h4) rfl⟩ ⟨blindU (.ref a :: as), hrv, preU hW hHw hR hS1 (.ref a :: as)⟩ rfl hn hsz hst (lv_room hw) hdg hf
/-- a call of an abstract method -/
theorem cd_abs {rc : RF} (hS : Snd D dA base b L xs l rc) {d : Nat} {M M' : MI} {pc nx idx na k ci w1 w2 w3 s1 s2 s3 a : Nat} {fs : List Value} {lv : List (Option Value)} {st rest : List Value} {h h1 h' : AH} {o : RO} {v : Option Value} {as : List Value} (hM : mokb M = true) (hdg : decode (mB M) pc = .ok (.invokevirtual idx, 3)) (hnx : nx = pc + 3) (hk : mt[k]? = some M') (hok : cokA (mY M).cls idx na k ci w1 w2 w3 s1 s2 s3 = true) (ha : h.2.2 a = some (.inr (ci, fs))) (hn : as.length = na) (hst : st = as.reverse ++ .ref a :: rest)
    (hlen : ((.ref a :: as).flatMap ent1).length ≤ mL M') (hw : wsum rest ≤ 8) (hr1 : rc d M' 0 (ent (mL M') (.ref a :: as)) [] h = some (h1, .inl v)) (hr : rc (d + 1) M nx lv (v.toList ++ rest) h1 = some (h', o)) : Ok D dA base b L xs l (d + 1) M pc lv st h h' o := by
  have hm := List.mem_of_getElem? hk
  simp only [cokA, hk, Option.any_some, Bool.and_eq_true] at hok
  obtain ⟨⟨⟨⟨⟨⟨⟨⟨h1y, h2⟩, h3⟩, h4⟩, h5⟩, h6⟩, h7⟩, h8⟩, h9⟩ := hok
  obtain ⟨y1, y2, y3⟩ := yok_inv h1y
  have hH : mH M' = [] := by simpa using h8
  have hMet := met_of hS hm y3 hlen hr1
  refine cd_fin (as := .ref a :: as) hS hM hnx (hS d M' 0 _ _ h h1 _ (mok_all M' hm) hr1).1 hr fun p e R s m args below meth c H locs cells slots ls cx f1 f2 hR hS1 hsz hf => ?_
  obtain ⟨hx, hb, hml, hown, hW, hHw, hlocks⟩ := cx
  obtain ⟨q1, q2, q3⟩ := cw_parts (args := args) hm hH hW
  rw [q1] at hMet
  obtain ⟨r1, r2⟩ := room_ok f1 f2 (mL_all M' hm)
  cases hq : vcl[ci]? with
  | none => rw [hq] at h9; cases h9
  | some q =>
    rw [hq] at h9
    simp only [Option.any_some, decide_eq_true_eq] at h9
    have hrv := recvU hW (hR.2.2 a _ ha).2 hq
    rw [h9] at hrv
    exact va_runU (Ts := []) (As := as) (C := (mY M').cls) (owner := "TapeVault$View") (x := ⟨"TapeVault$View", (mY M').name, (mY M').desc⟩) ⟨hx, hb, hml, hown, fun _ z => nomatch z⟩ hMet ⟨⟨rfl, rfl, r1, r2, q2, List.mem_singleton.mpr rfl⟩, q3, hW.at (wis_inv h7) rfl, ⟨by decide, by decide⟩, y2, hW.at (wis_inv h2) rfl, hW.at (wis_inv h3) rfl, va_Decl.abs (hW.at (wis_inv h4) rfl), hW.at (wis_inv h5) rfl, hW.at (wis_inv h6) rfl⟩ ⟨blindU (.ref a :: as), hrv, preU hW hHw hR hS1 (.ref a :: as)⟩ rfl hn hsz hst (lv_room hw) hdg hf
end SndC
