/-! throws, the library's own calls, and the run's soundness -/
section SndX
variable {D : va_G} {dA : FieldType → ClassId} {base b L : Nat} {xs : Nat → Int32} {l : Launch}
/-- what is thrown, behind it -/
def XU (D : va_G) (dA : FieldType → ClassId) (base : Nat) (h1 : AH) (cls : String) : String → State → State → Prop := fun E' st t => E' = cls ∧ Rp D dA base h1 t.heap ∧ va_F (fun q => base ≤ q) st t
theorem xn_fit : ∀ n ∈ xnames, Bundle.fit n = true := by decide +kernel
theorem metx_of (hlt : l.stackTraces = false) {rc : RF} (hS : Snd D dA base b L xs l rc) {d E : Nat} {M : MI} {as : List Value} {h h1 : AH} {cls : String} (hm : M ∈ mt) (hy : plainName (mY M).cls = true) (hH0 : mH M = []) (hE : exn[E]? = some cls) (hlen : (as.flatMap ent1).length ≤ mL M) (hr : rc d M 0 (ent (mL M) as) [] h = some (h1, .inr E)) :
    vx_Met l (mY M) [cwd M] ({ frames := d, cells := h1.1 - h.1, slots := h1.2.1 - h.2.1, locals := 28 * d }) (va_Pc as (PreU D dA base b L xs h)) (fun _ _ _ _ => False) (XU D dA base h1 cls) (h1.1 - h.1) (h1.2.1 - h.2.1) (fun q => base ≤ q) := by
  have hok := mok_all M hm
  obtain ⟨m1, k1⟩ := hS d M 0 _ _ h h1 _ hok hr
  have hc : cwd M = .code (mY M) (mB M) (mL M) (mR M) := by unfold cwd; rw [hH0]
  refine vx_ofW (cc := mB M) (maxL := mL M) (ret := mR M) (ws' := []) hy (by rw [hc]) ?_
  intro p e s m args below meth c s₁ B hml ht hv
  have htab : c.exceptionTable.toList = tableOf (mH M) := by
    rw [hH0]
    exact List.eq_nil_iff_forall_not_mem.mpr ht
  obtain ⟨rfl, hW, hHw, hR⟩ := hv
  rw [lg_entry_eq]
  refine k1 p e _ s m as.toArray below meth c _ h.1 h.2.1 ⟨⟨B.exec, B.bytes, hml, findClass_of_methodNamed B.named, hW, hHw, B.notSynchronized⟩, fun q => ?_, htab, rfl, Nat.le_refl _, ?_, ?_, ?_⟩ s.heap [] 0 0 _ hR va_S.rf (LV.entry hlen) (Nat.zero_add _) (Nat.zero_add _)
  · exact (name_of_methodNamed B.named B.method).1.trans q
  · show h1.1 ≤ h.1 + (h1.1 - h.1)
    omega
  · show h1.2.1 ≤ h.2.1 + (h1.2.1 - h.2.1)
    omega
  · intro h0 H locs cells slots ls pc st ik nx ic w e1 hR1 hS1 hsz hcl hsl hfr hws he
    subst e1
    simp only [eokx, cok, Bool.and_eq_true, decide_eq_true_eq] at he
    obtain ⟨d0, ⟨⟨⟨⟨d3, d4⟩, d7⟩, hth⟩, hown⟩, hk⟩ := he
    rw [hE] at hk
    simp only [Option.any_some] at hk
    have hth2 := List.all_eq_true.mp thl_ok _ hth
    rw [hE] at hth2
    simp only [Bool.and_eq_true, List.all_eq_true, decide_eq_true_eq] at hth2
    obtain ⟨⟨hat, hfit⟩, hini⟩ := hth2
    have hown' : s.vm.findClass (mY M).cls = some m.cls := findClass_of_methodNamed B.named
    rw [hown] at hk hown'
    have z1 : (hskip h0 6).1 = h0.1 + 1 := rfl
    have z2 : (hskip h0 6).2.1 = h0.2.1 + 6 := rfl
    have fr : d = (headSpec [cwd M] ({ frames := d, cells := (hskip h0 6).1 - h.1, slots := (hskip h0 6).2.1 - h.2.1, locals := 28 * d })).room.frames := rfl
    rw [← fr] at hfr
    exact vy_throw0 (own := "TapeVault") (cls := cls) (names := xnames) (ic := ic) (A := fun q => base ≤ q) B.exec B.bytes hlt hown' hfit xn_fit (hW.at (wis_inv hk) rfl) (hW.word hini rfl) (fun w hw => hW.word (hat w hw).1.1 (hat w hw).1.2)
      (fun w hw => by
        rcases List.mem_cons.mp hw with rfl | hw
        · rfl
        rcases List.mem_cons.mp hw with rfl | hw
        · rfl
        exact (hat w hw).2)
      hHw.1 hHw.2.1 hS1 (by rw [hml]; exact hsz) d0 d3 d4 d7 (fun x hx => (ht x hx).elim) (by show 2 + 3 < d; omega) (by show wsum st + (13 * 3 + 42) ≤ 28 * d; omega) (by show cells + 1 ≤ (hskip h0 6).1 - h.1; omega) (by show slots + 6 ≤ (hskip h0 6).2.1 - h.2.1; omega) B.notSynchronized
      (fun t _ hsz1 hq => ⟨rfl, hR1.skip (by rw [hsz1, hR1.1]) (fun q hq1 => hq q (by rw [hR1.1]; exact hq1)), ⟨Nat.le_trans hS1.1 (by rw [hsz1]; omega), fun q q1 q2 => (hq q (Nat.lt_of_lt_of_le q1 hS1.1)).trans (hS1.2.1 q q1 q2)⟩⟩)
      hS1.2.2 (by omega) (by omega)
/-- a callee that throws, caught by the caller's table -/
theorem cd_catch (hlt : l.stackTraces = false) {rc : RF} (hS : Snd D dA base b L xs l rc) {d E : Nat} {M M' : MI} {pc nx idx na k ci w1 w2 w3 w4 a : Nat} {fs : List Value} {lv : List (Option Value)} {st rest : List Value} {h h1 h' : AH} {o : RO} {as : List Value} (hM : mokb M = true) (hdg : decode (mB M) pc = .ok (.invokevirtual idx, 3)) (hnx : nx = pc + 3) (hk : mt[k]? = some M') (hok : cokV (mY M).cls idx na k ci w1 w2 w3 w4 = true) (ha : h.2.2 a = some (.inr (ci, fs))) (hn : as.length = na) (hst : st = as.reverse ++ .ref a :: rest)
    (hlen : ((.ref a :: as).flatMap ent1).length ≤ mL M') (hw : wsum rest ≤ 8) (hr1 : rc d M' 0 (ent (mL M') (.ref a :: as)) [] h = some (h1, .inr E)) (hE4 : E < 4) (hr : ctF rc (d + 1) M pc lv h1 E = some (h', o)) : Ok D dA base b L xs l (d + 1) M pc lv st h h' o := by
  have hm := List.mem_of_getElem? hk
  simp only [cokV, hk, Option.any_some, Bool.and_eq_true] at hok
  obtain ⟨⟨⟨⟨⟨⟨h1y, h2⟩, h3⟩, h4⟩, h5⟩, h6⟩, h7⟩ := hok
  obtain ⟨y1, y2, y3⟩ := yok_inv h1y
  have hH : mH M' = [] := by simpa using h6
  obtain ⟨cls, hE⟩ : ∃ cls, exn[E]? = some cls := ⟨exn[E]'hE4, List.getElem?_eq_getElem hE4⟩
  have hMet := metx_of hlt hS hm y3 hH hE hlen hr1
  have m1 := (hS d M' 0 _ _ h h1 _ (mok_all M' hm) hr1).1
  -- the handler
  have hc : ∃ hp nx2 i ins ri, fh (mH M) pc E = some hp ∧ fet (mE M) hp = some (ins, nx2, ri) ∧ (mY M).cls = "TapeVaultLaw" ∧ i < mL M ∧ ((∃ q : Fin 4, ins = .astore_n q ∧ (q : Nat) = i) ∨ ins = .astore i) ∧ rc (d + 1) M nx2 ((lv1 lv i .null).set i none) [] h1 = some (h', o) := by
    unfold ctF at hr
    split at hr
    · rename_i hcl
      split at hr
      · cases hr
      · rename_i hp hfh
        split at hr
        · rename_i q nx2 ri hfe
          split at hr
          · rename_i hi
            exact ⟨hp, nx2, _, _, ri, hfh, hfe, hcl, hi, Or.inl ⟨q, rfl, rfl⟩, hr⟩
          · cases hr
        · rename_i q nx2 ri hfe
          split at hr
          · rename_i hi
            exact ⟨hp, nx2, _, _, ri, hfh, hfe, hcl, hi, Or.inr rfl, hr⟩
          · cases hr
        · cases hr
    · cases hr
  obtain ⟨hp, nx2, i, ins, ri, hfh, hfe, hcl, hi, hins, hr2⟩ := hc
  obtain ⟨m2, k2⟩ := hS (d + 1) M nx2 _ _ h1 h' o hM hr2
  have hen := List.all_eq_true.mp hM _ (fet_inv hfe)
  have hde : (∃ q : Fin 4, ins = .astore_n q ∧ (q : Nat) = i ∧ decode (mB M) hp = .ok (.astore_n q, 1) ∧ nx2 = hp + 1) ∨ (ins = .astore i ∧ decode (mB M) hp = .ok (.astore i, 2) ∧ nx2 = hp + 2) := by
    rcases hins with ⟨q, rfl, rfl⟩ | rfl
    · have := (eok_of hen (fun _ z => by cases z) (fun _ _ z => by cases z)).1
      simp only [eok, Bool.and_eq_true, decide_eq_true_eq] at this
      simp only [ilen] at this
      exact Or.inl ⟨q, rfl, rfl, this.1.1, this.1.2⟩
    · have := (eok_of hen (fun _ z => by cases z) (fun _ _ z => by cases z)).1
      simp only [eok, Bool.and_eq_true, decide_eq_true_eq] at this
      simp only [ilen] at this
      exact Or.inr ⟨rfl, this.1.1, this.1.2⟩
  refine ⟨⟨Nat.le_trans m1.1 m2.1, Nat.le_trans m1.2 m2.2⟩, fun p e R s m args below meth c Q n0 s0 g => ?_⟩
  intro H locs cells slots ls hR hS1 hL hc hl
  have g5 := g.2.2.2.2.2.1
  have g6 := g.2.2.2.2.2.2.1
  have kk := k2 p e R s m args below meth c Q n0 s0 g
  obtain ⟨⟨hx, hb, hml, hown, hW, hHw, hlocks⟩, hini, htab, f1, f2, -⟩ := g
  obtain ⟨q1, q2, q3⟩ := cw_parts (args := args) hm hH hW
  rw [q1] at hMet
  obtain ⟨r1, r2⟩ := room_ok f1 f2 (mL_all M' hm)
  cases hq : vcl[ci]? with
  | none => rw [hq] at h7; cases h7
  | some q =>
    rw [hq] at h7
    simp only [Option.any_some, decide_eq_true_eq] at h7
    have hrv := recvU hW (hR.2.2 a _ ha).2 hq
    rw [h7] at hrv
    have run := vx_runV (Ts := []) (As := as) (C := (mY M').cls) (H := H) (locs := locs) (cells := cells) (slots := slots) (g := F0 m pc ls st) (rest := rest) (e := e) (below := below) (meth := meth) ⟨hx, hb, hml, hown, fun _ z => nomatch z⟩ hMet ⟨⟨rfl, rfl, r1, r2, q2, List.mem_singleton.mpr rfl, q3, hW.at (wis_inv h5) rfl, y1, y2, hW.at (wis_inv h2) rfl⟩, hW.at (wis_inv h3) rfl, hW.at (wis_inv h4) rfl⟩ ⟨blindU (.ref a :: as), hrv, preU hW hHw hR hS1 (.ref a :: as)⟩ rfl hn hL.2.1 hst (lv_room hw) hdg ⟨by omega, by omega⟩
    intro T hT X
    rcases run T hT X with ⟨v, st₀, t, T', L', e0, X', e1, e2, e3, hF, e4⟩ | ⟨x, st₀, t, T', L', E', ce, h0, X', hL', g1, g2, ⟨hE', gR, gF⟩, hce, hcv, hcl', stp'⟩
    · exact hF.elim
    · subst hE'
      obtain ⟨k1, k2', k3⟩ := vx_keep (A0 := fun q => base ≤ q) (A1 := fun q => base ≤ q) (free := fun q => base ≤ q) h0 g1 hS1 (fun _ _ z => z) (fun _ z => z) hL' gF
      have hown2 := hown
      rw [hcl] at hown2
      obtain ⟨ls', es, hLs⟩ := hL.set1 (v := .ref x) hi rfl
      have hLs' : LV ls' (mL M) ((lv1 lv i .null).set i none) := by
        have := hLs.forget i
        rwa [lv1_forget (w := .null)] at this
      have fin : W p l e R s m args below meth c T'.heap (locs ++ L') (cells + (h1.1 - h.1)) (slots + (h1.2.1 - h.2.1)) Q (F0 m hp ls [.ref x]) := by
        have last := kk T'.heap (locs ++ L') (cells + (h1.1 - h.1)) (slots + (h1.2.1 - h.2.1)) ls' (by rw [g1]; exact gR) k3 hLs' (by omega) (by omega)
        rcases hde with ⟨q, -, rfl, hd, rfl⟩ | ⟨-, hd, rfl⟩
        · exact rw_astore_n (x := some x) hx hb hd es last
        · exact rw_astore (x := some x) hx hb hd es last
      obtain ⟨t2, a1, b1⟩ := cy_catch (rest := rest) hW hown2 htab hE (by rw [g1]; exact hce) hcv hcl' hfh fin T' rfl X'
      exact ⟨t2, stp'.trans a1, b1⟩
/-- Object's constructor -/
theorem ca_obj {rc : RF} (hS : Snd D dA base b L xs l rc) {d : Nat} {M : MI} {pc nx idx w1 w2 w3 a : Nat} {lv : List (Option Value)} {rest : List Value} {h h' : AH} {o : RO} (hM : mokb M = true) (hdg : decode (mB M) pc = .ok (.invokespecial idx, 3)) (hnx : nx = pc + 3) (h1 : wis w1 (.methodLink (mY M).cls idx objectInit) = true) (h2 : wis w2 (.instanceMethod objectInit) = true) (h3 : wis w3 (.code objectInit ⟨#[0xb1]⟩ 1 none) = true)
    (hd : 1 ≤ d) (hw : wsum rest ≤ 8) (hr : rc d M nx lv rest h = some (h', o)) : Ok D dA base b L xs l d M pc lv (.ref a :: rest) h h' o := by
  obtain ⟨m1, k1⟩ := hS d M nx lv rest h h' o hM hr
  refine ⟨m1, fun p e R s m args below meth c Q n0 s0 g => ?_⟩
  intro H locs cells slots ls hR hS1 hL hc hl
  have kk := k1 p e R s m args below meth c Q n0 s0 g H locs cells slots ls hR hS1 hL hc hl
  obtain ⟨⟨hx, hb, hml, hown, hW, hHw, hlocks⟩, hini, htab, f1, f2, -⟩ := g
  subst hnx
  exact W.objInit hx hb hown (hW.at (wis_inv h1) rfl) (hW.at (wis_inv h2) rfl) (hW.at (wis_inv h3) rfl) rfl (by rw [hml]; exact hL.2.1) rfl hdg (by omega) (by show 2 * 0 + wsum rest + 12 ≤ R.locals; omega) kk
theorem ca_max {rc : RF} (hS : Snd D dA base b L xs l rc) {d : Nat} {M : MI} {pc nx idx w1 w2 w3 w4 : Nat} {lv : List (Option Value)} {rest : List Value} {h h' : AH} {o : RO} {x y : Int32} (hM : mokb M = true) (hdg : decode (mB M) pc = .ok (.invokestatic idx, 3)) (hnx : nx = pc + 3) (h1 : wis w1 (.methodLink (mY M).cls idx Lib.Math.max.name) = true) (h2 : wis w2 (.static Lib.Math.max.name) = true) (h3 : wis w3 (.initialized "java/lang/Math") = true) (h4 : wis w4 (.code Lib.Math.max.name Lib.Math.max.code 2 (some .int)) = true)
    (hd : 1 ≤ d) (hw : wsum rest ≤ 8) (hr : rc d M nx lv (.int (if x < y then y else x) :: rest) h = some (h', o)) : Ok D dA base b L xs l d M pc lv (.int y :: .int x :: rest) h h' o := by
  obtain ⟨m1, k1⟩ := hS d M nx lv _ h h' o hM hr
  refine ⟨m1, fun p e R s m args below meth c Q n0 s0 g => ?_⟩
  intro H locs cells slots ls hR hS1 hL hc hl
  have kk := k1 p e R s m args below meth c Q n0 s0 g H locs cells slots ls hR hS1 hL hc hl
  have g5 := g.2.2.2.2.2.1
  have g6 := g.2.2.2.2.2.2.1
  obtain ⟨⟨hx, hb, hml, hown, hW, hHw, hlocks⟩, hini, htab, f1, f2, -⟩ := g
  subst hnx
  exact va_mmax hx hb (by rw [hml]; exact hL.2.1.symm) hown (hW.at (wis_inv h1) rfl) (hW.at (wis_inv h2) rfl) (hW.at (wis_inv h3) rfl) (hW.at (wis_inv h4) rfl) (by omega) (by show wsum rest + 13 ≤ R.locals; omega) (by omega) (by omega) hdg kk
theorem ca_min {rc : RF} (hS : Snd D dA base b L xs l rc) {d : Nat} {M : MI} {pc nx idx w1 w2 w3 w4 : Nat} {lv : List (Option Value)} {rest : List Value} {h h' : AH} {o : RO} {x y : Int32} (hM : mokb M = true) (hdg : decode (mB M) pc = .ok (.invokestatic idx, 3)) (hnx : nx = pc + 3) (h1 : wis w1 (.methodLink (mY M).cls idx Lib.Math.min.name) = true) (h2 : wis w2 (.static Lib.Math.min.name) = true) (h3 : wis w3 (.initialized "java/lang/Math") = true) (h4 : wis w4 (.code Lib.Math.min.name Lib.Math.min.code 2 (some .int)) = true)
    (hd : 1 ≤ d) (hw : wsum rest ≤ 8) (hr : rc d M nx lv (.int (if y < x then y else x) :: rest) h = some (h', o)) : Ok D dA base b L xs l d M pc lv (.int y :: .int x :: rest) h h' o := by
  obtain ⟨m1, k1⟩ := hS d M nx lv _ h h' o hM hr
  refine ⟨m1, fun p e R s m args below meth c Q n0 s0 g => ?_⟩
  intro H locs cells slots ls hR hS1 hL hc hl
  have kk := k1 p e R s m args below meth c Q n0 s0 g H locs cells slots ls hR hS1 hL hc hl
  have g5 := g.2.2.2.2.2.1
  have g6 := g.2.2.2.2.2.2.1
  obtain ⟨⟨hx, hb, hml, hown, hW, hHw, hlocks⟩, hini, htab, f1, f2, -⟩ := g
  subst hnx
  exact va_mmin hx hb (by rw [hml]; exact hL.2.1.symm) hown (hW.at (wis_inv h1) rfl) (hW.at (wis_inv h2) rfl) (hW.at (wis_inv h3) rfl) (hW.at (wis_inv h4) rfl) (by omega) (by show wsum rest + 13 ≤ R.locals; omega) (by omega) (by omega) hdg kk
end SndX
