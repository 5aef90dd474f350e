/-! the step keeps sizes, and is the machine's -/
section SndS
variable {D : va_G} {dA : FieldType → ClassId} {base b L : Nat} {xs : Nat → Int32} {n0 s0 nL : Nat} {own : String} {cc : ByteArray}
variable {p : Program} {l : Launch} {e : Env} {R : Room} {s : State} {m : MethodId} {args : Array Value} {below : List Frame} {meth : Method} {c : Code} {Q : State → Prop}
set_option maxHeartbeats 4000000 in
set_option maxRecDepth 10000 in
theorem stp_ok {ini : Bool} (cx : Cx D dA base b L xs own cc nL p s m meth c) (hini : ini = true → meth.name = "<init>") {pc nx : Nat} {ins : Instr} {ri : List Nat} (he : eok own cc ini (pc, ins, nx, ri) = true) {lv : List (Option Value)} {st : List Value} {h : AH} {pc' : Nat} {lv' : List (Option Value)} {st' : List Value} {h1 : AH}
    (hs : stp b L xs nL ins nx ri lv st h = some (pc', lv', st', h1)) (hroom : h1.1 ≤ n0 + R.cells ∧ h1.2.1 ≤ s0 + R.slots)
    (k : KK D dA base n0 s0 nL p l e R s m args below meth c Q pc' lv' st' h1) : KK D dA base n0 s0 nL p l e R s m args below meth c Q pc lv st h := by
  obtain ⟨hx, hb, hml, hown, hW, hH, hlocks⟩ := cx
  simp only [eok, Bool.and_eq_true] at he
  obtain ⟨he1, he2⟩ := he
  intro H locs cells slots ls hR hS hL hc hl
  have hb0 : ¬ (fun q => base ≤ q) b := Nat.not_le.mpr hH.2.2.2.1
  have hbl : b < s.heap.size := Nat.lt_of_lt_of_le hH.2.2.2.1 hH.2.2.2.2
  cases ins with
  | iconst n =>
    simp only [Bool.and_eq_true, decide_eq_true_eq] at he1
    simp only [ilen] at he1
    obtain ⟨hdg, rfl⟩ := he1
    cases hs
    exact lv_iconst hx hb hdg rfl (k H locs cells slots ls hR hS hL hc hl)
  | bipush n =>
    simp only [Bool.and_eq_true, decide_eq_true_eq] at he1
    simp only [ilen] at he1
    obtain ⟨hdg, rfl⟩ := he1
    cases hs
    exact lv_bipush hx hb hdg rfl (k H locs cells slots ls hR hS hL hc hl)
  | sipush n =>
    simp only [Bool.and_eq_true, decide_eq_true_eq] at he1
    simp only [ilen] at he1
    obtain ⟨hdg, rfl⟩ := he1
    cases hs
    exact lv_sipush hx hb hdg rfl (k H locs cells slots ls hR hS hL hc hl)
  | lconst n =>
    simp only [Bool.and_eq_true, decide_eq_true_eq] at he1
    simp only [ilen] at he1
    obtain ⟨hdg, rfl⟩ := he1
    cases hs
    exact lv_lconst hx hb hdg rfl (k H locs cells slots ls hR hS hL hc hl)
  | aconst_null =>
    simp only [Bool.and_eq_true, decide_eq_true_eq] at he1
    simp only [ilen] at he1
    obtain ⟨hdg, rfl⟩ := he1
    cases hs
    exact lv_null hx hb hdg (k H locs cells slots ls hR hS hL hc hl)
  | ldc idx =>
    simp only [Bool.and_eq_true, decide_eq_true_eq] at he1
    simp only [ilen] at he1
    obtain ⟨hdg, rfl⟩ := he1
    obtain ⟨r, r9, rfl⟩ : ∃ r r9, ri = r :: r9 := by
      rcases ri with _ | ⟨r, r9⟩
      · cases he2
      · exact ⟨r, r9, rfl⟩
    dsimp only at he2
    simp only [stp, nI1_cons] at hs
    cases hq : KI[r]? with
    | none => rw [hq] at hs; cases hs
    | some q =>
      rw [hq] at hs he2
      simp only [Option.any_some, Bool.and_eq_true, decide_eq_true_eq] at he2
      cases hs
      have hw := KI_ok q (List.mem_of_getElem? hq)
      rw [he2.1, he2.2] at hw
      exact lv_ldc hx hb hown (hW.at hw rfl) hdg (k H locs cells slots ls hR hS hL hc hl)
  | ldc2_w idx =>
    simp only [Bool.and_eq_true, decide_eq_true_eq] at he1
    simp only [ilen] at he1
    obtain ⟨hdg, rfl⟩ := he1
    obtain ⟨r, r9, rfl⟩ : ∃ r r9, ri = r :: r9 := by
      rcases ri with _ | ⟨r, r9⟩
      · cases he2
      · exact ⟨r, r9, rfl⟩
    dsimp only at he2
    simp only [stp, nI1_cons] at hs
    cases hq : KJ[r]? with
    | none => rw [hq] at hs; cases hs
    | some q =>
      rw [hq] at hs he2
      simp only [Option.any_some, Bool.and_eq_true, decide_eq_true_eq] at he2
      cases hs
      have hw := KJ_ok q (List.mem_of_getElem? hq)
      rw [he2.1, he2.2] at hw
      exact lv_ldc2 hx hb hown (hW.at hw rfl) hdg (k H locs cells slots ls hR hS hL hc hl)
  | iload_n i =>
    simp only [Bool.and_eq_true, decide_eq_true_eq] at he1
    simp only [ilen] at he1
    obtain ⟨hdg, rfl⟩ := he1
    simp only [stp] at hs
    have hz9 := gI_inv hs
    clear hs
    obtain ⟨x, hg, hs⟩ := hz9
    cases hs
    exact lv_iload_n hx hb hdg rfl (hL.get hg) (k H locs cells slots ls hR hS hL hc hl)
  | iload i =>
    simp only [Bool.and_eq_true, decide_eq_true_eq] at he1
    simp only [ilen] at he1
    obtain ⟨hdg, rfl⟩ := he1
    simp only [stp] at hs
    have hz9 := gI_inv hs
    clear hs
    obtain ⟨x, hg, hs⟩ := hz9
    cases hs
    exact lv_iload hx hb hdg (hL.get hg) (k H locs cells slots ls hR hS hL hc hl)
  | lload_n i =>
    simp only [Bool.and_eq_true, decide_eq_true_eq] at he1
    simp only [ilen] at he1
    obtain ⟨hdg, rfl⟩ := he1
    simp only [stp] at hs
    have hz9 := gJ_inv hs
    clear hs
    obtain ⟨x, hg, hs⟩ := hz9
    cases hs
    exact lv_lload_n hx hb hdg rfl (hL.get hg) (k H locs cells slots ls hR hS hL hc hl)
  | lload i =>
    simp only [Bool.and_eq_true, decide_eq_true_eq] at he1
    simp only [ilen] at he1
    obtain ⟨hdg, rfl⟩ := he1
    simp only [stp] at hs
    have hz9 := gJ_inv hs
    clear hs
    obtain ⟨x, hg, hs⟩ := hz9
    cases hs
    exact lv_lload hx hb hdg (hL.get hg) (k H locs cells slots ls hR hS hL hc hl)
  | aload_n i =>
    simp only [Bool.and_eq_true, decide_eq_true_eq] at he1
    simp only [ilen] at he1
    obtain ⟨hdg, rfl⟩ := he1
    simp only [stp] at hs
    have hz9 := gQ_inv hs
    clear hs
    obtain ⟨x, hg, hs⟩ := hz9
    cases hs
    exact rw_aload_n hx hb hdg (hL.get hg) (k H locs cells slots ls hR hS hL hc hl)
  | aload i =>
    simp only [Bool.and_eq_true, decide_eq_true_eq] at he1
    simp only [ilen] at he1
    obtain ⟨hdg, rfl⟩ := he1
    simp only [stp] at hs
    have hz9 := gQ_inv hs
    clear hs
    obtain ⟨x, hg, hs⟩ := hz9
    cases hs
    exact rw_aload hx hb hdg (hL.get hg) (k H locs cells slots ls hR hS hL hc hl)
  | istore_n i =>
    simp only [Bool.and_eq_true, decide_eq_true_eq] at he1
    simp only [ilen] at he1
    obtain ⟨hdg, rfl⟩ := he1
    simp only [stp] at hs
    have hz9 := pI_inv hs
    clear hs
    obtain ⟨x, r0, rfl, hs⟩ := hz9
    have hz9 := iff'_inv hs
    clear hs
    obtain ⟨hi, hs⟩ := hz9
    cases hs
    exact wx_store1 hL hi rfl (fun ls' e' kk => rw_istore_n hx hb hdg e' kk) (fun ls' hL' => k H locs cells slots ls' hR hS hL' hc hl)
  | istore i =>
    simp only [Bool.and_eq_true, decide_eq_true_eq] at he1
    simp only [ilen] at he1
    obtain ⟨hdg, rfl⟩ := he1
    simp only [stp] at hs
    have hz9 := pI_inv hs
    clear hs
    obtain ⟨x, r0, rfl, hs⟩ := hz9
    have hz9 := iff'_inv hs
    clear hs
    obtain ⟨hi, hs⟩ := hz9
    cases hs
    exact wx_store1 hL hi rfl (fun ls' e' kk => rw_istore hx hb hdg e' kk) (fun ls' hL' => k H locs cells slots ls' hR hS hL' hc hl)
  | lstore_n i =>
    simp only [Bool.and_eq_true, decide_eq_true_eq] at he1
    simp only [ilen] at he1
    obtain ⟨hdg, rfl⟩ := he1
    simp only [stp] at hs
    have hz9 := pJ_inv hs
    clear hs
    obtain ⟨x, r0, rfl, hs⟩ := hz9
    have hz9 := iff'_inv hs
    clear hs
    obtain ⟨hi, hs⟩ := hz9
    cases hs
    exact wx_store2 hL hi rfl (fun ls' e' kk => rw_lstore_n hx hb hdg e' kk) (fun ls' hL' => k H locs cells slots ls' hR hS hL' hc hl)
  | lstore i =>
    simp only [Bool.and_eq_true, decide_eq_true_eq] at he1
    simp only [ilen] at he1
    obtain ⟨hdg, rfl⟩ := he1
    simp only [stp] at hs
    have hz9 := pJ_inv hs
    clear hs
    obtain ⟨x, r0, rfl, hs⟩ := hz9
    have hz9 := iff'_inv hs
    clear hs
    obtain ⟨hi, hs⟩ := hz9
    cases hs
    exact wx_store2 hL hi rfl (fun ls' e' kk => rw_lstore hx hb hdg e' kk) (fun ls' hL' => k H locs cells slots ls' hR hS hL' hc hl)
  | astore_n i =>
    simp only [Bool.and_eq_true, decide_eq_true_eq] at he1
    simp only [ilen] at he1
    obtain ⟨hdg, rfl⟩ := he1
    simp only [stp] at hs
    have hz9 := pQ_inv hs
    clear hs
    obtain ⟨x, r0, rfl, hs⟩ := hz9
    have hz9 := iff'_inv hs
    clear hs
    obtain ⟨hi, hs⟩ := hz9
    cases hs
    exact wx_store1 hL hi (by cases x <;> rfl) (fun ls' e' kk => rw_astore_n hx hb hdg e' kk) (fun ls' hL' => k H locs cells slots ls' hR hS hL' hc hl)
  | astore i =>
    simp only [Bool.and_eq_true, decide_eq_true_eq] at he1
    simp only [ilen] at he1
    obtain ⟨hdg, rfl⟩ := he1
    simp only [stp] at hs
    have hz9 := pQ_inv hs
    clear hs
    obtain ⟨x, r0, rfl, hs⟩ := hz9
    have hz9 := iff'_inv hs
    clear hs
    obtain ⟨hi, hs⟩ := hz9
    cases hs
    exact wx_store1 hL hi (by cases x <;> rfl) (fun ls' e' kk => rw_astore hx hb hdg e' kk) (fun ls' hL' => k H locs cells slots ls' hR hS hL' hc hl)
  | iinc i n =>
    simp only [Bool.and_eq_true, decide_eq_true_eq] at he1
    simp only [ilen] at he1
    obtain ⟨hdg, rfl⟩ := he1
    simp only [stp] at hs
    have hz9 := gI_inv hs
    clear hs
    obtain ⟨x, hg, hs⟩ := hz9
    have hz9 := iff'_inv hs
    clear hs
    obtain ⟨hi, hs⟩ := hz9
    cases hs
    exact wx_store1 hL hi rfl (fun ls' e' kk => rw_iinc hx hb hdg (hL.get hg) e' kk) (fun ls' hL' => k H locs cells slots ls' hR hS hL' hc hl)
  | iadd =>
    simp only [Bool.and_eq_true, decide_eq_true_eq] at he1
    simp only [ilen] at he1
    obtain ⟨hdg, rfl⟩ := he1
    simp only [stp] at hs
    have hz9 := pI_inv hs
    clear hs
    obtain ⟨y, r0, rfl, hs⟩ := hz9
    have hz9 := pI_inv hs
    clear hs
    obtain ⟨x, r0, rfl, hs⟩ := hz9
    cases hs
    exact lv_iadd hx hb hdg (k H locs cells slots ls hR hS hL hc hl)
  | isub =>
    simp only [Bool.and_eq_true, decide_eq_true_eq] at he1
    simp only [ilen] at he1
    obtain ⟨hdg, rfl⟩ := he1
    simp only [stp] at hs
    have hz9 := pI_inv hs
    clear hs
    obtain ⟨y, r0, rfl, hs⟩ := hz9
    have hz9 := pI_inv hs
    clear hs
    obtain ⟨x, r0, rfl, hs⟩ := hz9
    cases hs
    exact lv_isub hx hb hdg (k H locs cells slots ls hR hS hL hc hl)
  | imul =>
    simp only [Bool.and_eq_true, decide_eq_true_eq] at he1
    simp only [ilen] at he1
    obtain ⟨hdg, rfl⟩ := he1
    simp only [stp] at hs
    have hz9 := pI_inv hs
    clear hs
    obtain ⟨y, r0, rfl, hs⟩ := hz9
    have hz9 := pI_inv hs
    clear hs
    obtain ⟨x, r0, rfl, hs⟩ := hz9
    cases hs
    exact lv_imul hx hb hdg (k H locs cells slots ls hR hS hL hc hl)
  | iand =>
    simp only [Bool.and_eq_true, decide_eq_true_eq] at he1
    simp only [ilen] at he1
    obtain ⟨hdg, rfl⟩ := he1
    simp only [stp] at hs
    have hz9 := pI_inv hs
    clear hs
    obtain ⟨y, r0, rfl, hs⟩ := hz9
    have hz9 := pI_inv hs
    clear hs
    obtain ⟨x, r0, rfl, hs⟩ := hz9
    cases hs
    exact lv_iand hx hb hdg (k H locs cells slots ls hR hS hL hc hl)
  | ior =>
    simp only [Bool.and_eq_true, decide_eq_true_eq] at he1
    simp only [ilen] at he1
    obtain ⟨hdg, rfl⟩ := he1
    simp only [stp] at hs
    have hz9 := pI_inv hs
    clear hs
    obtain ⟨y, r0, rfl, hs⟩ := hz9
    have hz9 := pI_inv hs
    clear hs
    obtain ⟨x, r0, rfl, hs⟩ := hz9
    cases hs
    exact lv_ior hx hb hdg (k H locs cells slots ls hR hS hL hc hl)
  | ishl =>
    simp only [Bool.and_eq_true, decide_eq_true_eq] at he1
    simp only [ilen] at he1
    obtain ⟨hdg, rfl⟩ := he1
    simp only [stp] at hs
    have hz9 := pI_inv hs
    clear hs
    obtain ⟨y, r0, rfl, hs⟩ := hz9
    have hz9 := pI_inv hs
    clear hs
    obtain ⟨x, r0, rfl, hs⟩ := hz9
    cases hs
    exact lv_ishl hx hb hdg (k H locs cells slots ls hR hS hL hc hl)
  | ishr =>
    simp only [Bool.and_eq_true, decide_eq_true_eq] at he1
    simp only [ilen] at he1
    obtain ⟨hdg, rfl⟩ := he1
    simp only [stp] at hs
    have hz9 := pI_inv hs
    clear hs
    obtain ⟨y, r0, rfl, hs⟩ := hz9
    have hz9 := pI_inv hs
    clear hs
    obtain ⟨x, r0, rfl, hs⟩ := hz9
    cases hs
    exact lv_ishr hx hb hdg (k H locs cells slots ls hR hS hL hc hl)
  | iushr =>
    simp only [Bool.and_eq_true, decide_eq_true_eq] at he1
    simp only [ilen] at he1
    obtain ⟨hdg, rfl⟩ := he1
    simp only [stp] at hs
    have hz9 := pI_inv hs
    clear hs
    obtain ⟨y, r0, rfl, hs⟩ := hz9
    have hz9 := pI_inv hs
    clear hs
    obtain ⟨x, r0, rfl, hs⟩ := hz9
    cases hs
    exact lv_iushr hx hb hdg rfl (k H locs cells slots ls hR hS hL hc hl)
  | idiv =>
    simp only [Bool.and_eq_true, decide_eq_true_eq] at he1
    simp only [ilen] at he1
    obtain ⟨hdg, rfl⟩ := he1
    simp only [stp] at hs
    have hz9 := pI_inv hs
    clear hs
    obtain ⟨y, r0, rfl, hs⟩ := hz9
    have hz9 := pI_inv hs
    clear hs
    obtain ⟨x, r0, rfl, hs⟩ := hz9
    have hz9 := iff'_inv hs
    clear hs
    obtain ⟨hn, hs⟩ := hz9
    cases hs
    exact lv_idiv hx hb hdg hn (k H locs cells slots ls hR hS hL hc hl)
  | irem =>
    simp only [Bool.and_eq_true, decide_eq_true_eq] at he1
    simp only [ilen] at he1
    obtain ⟨hdg, rfl⟩ := he1
    simp only [stp] at hs
    have hz9 := pI_inv hs
    clear hs
    obtain ⟨y, r0, rfl, hs⟩ := hz9
    have hz9 := pI_inv hs
    clear hs
    obtain ⟨x, r0, rfl, hs⟩ := hz9
    have hz9 := iff'_inv hs
    clear hs
    obtain ⟨hn, hs⟩ := hz9
    cases hs
    exact lv_irem hx hb hdg hn (k H locs cells slots ls hR hS hL hc hl)
  | ladd =>
    simp only [Bool.and_eq_true, decide_eq_true_eq] at he1
    simp only [ilen] at he1
    obtain ⟨hdg, rfl⟩ := he1
    simp only [stp] at hs
    have hz9 := pJ_inv hs
    clear hs
    obtain ⟨y, r0, rfl, hs⟩ := hz9
    have hz9 := pJ_inv hs
    clear hs
    obtain ⟨x, r0, rfl, hs⟩ := hz9
    cases hs
    exact lv_ladd hx hb hdg (k H locs cells slots ls hR hS hL hc hl)
  | lsub =>
    simp only [Bool.and_eq_true, decide_eq_true_eq] at he1
    simp only [ilen] at he1
    obtain ⟨hdg, rfl⟩ := he1
    simp only [stp] at hs
    have hz9 := pJ_inv hs
    clear hs
    obtain ⟨y, r0, rfl, hs⟩ := hz9
    have hz9 := pJ_inv hs
    clear hs
    obtain ⟨x, r0, rfl, hs⟩ := hz9
    cases hs
    exact lv_lsub hx hb hdg (k H locs cells slots ls hR hS hL hc hl)
  | lmul =>
    simp only [Bool.and_eq_true, decide_eq_true_eq] at he1
    simp only [ilen] at he1
    obtain ⟨hdg, rfl⟩ := he1
    simp only [stp] at hs
    have hz9 := pJ_inv hs
    clear hs
    obtain ⟨y, r0, rfl, hs⟩ := hz9
    have hz9 := pJ_inv hs
    clear hs
    obtain ⟨x, r0, rfl, hs⟩ := hz9
    cases hs
    exact lv_lmul hx hb hdg (k H locs cells slots ls hR hS hL hc hl)
  | land =>
    simp only [Bool.and_eq_true, decide_eq_true_eq] at he1
    simp only [ilen] at he1
    obtain ⟨hdg, rfl⟩ := he1
    simp only [stp] at hs
    have hz9 := pJ_inv hs
    clear hs
    obtain ⟨y, r0, rfl, hs⟩ := hz9
    have hz9 := pJ_inv hs
    clear hs
    obtain ⟨x, r0, rfl, hs⟩ := hz9
    cases hs
    exact lv_land hx hb hdg (k H locs cells slots ls hR hS hL hc hl)
  | lor =>
    simp only [Bool.and_eq_true, decide_eq_true_eq] at he1
    simp only [ilen] at he1
    obtain ⟨hdg, rfl⟩ := he1
    simp only [stp] at hs
    have hz9 := pJ_inv hs
    clear hs
    obtain ⟨y, r0, rfl, hs⟩ := hz9
    have hz9 := pJ_inv hs
    clear hs
    obtain ⟨x, r0, rfl, hs⟩ := hz9
    cases hs
    exact lv_lor hx hb hdg (k H locs cells slots ls hR hS hL hc hl)
  | lcmp =>
    simp only [Bool.and_eq_true, decide_eq_true_eq] at he1
    simp only [ilen] at he1
    obtain ⟨hdg, rfl⟩ := he1
    simp only [stp] at hs
    have hz9 := pJ_inv hs
    clear hs
    obtain ⟨y, r0, rfl, hs⟩ := hz9
    have hz9 := pJ_inv hs
    clear hs
    obtain ⟨x, r0, rfl, hs⟩ := hz9
    cases hs
    exact W.lcmp hx hb hdg (k H locs cells slots ls hR hS hL hc hl)
  | lshl =>
    simp only [Bool.and_eq_true, decide_eq_true_eq] at he1
    simp only [ilen] at he1
    obtain ⟨hdg, rfl⟩ := he1
    simp only [stp] at hs
    have hz9 := pI_inv hs
    clear hs
    obtain ⟨y, r0, rfl, hs⟩ := hz9
    have hz9 := pJ_inv hs
    clear hs
    obtain ⟨x, r0, rfl, hs⟩ := hz9
    cases hs
    exact lv_lshl hx hb hdg rfl (k H locs cells slots ls hR hS hL hc hl)
  | lshr =>
    simp only [Bool.and_eq_true, decide_eq_true_eq] at he1
    simp only [ilen] at he1
    obtain ⟨hdg, rfl⟩ := he1
    simp only [stp] at hs
    have hz9 := pI_inv hs
    clear hs
    obtain ⟨y, r0, rfl, hs⟩ := hz9
    have hz9 := pJ_inv hs
    clear hs
    obtain ⟨x, r0, rfl, hs⟩ := hz9
    cases hs
    exact lv_lshr hx hb hdg rfl (k H locs cells slots ls hR hS hL hc hl)
  | lushr =>
    simp only [Bool.and_eq_true, decide_eq_true_eq] at he1
    simp only [ilen] at he1
    obtain ⟨hdg, rfl⟩ := he1
    simp only [stp] at hs
    have hz9 := pI_inv hs
    clear hs
    obtain ⟨y, r0, rfl, hs⟩ := hz9
    have hz9 := pJ_inv hs
    clear hs
    obtain ⟨x, r0, rfl, hs⟩ := hz9
    cases hs
    exact lv_lushr hx hb hdg rfl (k H locs cells slots ls hR hS hL hc hl)
  | i2l =>
    simp only [Bool.and_eq_true, decide_eq_true_eq] at he1
    simp only [ilen] at he1
    obtain ⟨hdg, rfl⟩ := he1
    simp only [stp] at hs
    have hz9 := pI_inv hs
    clear hs
    obtain ⟨x, r0, rfl, hs⟩ := hz9
    cases hs
    exact lv_i2l hx hb hdg rfl (k H locs cells slots ls hR hS hL hc hl)
  | l2i =>
    simp only [Bool.and_eq_true, decide_eq_true_eq] at he1
    simp only [ilen] at he1
    obtain ⟨hdg, rfl⟩ := he1
    simp only [stp] at hs
    have hz9 := pJ_inv hs
    clear hs
    obtain ⟨x, r0, rfl, hs⟩ := hz9
    cases hs
    exact lv_l2i hx hb hdg rfl (k H locs cells slots ls hR hS hL hc hl)
  | i2b =>
    simp only [Bool.and_eq_true, decide_eq_true_eq] at he1
    simp only [ilen] at he1
    obtain ⟨hdg, rfl⟩ := he1
    simp only [stp] at hs
    have hz9 := pI_inv hs
    clear hs
    obtain ⟨x, r0, rfl, hs⟩ := hz9
    cases hs
    exact lv_i2b hx hb hdg rfl (k H locs cells slots ls hR hS hL hc hl)
  | dup =>
    simp only [Bool.and_eq_true, decide_eq_true_eq] at he1
    simp only [ilen] at he1
    obtain ⟨hdg, rfl⟩ := he1
    simp only [stp] at hs
    have hz9 := p1_inv hs
    clear hs
    obtain ⟨v, r, rfl, hv, hs⟩ := hz9
    cases hs
    exact lv_dup hx hb hdg hv (k H locs cells slots ls hR hS hL hc hl)
  | pop =>
    simp only [Bool.and_eq_true, decide_eq_true_eq] at he1
    simp only [ilen] at he1
    obtain ⟨hdg, rfl⟩ := he1
    simp only [stp] at hs
    have hz9 := p1_inv hs
    clear hs
    obtain ⟨v, r, rfl, hv, hs⟩ := hz9
    cases hs
    exact lv_pop hx hb hdg hv (k H locs cells slots ls hR hS hL hc hl)
  | dup_x1 =>
    simp only [Bool.and_eq_true, decide_eq_true_eq] at he1
    simp only [ilen] at he1
    obtain ⟨hdg, rfl⟩ := he1
    simp only [stp] at hs
    have hz9 := p1_inv hs
    clear hs
    obtain ⟨v, r, rfl, hv, hs⟩ := hz9
    have hz9 := p1_inv hs
    clear hs
    obtain ⟨w, r, rfl, hw, hs⟩ := hz9
    cases hs
    exact lv_dup_x1 hx hb hdg hv hw (k H locs cells slots ls hR hS hL hc hl)
  | dup_x2 =>
    simp only [Bool.and_eq_true, decide_eq_true_eq] at he1
    simp only [ilen] at he1
    obtain ⟨hdg, rfl⟩ := he1
    simp only [stp] at hs
    have hz9 := p1_inv hs
    clear hs
    obtain ⟨v, r, rfl, hv, hs⟩ := hz9
    have hz9 := p1_inv hs
    clear hs
    obtain ⟨w, r, rfl, hw, hs⟩ := hz9
    have hz9 := p1_inv hs
    clear hs
    obtain ⟨u, r, rfl, hu, hs⟩ := hz9
    cases hs
    exact lv_dup_x2 hx hb hdg hv hw hu (k H locs cells slots ls hR hS hL hc hl)
  | dup2 =>
    simp only [Bool.and_eq_true, decide_eq_true_eq] at he1
    simp only [ilen] at he1
    obtain ⟨hdg, rfl⟩ := he1
    simp only [stp] at hs
    have hz9 := p1_inv hs
    clear hs
    obtain ⟨v, r, rfl, hv, hs⟩ := hz9
    have hz9 := p1_inv hs
    clear hs
    obtain ⟨w, r, rfl, hw, hs⟩ := hz9
    cases hs
    exact lv_dup2_11 hx hb hdg hv hw (k H locs cells slots ls hR hS hL hc hl)
  | goto off =>
    simp only [Bool.and_eq_true, decide_eq_true_eq] at he1
    simp only [ilen] at he1
    obtain ⟨hdg, rfl⟩ := he1
    obtain ⟨t, r, rfl, ht⟩ := tgt1_inv he2
    cases hs
    exact lv_goto hx hb hdg ht (k H locs cells slots ls hR hS hL hc hl)
  | ifnull off =>
    simp only [Bool.and_eq_true, decide_eq_true_eq] at he1
    simp only [ilen] at he1
    obtain ⟨hdg, rfl⟩ := he1
    obtain ⟨t, r, rfl, ht⟩ := tgt1_inv he2
    simp only [stp, nI1_cons] at hs
    have hz9 := pQ_inv hs
    clear hs
    obtain ⟨x, r, rfl, hs⟩ := hz9
    cases x with
    | none => cases hs; exact lv_ifnullN hx hb hdg ht (k H locs cells slots ls hR hS hL hc hl)
    | some y => cases hs; exact lv_ifnull hx hb hdg (k H locs cells slots ls hR hS hL hc hl)
  | ifnonnull off =>
    simp only [Bool.and_eq_true, decide_eq_true_eq] at he1
    simp only [ilen] at he1
    obtain ⟨hdg, rfl⟩ := he1
    obtain ⟨t, r, rfl, ht⟩ := tgt1_inv he2
    simp only [stp, nI1_cons] at hs
    have hz9 := pQ_inv hs
    clear hs
    obtain ⟨x, r, rfl, hs⟩ := hz9
    cases x with
    | none => cases hs; exact lv_ifnonnullN hx hb hdg (k H locs cells slots ls hR hS hL hc hl)
    | some y => cases hs; exact lv_ifnonnull hx hb hdg ht (k H locs cells slots ls hR hS hL hc hl)
  | ifCond cd off =>
    simp only [Bool.and_eq_true, decide_eq_true_eq] at he1
    simp only [ilen] at he1
    obtain ⟨hdg, rfl⟩ := he1
    obtain ⟨t, r, rfl, ht⟩ := tgt1_inv he2
    simp only [stp, nI1_cons] at hs
    have hz9 := pI_inv hs
    clear hs
    obtain ⟨x, r, rfl, hs⟩ := hz9
    have k : ∀ pc'', pc'' = pc' → lv = lv' → r = st' → h = h1 → W p l e R s m args below meth c H locs cells slots Q (F0 m pc'' ls r) := by
      intro pc'' e1 e2 e3 e4
      subst e1 e2 e3 e4
      exact k H locs cells slots ls hR hS hL hc hl
    cases cd <;> simp only [Option.some.injEq, Prod.mk.injEq] at hs <;> obtain ⟨q1, q2, q3, q4⟩ := hs
    · exact lv_if_eq hx hb hdg ht (fun z => k _ (by rw [← q1, if_pos z]) q2 q3 q4) (fun z => k _ (by rw [← q1, if_neg z]) q2 q3 q4)
    · exact lv_if_ne hx hb hdg ht (fun z => k _ (by rw [← q1, if_neg z]) q2 q3 q4) (fun z => k _ (by rw [← q1, if_pos z]) q2 q3 q4)
    · exact lv_if_lt hx hb hdg ht (fun z => k _ (by rw [← q1, if_pos z]) q2 q3 q4) (fun z => k _ (by rw [← q1, if_neg z]) q2 q3 q4)
    · exact lv_if_ge hx hb hdg ht (fun z => k _ (by rw [← q1, if_pos z]) q2 q3 q4) (fun z => k _ (by rw [← q1, if_neg z]) q2 q3 q4)
    · exact lv_if_gt hx hb hdg ht (fun z => k _ (by rw [← q1, if_pos z]) q2 q3 q4) (fun z => k _ (by rw [← q1, if_neg z]) q2 q3 q4)
    · exact lv_if_le hx hb hdg ht (fun z => k _ (by rw [← q1, if_pos z]) q2 q3 q4) (fun z => k _ (by rw [← q1, if_neg z]) q2 q3 q4)
  | if_icmp cd off =>
    simp only [Bool.and_eq_true, decide_eq_true_eq] at he1
    simp only [ilen] at he1
    obtain ⟨hdg, rfl⟩ := he1
    obtain ⟨t, r, rfl, ht⟩ := tgt1_inv he2
    simp only [stp, nI1_cons] at hs
    have hz9 := pI_inv hs
    clear hs
    obtain ⟨y, r, rfl, hs⟩ := hz9
    have hz9 := pI_inv hs
    clear hs
    obtain ⟨x, r, rfl, hs⟩ := hz9
    have k : ∀ pc'', pc'' = pc' → lv = lv' → r = st' → h = h1 → W p l e R s m args below meth c H locs cells slots Q (F0 m pc'' ls r) := by
      intro pc'' e1 e2 e3 e4
      subst e1 e2 e3 e4
      exact k H locs cells slots ls hR hS hL hc hl
    cases cd <;> simp only [Option.some.injEq, Prod.mk.injEq] at hs <;> obtain ⟨q1, q2, q3, q4⟩ := hs
    · exact lv_icmp_eq hx hb hdg ht (fun z => k _ (by rw [← q1, if_pos z]) q2 q3 q4) (fun z => k _ (by rw [← q1, if_neg z]) q2 q3 q4)
    · exact lv_icmp_ne hx hb hdg ht (fun z => k _ (by rw [← q1, if_neg z]) q2 q3 q4) (fun z => k _ (by rw [← q1, if_pos z]) q2 q3 q4)
    · exact lv_icmp_lt hx hb hdg ht (fun z => k _ (by rw [← q1, if_pos z]) q2 q3 q4) (fun z => k _ (by rw [← q1, if_neg z]) q2 q3 q4)
    · exact lv_icmp_ge hx hb hdg ht (fun z => k _ (by rw [← q1, if_pos z]) q2 q3 q4) (fun z => k _ (by rw [← q1, if_neg z]) q2 q3 q4)
    · exact lv_icmp_gt hx hb hdg ht (fun z => k _ (by rw [← q1, if_pos z]) q2 q3 q4) (fun z => k _ (by rw [← q1, if_neg z]) q2 q3 q4)
    · exact lv_icmp_le hx hb hdg ht (fun z => k _ (by rw [← q1, if_pos z]) q2 q3 q4) (fun z => k _ (by rw [← q1, if_neg z]) q2 q3 q4)
  | if_acmp cd off =>
    simp only [Bool.and_eq_true, decide_eq_true_eq] at he1
    simp only [ilen] at he1
    obtain ⟨hdg, rfl⟩ := he1
    obtain ⟨t, r, rfl, ht⟩ := tgt1_inv he2
    simp only [stp, nI1_cons] at hs
    have hz9 := pQ_inv hs
    clear hs
    obtain ⟨y, r, rfl, hs⟩ := hz9
    have hz9 := pQ_inv hs
    clear hs
    obtain ⟨x, r, rfl, hs⟩ := hz9
    have k : ∀ pc'', pc'' = pc' → lv = lv' → r = st' → h = h1 → W p l e R s m args below meth c H locs cells slots Q (F0 m pc'' ls r) := by
      intro pc'' e1 e2 e3 e4
      subst e1 e2 e3 e4
      exact k H locs cells slots ls hR hS hL hc hl
    cases cd <;> simp only [Option.some.injEq, Prod.mk.injEq] at hs <;> obtain ⟨q1, q2, q3, q4⟩ := hs
    · exact lv_acmp_eq hx hb hdg ht (fun z => k _ (by rw [← q1, if_pos z]) q2 q3 q4) (fun z => k _ (by rw [← q1, if_neg z]) q2 q3 q4)
    · exact lv_acmp_ne hx hb hdg ht (fun z => k _ (by rw [← q1, if_neg z]) q2 q3 q4) (fun z => k _ (by rw [← q1, if_pos z]) q2 q3 q4)
  | tableswitch df lo hi offs =>
    simp only [Bool.and_eq_true, decide_eq_true_eq] at he1
    obtain ⟨hdg, he1⟩ := he1
    obtain ⟨t0, ts, rfl⟩ : ∃ t0 ts, ri = t0 :: ts := by
      rcases ri with _ | ⟨r, r9⟩
      · cases he1
      · exact ⟨r, r9, rfl⟩
    simp only [Bool.and_eq_true, decide_eq_true_eq] at he1
    simp only [stp] at hs
    have hz9 := pI_inv hs
    clear hs
    obtain ⟨x, r, rfl, hs⟩ := hz9
    split at hs
    · rename_i hz
      cases hs
      exact lv_tableOut hx hb hdg hz he1.1 (k H locs cells slots ls hR hS hL hc hl)
    · rename_i hz
      rw [List.getElem?_cons_succ] at hs
      cases ht : ts[(x.toInt - lo).toNat]? with
      | none => rw [ht] at hs; cases hs
      | some t =>
        rw [ht] at hs
        cases hs
        have h5 := congrArg (fun l => l[(x.toInt - lo).toNat]?) he1.2
        simp only [List.getElem?_map, ht, Option.map_some] at h5
        cases ho : offs.toList[(x.toInt - lo).toNat]? with
        | none => rw [ho] at h5; cases h5
        | some off =>
          rw [ho] at h5
          have h6 : (pc : Int) + off = (pc' : Int) := Option.some.inj h5
          exact lv_tableIn hx hb hdg (fun q => hz (Or.inl q)) (fun q => hz (Or.inr q)) (by rw [← Array.getElem?_toList]; exact ho) h6 (k H locs cells slots ls hR hS hL hc hl)
  | getfield idx =>
    simp only [Bool.and_eq_true, decide_eq_true_eq] at he1
    simp only [ilen] at he1
    obtain ⟨hdg, rfl⟩ := he1
    obtain ⟨r, ci, kf, r9, rfl⟩ : ∃ r ci kf r9, ri = r :: ci :: kf :: r9 := by
      rcases ri with _ | ⟨r, _ | ⟨ci, _ | ⟨kf, r9⟩⟩⟩
      · cases he2
      · cases he2
      · cases he2
      · exact ⟨r, ci, kf, r9, rfl⟩
    dsimp only at he2
    simp only [stp, nI3] at hs
    have hz9 := pR_inv hs
    clear hs
    obtain ⟨a, r0, rfl, hs⟩ := hz9
    have hz9 := oI_inv hs
    clear hs
    obtain ⟨cj, fs, ha, hs⟩ := hz9
    have hz9 := iff'_inv hs
    clear hs
    obtain ⟨rfl, hs⟩ := hz9
    cases hv : fs[kf]? with
    | none => rw [hv] at hs; cases hs
    | some v =>
      rw [hv] at hs
      cases hs
      cases hq : FT[r]? with
      | none => rw [hq] at he2; cases he2
      | some q =>
        obtain ⟨q1, q2, q3, q4, q5, q6⟩ := q
        rw [hq] at he2
        simp only [Option.any_some, Bool.and_eq_true, decide_eq_true_eq] at he2
        obtain ⟨⟨⟨rfl, rfl⟩, rfl⟩, rfl⟩ := he2
        exact rw_get hx hb hW hown (hR.2.2 a _ ha).2 hq hv hdg (k H locs cells slots ls hR hS hL hc hl)
  | putfield idx =>
    simp only [Bool.and_eq_true, decide_eq_true_eq] at he1
    simp only [ilen] at he1
    obtain ⟨hdg, rfl⟩ := he1
    obtain ⟨r, ci, kf, r9, rfl⟩ : ∃ r ci kf r9, ri = r :: ci :: kf :: r9 := by
      rcases ri with _ | ⟨r, _ | ⟨ci, _ | ⟨kf, r9⟩⟩⟩
      · cases he2
      · cases he2
      · cases he2
      · exact ⟨r, ci, kf, r9, rfl⟩
    obtain ⟨v, st9, rfl⟩ : ∃ v st9, st = v :: st9 := by
      rcases st with _ | ⟨v, st9⟩
      · cases hs
      · exact ⟨v, st9, rfl⟩
    dsimp only at he2
    simp only [stp, nI3] at hs
    have hz9 := pR_inv hs
    clear hs
    obtain ⟨a, r0, rfl, hs⟩ := hz9
    have hz9 := oI_inv hs
    clear hs
    obtain ⟨cj, fs, ha, hs⟩ := hz9
    have hz9 := iff'_inv hs
    clear hs
    obtain ⟨rfl, hs⟩ := hz9
    split at hs
    · rename_i ty hty
      have hz9 := iff'_inv hs
      clear hs
      obtain ⟨hv, hs⟩ := hz9
      cases hs
      cases hq : FT[r]? with
      | none => rw [hq] at he2; cases he2
      | some q =>
        obtain ⟨q1, q2, q3, q4, q5, q6⟩ := q
        rw [hq] at he2
        simp only [Option.any_some, Bool.and_eq_true, decide_eq_true_eq] at he2
        obtain ⟨⟨⟨⟨rfl, rfl⟩, rfl⟩, rfl⟩, hfin⟩ := he2
        exact rw_put hx hb hW hown hR hS ha hq hfin hini hty hv hdg (fun H1 locs1 hR1 hS1 => k H1 locs1 cells slots ls hR1 hS1 hL hc hl)
    · cases hs
  | arraylength =>
    simp only [Bool.and_eq_true, decide_eq_true_eq] at he1
    simp only [ilen] at he1
    obtain ⟨hdg, rfl⟩ := he1
    simp only [stp] at hs
    have hz9 := pR_inv hs
    clear hs
    obtain ⟨a, r0, rfl, hs⟩ := hz9
    split at hs
    · rename_i hz
      subst hz
      cases hs
      exact va_slen (A := fun q => base ≤ q) hx hb hH.2.2.1 hbl hb0 hS hdg (k H locs cells slots ls hR hS hL hc hl)
    · have hz9 := aI_inv hs
      clear hs
      obtain ⟨ty, n, f, ha, hs⟩ := hz9
      cases hs
      obtain ⟨-, ht, hcl⟩ := hR.2.2 a _ ha
      exact W.alen (n := Int32.ofNat n) hx hb hcl ((hW.2.2.1 ty ht).1 n f) (by rw [arrV_size] <;> rfl) rfl rfl hdg (k H locs cells slots ls hR hS hL hc hl)
  | iaload =>
    simp only [Bool.and_eq_true, decide_eq_true_eq] at he1
    simp only [ilen] at he1
    obtain ⟨hdg, rfl⟩ := he1
    simp only [stp] at hs
    have hz9 := pI_inv hs
    clear hs
    obtain ⟨i, r0, rfl, hs⟩ := hz9
    have hz9 := pR_inv hs
    clear hs
    obtain ⟨a, r0, rfl, hs⟩ := hz9
    split at hs
    · rename_i hz
      subst hz
      have hz9 := bI_inv hs
      clear hs
      obtain ⟨hi, hs⟩ := hz9
      cases hs
      exact va_sld (A := fun q => base ≤ q) hx hb hH.2.2.1 hbl hb0 hS hi hdg (k H locs cells slots ls hR hS hL hc hl)
    · have hz9 := aI_inv hs
      clear hs
      obtain ⟨ty, n, f, ha, hs⟩ := hz9
      obtain ⟨hba, ht, hcl⟩ := hR.2.2 a _ ha
      cases ty with
      | int =>
        have hz9 := bI_inv hs
        clear hs
        obtain ⟨hi, hs⟩ := hz9
        cases hs
        exact W.iald hx hb hcl ((hW.2.2.1 _ ht).1 n f) arr_nu (arr_in hi) (arr_rd hi) rfl rfl hdg (k H locs cells slots ls hR hS hL hc hl)
      | _ => cases hs
  | laload =>
    simp only [Bool.and_eq_true, decide_eq_true_eq] at he1
    simp only [ilen] at he1
    obtain ⟨hdg, rfl⟩ := he1
    simp only [stp] at hs
    have hz9 := pI_inv hs
    clear hs
    obtain ⟨i, r0, rfl, hs⟩ := hz9
    have hz9 := pR_inv hs
    clear hs
    obtain ⟨a, r0, rfl, hs⟩ := hz9
    have hz9 := aI_inv hs
    clear hs
    obtain ⟨ty, n, f, ha, hs⟩ := hz9
    obtain ⟨hba, ht, hcl⟩ := hR.2.2 a _ ha
    cases ty with
    | long =>
      have hz9 := bI_inv hs
      clear hs
      obtain ⟨hi, hs⟩ := hz9
      cases hs
      exact W.lald hx hb hcl ((hW.2.2.1 _ ht).1 n f) arr_nu (arr_in hi) (arr_rd hi) rfl rfl hdg (k H locs cells slots ls hR hS hL hc hl)
    | _ => cases hs
  | baload =>
    simp only [Bool.and_eq_true, decide_eq_true_eq] at he1
    simp only [ilen] at he1
    obtain ⟨hdg, rfl⟩ := he1
    simp only [stp] at hs
    have hz9 := pI_inv hs
    clear hs
    obtain ⟨i, r0, rfl, hs⟩ := hz9
    have hz9 := pR_inv hs
    clear hs
    obtain ⟨a, r0, rfl, hs⟩ := hz9
    have hz9 := aI_inv hs
    clear hs
    obtain ⟨ty, n, f, ha, hs⟩ := hz9
    obtain ⟨hba, ht, hcl⟩ := hR.2.2 a _ ha
    cases ty with
    | byte =>
      have hz9 := bI_inv hs
      clear hs
      obtain ⟨hi, hs⟩ := hz9
      cases hs
      exact W.bald hx hb hcl ((hW.2.2.1 _ ht).1 n f) arr_nu (arr_in hi) (arr_rd hi) rfl rfl hdg (k H locs cells slots ls hR hS hL hc hl)
    | boolean =>
      have hz9 := bI_inv hs
      clear hs
      obtain ⟨hi, hs⟩ := hz9
      cases hs
      exact W.zald hx hb hcl ((hW.2.2.1 _ ht).1 n f) arr_nu (arr_in hi) (arr_rd hi) rfl rfl hdg (k H locs cells slots ls hR hS hL hc hl)
    | _ => cases hs
  | aaload =>
    simp only [Bool.and_eq_true, decide_eq_true_eq] at he1
    simp only [ilen] at he1
    obtain ⟨hdg, rfl⟩ := he1
    simp only [stp] at hs
    have hz9 := pI_inv hs
    clear hs
    obtain ⟨i, r0, rfl, hs⟩ := hz9
    have hz9 := pR_inv hs
    clear hs
    obtain ⟨a, r0, rfl, hs⟩ := hz9
    have hz9 := aI_inv hs
    clear hs
    obtain ⟨ty, n, f, ha, hs⟩ := hz9
    obtain ⟨hba, ht, hcl⟩ := hR.2.2 a _ ha
    cases ty with
    | object C =>
      have hz9 := bI_inv hs
      clear hs
      obtain ⟨hi, hs⟩ := hz9
      cases hs
      exact W.aald hx hb hcl ((hW.2.2.1 _ ht).1 n f) rfl arr_nu (arr_in hi) (arr_rd hi) rfl rfl hdg (k H locs cells slots ls hR hS hL hc hl)
    | array t =>
      have hz9 := bI_inv hs
      clear hs
      obtain ⟨hi, hs⟩ := hz9
      cases hs
      exact W.aald hx hb hcl ((hW.2.2.1 _ ht).1 n f) rfl arr_nu (arr_in hi) (arr_rd hi) rfl rfl hdg (k H locs cells slots ls hR hS hL hc hl)
    | _ => cases hs
  | iastore =>
    simp only [Bool.and_eq_true, decide_eq_true_eq] at he1
    simp only [ilen] at he1
    obtain ⟨hdg, rfl⟩ := he1
    simp only [stp] at hs
    have hz9 := pI_inv hs
    clear hs
    obtain ⟨x, r0, rfl, hs⟩ := hz9
    have hz9 := pI_inv hs
    clear hs
    obtain ⟨i, r0, rfl, hs⟩ := hz9
    have hz9 := pR_inv hs
    clear hs
    obtain ⟨a, r0, rfl, hs⟩ := hz9
    have hz9 := aI_inv hs
    clear hs
    obtain ⟨ty, n, f, ha, hs⟩ := hz9
    obtain ⟨hba, ht, hcl⟩ := hR.2.2 a _ ha
    cases ty with
    | int =>
      have hz9 := bI_inv hs
      clear hs
      obtain ⟨hi, hs⟩ := hz9
      cases hs
      exact W.iast hx hb hcl ((hW.2.2.1 _ ht).1 n f) arr_nu (arr_in hi) rfl rfl hdg fun H1 e1 z oq => k H1 _ cells slots ls (hR.ast ha e1 z oq) (hS.put z oq hba) hL hc hl
    | _ => cases hs
  | lastore =>
    simp only [Bool.and_eq_true, decide_eq_true_eq] at he1
    simp only [ilen] at he1
    obtain ⟨hdg, rfl⟩ := he1
    simp only [stp] at hs
    have hz9 := pJ_inv hs
    clear hs
    obtain ⟨x, r0, rfl, hs⟩ := hz9
    have hz9 := pI_inv hs
    clear hs
    obtain ⟨i, r0, rfl, hs⟩ := hz9
    have hz9 := pR_inv hs
    clear hs
    obtain ⟨a, r0, rfl, hs⟩ := hz9
    have hz9 := aI_inv hs
    clear hs
    obtain ⟨ty, n, f, ha, hs⟩ := hz9
    obtain ⟨hba, ht, hcl⟩ := hR.2.2 a _ ha
    cases ty with
    | long =>
      have hz9 := bI_inv hs
      clear hs
      obtain ⟨hi, hs⟩ := hz9
      cases hs
      exact W.last hx hb hcl ((hW.2.2.1 _ ht).1 n f) arr_nu (arr_in hi) rfl rfl hdg fun H1 e1 z oq => k H1 _ cells slots ls (hR.ast ha e1 z oq) (hS.put z oq hba) hL hc hl
    | _ => cases hs
  | bastore =>
    simp only [Bool.and_eq_true, decide_eq_true_eq] at he1
    simp only [ilen] at he1
    obtain ⟨hdg, rfl⟩ := he1
    simp only [stp] at hs
    have hz9 := pI_inv hs
    clear hs
    obtain ⟨x, r0, rfl, hs⟩ := hz9
    have hz9 := pI_inv hs
    clear hs
    obtain ⟨i, r0, rfl, hs⟩ := hz9
    have hz9 := pR_inv hs
    clear hs
    obtain ⟨a, r0, rfl, hs⟩ := hz9
    have hz9 := aI_inv hs
    clear hs
    obtain ⟨ty, n, f, ha, hs⟩ := hz9
    obtain ⟨hba, ht, hcl⟩ := hR.2.2 a _ ha
    cases ty with
    | byte =>
      have hz9 := bI_inv hs
      clear hs
      obtain ⟨hi, hs⟩ := hz9
      cases hs
      exact W.bast hx hb hcl ((hW.2.2.1 _ ht).1 n f) arr_nu (arr_in hi) rfl rfl hdg fun H1 e1 z oq => k H1 _ cells slots ls (hR.ast ha e1 z oq) (hS.put z oq hba) hL hc hl
    | boolean =>
      have hz9 := bI_inv hs
      clear hs
      obtain ⟨hi, hs⟩ := hz9
      cases hs
      exact W.zast hx hb hcl ((hW.2.2.1 _ ht).1 n f) arr_nu (arr_in hi) rfl rfl hdg fun H1 e1 z oq => k H1 _ cells slots ls (hR.ast ha e1 z oq) (hS.put z oq hba) hL hc hl
    | _ => cases hs
  | aastore =>
    simp only [Bool.and_eq_true, decide_eq_true_eq] at he1
    simp only [ilen] at he1
    obtain ⟨hdg, rfl⟩ := he1
    simp only [stp] at hs
    have hz9 := pQ_inv hs
    clear hs
    obtain ⟨x, r0, rfl, hs⟩ := hz9
    have hz9 := pI_inv hs
    clear hs
    obtain ⟨i, r0, rfl, hs⟩ := hz9
    have hz9 := pR_inv hs
    clear hs
    obtain ⟨a, r0, rfl, hs⟩ := hz9
    have hz9 := aI_inv hs
    clear hs
    obtain ⟨ty, n, f, ha, hs⟩ := hz9
    obtain ⟨hba, ht, hcl⟩ := hR.2.2 a _ ha
    cases ty with
    | object C =>
      have hz9 := bI_inv hs
      clear hs
      obtain ⟨hi, hs⟩ := hz9
      cases x with
      | none =>
        cases hs
        exact va_WaastN (C := C) hx hb hcl ((hW.2.2.1 _ ht).1 n f) arr_nu (arr_in hi) rfl rfl hdg fun H1 e1 z oq => k H1 _ cells slots ls (hR.ast ha e1 z oq) (hS.put z oq hba) hL hc hl
      | some v =>
        have hz9 := oI_inv hs
        clear hs
        obtain ⟨cj, fs, hv, hs⟩ := hz9
        have hz9 := iff'_inv hs
        clear hs
        obtain ⟨hC, hs⟩ := hz9
        cases hs
        obtain ⟨hbv, q, h1, h2, cell, g1, g2, g3, -⟩ := hR.2.2 v _ hv
        rw [h1] at hC
        cases hC
        have hcls := (hW.2.1.1 cj q h1).2
        obtain ⟨kA, comp, k1, k2, k3, -⟩ := (hW.2.2.1 _ ht).2
        have hcomp : comp = D.1 cj := Option.some.inj (k3.symm.trans hcls.1)
        subst hcomp
        obtain ⟨kC, hkC, -⟩ := hcls.2
        exact W.aast hx hb hcl (fun q h => by cases h) arr_nu k1 k2 rfl hkC ⟨fun q => hi (Or.inl q), by rw [arrV_size]; exact Nat.not_le.mp fun q => hi (Or.inr q)⟩ g1 (fun q h => by rw [g3] at h; cases h) (by rw [g2]; exact hkC) (by rw [g2]; exact va_assign hcls) rfl rfl hdg
          fun H1 e1 z oq => k H1 _ cells slots ls (hR.ast ha e1 z oq) (hS.put z oq hba) hL hc hl
    | _ => cases hs
  | newarray at_ =>
    simp only [Bool.and_eq_true, decide_eq_true_eq] at he1
    simp only [ilen] at he1
    obtain ⟨hdg, rfl⟩ := he1
    simp only [stp] at hs
    have hz9 := pI_inv hs
    clear hs
    obtain ⟨n, r0, rfl, hs⟩ := hz9
    cases ht : newT at_ with
    | none => rw [ht] at hs; cases hs
    | some ty =>
      rw [ht] at hs
      have hz9 := iff'_inv hs
      clear hs
      obtain ⟨hn, hs⟩ := hz9
      cases hs
      have r1 : h.1 + 1 ≤ n0 + R.cells := hroom.1
      have r2 : h.2.1 + n.toNatClampNeg ≤ s0 + R.slots := hroom.2
      exact rw_newa hx hb hW hR hS ht hn (by omega) (by omega) hdg fun H1 hR1 hS1 => k H1 locs _ _ ls hR1 hS1 hL (by show cells + 1 + n0 = h.1 + 1; omega) (by show slots + n.toNatClampNeg + s0 = h.2.1 + n.toNatClampNeg; omega)
  | anewarray idx =>
    simp only [Bool.and_eq_true, decide_eq_true_eq] at he1
    simp only [ilen] at he1
    obtain ⟨hdg, rfl⟩ := he1
    obtain ⟨t, wi, wj, r9, rfl⟩ : ∃ t wi wj r9, ri = t :: wi :: wj :: r9 := by
      rcases ri with _ | ⟨t, _ | ⟨wi, _ | ⟨wj, r9⟩⟩⟩
      · cases he2
      · cases he2
      · cases he2
      · exact ⟨t, wi, wj, r9, rfl⟩
    simp only [stp, nI1_cons] at hs
    have hz9 := pI_inv hs
    clear hs
    obtain ⟨n, r0, rfl, hs⟩ := hz9
    dsimp only at he2
    split at hs
    · rename_i C ht
      rw [ht] at he2
      simp only [Bool.and_eq_true, decide_eq_true_eq] at he2
      have hz9 := iff'_inv hs
      clear hs
      obtain ⟨hn, hs⟩ := hz9
      cases hs
      have r1 : h.1 + 1 ≤ n0 + R.cells := hroom.1
      have r2 : h.2.1 + n.toNatClampNeg ≤ s0 + R.slots := hroom.2
      exact rw_anew hx hb hW hown hR hS (List.mem_of_getElem? ht) he2.1 he2.2 hn (by omega) (by omega) hdg fun H1 hR1 hS1 => k H1 locs _ _ ls hR1 hS1 hL (by show cells + 1 + n0 = h.1 + 1; omega) (by show slots + n.toNatClampNeg + s0 = h.2.1 + n.toNatClampNeg; omega)
    · cases hs
  | new idx =>
    simp only [Bool.and_eq_true, decide_eq_true_eq] at he1
    simp only [ilen] at he1
    obtain ⟨hdg, rfl⟩ := he1
    obtain ⟨ci, wi, r9, rfl⟩ : ∃ ci wi r9, ri = ci :: wi :: r9 := by
      rcases ri with _ | ⟨ci, _ | ⟨wi, r9⟩⟩
      · cases he2
      · cases he2
      · exact ⟨ci, wi, r9, rfl⟩
    dsimp only at he2
    simp only [stp, nI1_cons] at hs
    cases hv : vty[ci]? with
    | none => rw [hv] at hs; cases hs
    | some ts =>
      rw [hv] at hs
      cases hs
      cases hq : vcl[ci]? with
      | none => rw [hq] at he2; cases he2
      | some q =>
        rw [hq] at he2
        simp only [Option.any_some, decide_eq_true_eq] at he2
        have r1 : h.1 + 1 ≤ n0 + R.cells := hroom.1
        have r2 : h.2.1 + ts.length ≤ s0 + R.slots := hroom.2
        exact rw_new hx hb hW hown hR hS hq hv he2 (by omega) (by omega) hdg fun H1 hR1 hS1 => k H1 locs _ _ ls hR1 hS1 hL (by show cells + 1 + n0 = h.1 + 1; omega) (by show slots + ts.length + s0 = h.2.1 + ts.length; omega)
  | _ => cases hs
end SndS
