/-! arraycopy; then the run as a whole -/
section SndY
variable {D : va_G} {dA : FieldType → ClassId} {base b L : Nat} {xs : Nat → Int32} {l : Launch}
theorem cpy_words : Cond.native arraycopyName ∈ lw_tbl ∧ Cond.static arraycopyName ∈ lw_tbl ∧ Cond.initialized "java/lang/System" ∈ lw_tbl := by decide +kernel
theorem rw_cpy {own : String} {cc : ByteArray} {p : Program} {e : Env} {R : Room} {s : State} {m : MethodId} {args : Array Value} {below : List Frame} {meth : Method} {c : Code} {Q : State → Prop} {H : Heap} {locs : List Loc} {cells slots pc : Nat} {ls : Array Slot} {rest : List Value} {h : AH}
    (hexec : p.tables.exec = Jvm.exec) (hb : c.code = cc) (hml : c.maxLocals = ls.size) (hW : Wd D dA s) (hown : s.vm.findClass own = some m.cls) {idx w1 a a0 n0 n1 : Nat} {ty : FieldType} {f g : Nat → Value} {sp dp n : Int32} (hl1 : lw_tbl[w1]? = some (.methodLink own idx arraycopyName)) (hR : Rp D dA base h H) (hS : va_S (fun q => base ≤ q) s.heap H locs)
    (ha0 : h.2.2 a0 = some (.inl (ty, n0, f))) (ha : h.2.2 a = some (.inl (ty, n1, g))) (hprim : refKind ty = false) (h1 : ¬ sp < 0) (h2 : ¬ dp < 0) (h3 : ¬ n < 0) (h4 : sp.toNatClampNeg + n.toNatClampNeg ≤ n0) (h5 : dp.toNatClampNeg + n.toNatClampNeg ≤ n1) (hfit : ∀ i, i < n.toNatClampNeg → fits ty (f (sp.toNatClampNeg + i)) = true)
    (hframes : 1 ≤ R.frames) (hlocals : wsum rest + 18 ≤ R.locals) (hdg : decode cc pc = .ok (.invokestatic idx, 3))
    (kk : ∀ (H1 : Heap) (locs1 : List Loc), Rp D dA base (hput h a (.inl (ty, n1, va_cpy f g sp.toNatClampNeg dp.toNatClampNeg n.toNatClampNeg))) H1 → va_S (fun q => base ≤ q) s.heap H1 locs1 → W p l e R s m args below meth c H1 locs1 cells slots Q (F0 m (pc + 3) ls rest)) : W p l e R s m args below meth c H locs cells slots Q (F0 m pc ls (.int n :: .int dp :: .ref a :: .int sp :: .ref a0 :: rest)) := by
  have nn : ∀ z : Int32, ¬ z < 0 → z.toInt = (z.toNatClampNeg : Int) := by
    intro z hz
    have hz0 : (0 : Int) ≤ z.toInt := by
      have := Int32.not_lt.mp hz
      simpa using Int32.le_iff_toInt_le.mp this
    show z.toInt = ((z.toInt.toNat : Nat) : Int)
    omega
  obtain ⟨hb0, ht0, hc0⟩ := hR.2.2 a0 _ ha0
  obtain ⟨hba, ht1, hc1⟩ := hR.2.2 a _ ha
  intro T hT X
  obtain ⟨-, k0, hk0, cm0, hkk0⟩ := (hW.2.2.1 ty ht0).1 n0 f
  obtain ⟨-, k1, hk1, cm1, hkk1⟩ := (hW.2.2.1 ty ht1).1 n1 g
  obtain ⟨vm', X', step⟩ := X.arraycopy hexec hown (hW.at hl1 rfl) (hW.word cpy_words.1 rfl) (hW.word cpy_words.2.1 rfl) (hW.word cpy_words.2.2 rfl) (src := a0) (dst := a) (cs := arrV (dA ty) n0 f) (cd := arrV (dA ty) n1 g) (srcPos := sp) (destPos := dp) (n := n) (by rw [hT]; exact hc0) (by rw [hT]; exact hc1)
    (fun _ h => by cases h) (fun _ h => by cases h) (fun h => by cases h) (fun h => by cases h) hk0 hk1 hkk0 hkk1 (by simp [hprim]) h1 h2 h3
    (by rw [nn sp h1, nn n h3, arrV_size]; omega)
    (by rw [nn dp h2, nn n h3, arrV_size]; omega)
    (fun vm₁ _ i hi => by
      have e : (arrV (dA ty) n0 f).slots.getD (sp.toNatClampNeg + i) .null = f (sp.toNatClampNeg + i) := by
        rw [Array.getD_eq_getD_getElem?, arrV_read _ _ (by omega)]
        rfl
      have hf := hfit i hi
      rw [e]
      refine ⟨hf, ?_⟩
      cases hv : f (sp.toNatClampNeg + i) <;> rw [hv] at hf <;> first | trivial | (cases ty <;> first | (simp [refKind] at hprim; done) | (simp [fits] at hf; done)))
    (g := F0 m pc ls (.int n :: .int dp :: .ref a :: .int sp :: .ref a0 :: rest)) rfl (by rw [hml]) (rest := rest) rfl (by rw [hb]; exact hdg) hframes (by show 2 * 0 + wsum rest + (7 + 11) ≤ _; omega)
  have e1 : copied (arrV (dA ty) n0 f) (arrV (dA ty) n1 g) sp dp n = arrV (dA ty) n1 (va_cpy f g sp.toNatClampNeg dp.toNatClampNeg n.toNatClampNeg) := va_copied (fun z => z) (dA ty) (dA ty) f g h4
  rw [e1] at X' step
  have hl : a < H.size := (Array.getElem?_eq_some_iff.mp hc1).1
  have hheap : ((T.setVm vm').setCell a (arrV (dA ty) n1 (va_cpy f g sp.toNatClampNeg dp.toNatClampNeg n.toNatClampNeg))).heap = H.setIfInBounds a (arrV (dA ty) n1 (va_cpy f g sp.toNatClampNeg dp.toNatClampNeg n.toNatClampNeg)) := by rw [← hT]; rfl
  have oq : ∀ q : Nat, q ≠ a → (H.setIfInBounds a (arrV (dA ty) n1 (va_cpy f g sp.toNatClampNeg dp.toNatClampNeg n.toNatClampNeg)))[q]? = H[q]? := fun q hq => by simp [Array.getElem?_setIfInBounds, Ne.symm hq]
  have hz : (H.setIfInBounds a (arrV (dA ty) n1 (va_cpy f g sp.toNatClampNeg dp.toNatClampNeg n.toNatClampNeg))).size = H.size := by simp
  obtain ⟨t, a1, b1⟩ := kk _ _ (hR.put hba ⟨ht1, by simp [Array.getElem?_setIfInBounds, hl]⟩ hz oq) ⟨by rw [hz]; exact hS.1, fun q g1 g2 => by
      rw [oq q (fun e => g2 (by rw [e]; exact hba))]
      exact hS.2.1 q g1 g2, fun q hq => by
      rcases List.mem_append.mp hq with h | h
      · exact hS.2.2 q h
      · obtain ⟨z, -, hz⟩ := List.mem_map.mp h
        rw [← hz]
        exact hba⟩ _ hheap X'
  exact ⟨t, step t a1, b1⟩
theorem ca_cpy {rc : RF} (hS : Snd D dA base b L xs l rc) {d : Nat} {M : MI} {pc nx idx w1 : Nat} {lv : List (Option Value)} {st : List Value} {h h' : AH} {o : RO} {z : List Value × AH} (hM : mokb M = true) (hdg : decode (mB M) pc = .ok (.invokestatic idx, 3)) (hnx : nx = pc + 3) (h1 : wis w1 (.methodLink (mY M).cls idx arraycopyName) = true) (hz : acq st h = some z)
    (hd : 2 ≤ d) (hw : wsum z.1 ≤ 8) (hr : rc d M nx lv z.1 z.2 = some (h', o)) : Ok D dA base b L xs l d M pc lv st h h' o := by
  unfold acq at hz
  split at hz
  · split at hz
    · rename_i n dp a sp a0 r t0 n0 f t1 n1 g ha0 ha
      split at hz
      · rename_i hc
        obtain ⟨rfl, ht, c1, c2, c3, c4, c5, c6⟩ := hc
        cases hz
        dsimp only at hw hr
        obtain ⟨m1, k1⟩ := hS d M nx lv _ _ h' o hM hr
        refine ⟨m1, fun p e R s m args below meth c Q n0 s0 g' => ?_⟩
        intro H locs cells slots ls hR hS1 hL hc hl
        have kk := k1 p e R s m args below meth c Q n0 s0 g'
        obtain ⟨⟨hx, hb, hml, hown, hW, hHw, hlocks⟩, hini, htab, f1, f2, -⟩ := g'
        subst hnx
        exact rw_cpy hx hb (by rw [hml]; exact hL.2.1.symm) hW hown (wis_inv h1) hR hS1 ha0 ha (by rcases ht with rfl | rfl <;> rfl) c1 c2 c3 c4 c5 c6 (by omega) (by omega) hdg (fun H1 locs1 hR1 hS2 => kk H1 locs1 cells slots ls hR1 hS2 hL hc hl)
      · cases hz
    · cases hz
  · cases hz
/-- what a call of the tables' methods came to -/
theorem cd_inv {rc : RF} {d : Nat} {M : MI} {pc nx kd na k : Nat} {t : List Nat} {lv : List (Option Value)} {st : List Value} {h h' : AH} {o : RO} (hr : cdF rc d M pc nx kd na k t lv st h = some (h', o)) :
    ∃ d' as r0 k' rv r M', d = d' + 1 ∧ as.length = na ∧ st = as.reverse ++ r0 ∧ tgtM kd k t r0 h = some (k', rv, r) ∧ mt[k']? = some M' ∧ ((rv ++ as).flatMap ent1).length ≤ mL M' ∧ wsum r ≤ 8 ∧
      ((∃ h1 v, rc d' M' 0 (ent (mL M') (rv ++ as)) [] h = some (h1, .inl v) ∧ rc (d' + 1) M nx lv (v.toList ++ r) h1 = some (h', o)) ∨ (∃ h1 E, rc d' M' 0 (ent (mL M') (rv ++ as)) [] h = some (h1, .inr E) ∧ kd = 9 ∧ ctF rc (d' + 1) M pc lv h1 E = some (h', o))) := by
  unfold cdF at hr
  split at hr
  · cases hr
  · rename_i d'
    cases hp : popN na st with
    | none => rw [hp] at hr; cases hr
    | some z =>
      rw [hp] at hr
      obtain ⟨p1, p2⟩ := popN_inv hp
      cases ht : tgtM kd k t z.2 h with
      | none => simp only [ht] at hr; cases hr
      | some y =>
        obtain ⟨k', rv, r⟩ := y
        simp only [ht] at hr
        cases hm : mt[k']? with
        | none => simp only [hm] at hr; cases hr
        | some M' =>
          simp only [hm] at hr
          split at hr
          · rename_i hc
            refine ⟨d', z.1, z.2, k', rv, r, M', rfl, p1, p2, ht, hm, hc.1, hc.2, ?_⟩
            cases hi : rc d' M' 0 (ent (mL M') (rv ++ z.1)) [] h with
            | none => rw [hi] at hr; cases hr
            | some q =>
              obtain ⟨h1, v | E⟩ := q
              · rw [hi] at hr
                exact Or.inl ⟨h1, v, rfl, hr⟩
              · rw [hi] at hr
                dsimp only at hr
                split at hr
                · exact Or.inr ⟨h1, E, rfl, by assumption, hr⟩
                · cases hr
          · cases hr
end SndY
