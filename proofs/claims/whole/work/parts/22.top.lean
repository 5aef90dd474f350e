/-! the start of the law: what the tables and the premises say there -/
theorem wk_swap {w : Cond} (hw : wk w = true) {s : State} {A B : Array Value} (h : w.before A s = true) : w.before B s = true := by
  cases w with
  | fieldLinkNest a i b n d q => exact va_tabs rfl rfl h
  | methodLinkNest a i x q => exact va_tabs rfl rfl h
  | declares x => exact va_tabs rfl rfl h
  | castable a b => exact va_tabs rfl rfl h
  | arrayOver ty => exact h
  | _ => exact word_at (State.WarmedH.refl s) (good_of_word hw) h
theorem arrayOver_specA {s : State} {A : Array Value} {t : FieldType} (h : (Cond.arrayOver (.array t)).before A s = true) :
    ∃ comp c k, s.vm.findClass (FieldType.array t).toString = some comp ∧ s.vm.classes[c]? = some k ∧ k.kind = .array comp (.array t) ∧ s.vm.findClass ("[" ++ (FieldType.array t).toString) = some c := by
  simp only [Cond.before, Cond.holds, Cond.value, beq_iff_eq] at h
  cases hc : s.vm.findClass (FieldType.array t).toString with
  | none => simp [hc] at h
  | some comp =>
    rw [hc, Option.bind_some] at h
    obtain ⟨c, h1, h2⟩ := Option.bind_eq_some_iff.mp h
    obtain ⟨k, h3, h4⟩ := Option.map_eq_some_iff.mp h2
    split at h4
    · rename_i cm ty hk
      simp only [Bool.and_eq_true, decide_eq_true_eq] at h4
      obtain ⟨rfl, h6⟩ := h4
      have hcomp : cm = comp := by
        obtain ⟨hlt, hp, -⟩ := Array.findIdx?_eq_some_iff_getElem.mp h1
        have e : s.vm.classes[c] = k := Option.some.inj ((Array.getElem?_eq_getElem hlt).symm.trans h3)
        rw [e, hk] at hp
        exact eq_of_beq hp
      subst hcomp
      exact ⟨cm, c, k, rfl, h3, hk, h6⟩
    · cases h4
theorem top_words : (∀ ty ∈ ([.int, .long, .byte, .boolean] : List FieldType), Cond.arrayClass ty ∈ lw_tbl) ∧ (∀ n ∈ ["TapeVault$Node", "TapeVault$Dump"], Cond.arrayOver (.object n) ∈ lw_tbl) ∧ (∀ ty ∈ ([.byte, .boolean, .int] : List FieldType), Cond.arrayOver (.array ty) ∈ lw_tbl) ∧ Cond.laysStatic Bundle.tN "UNASSIGNED_STACK" Bundle.steD ∈ lw_tbl ∧ Cond.laysStatic Bundle.tN "SUPPRESSED_SENTINEL" Bundle.listD ∈ lw_tbl ∧ Cond.initialized Bundle.tN ∈ lw_tbl := by decide +kernel
theorem top_nc : ∀ a ∈ exn, ∀ b ∈ exn, a ≠ b → Cond.not (.castable a b) ∈ flatC (Jvm.Cond.and given_1 narrow_1) := by decide +kernel
theorem top_ref : Cond.isRef (.static Bundle.tN "UNASSIGNED_STACK" Bundle.steD) ∈ flatC (Jvm.Cond.and given_1 narrow_1) ∧ Cond.isRef (.static Bundle.tN "SUPPRESSED_SENTINEL" Bundle.listD) ∈ flatC (Jvm.Cond.and given_1 narrow_1) := by decide +kernel
theorem top_arr {s : State} {A : Array Value} (hts : ∀ w ∈ lw_tbl, w.before A s = true) : ∀ ty : FieldType, ∃ cA : ClassId, ty ∈ atys → ArrOfT s cA ty ∧ va_RA s cA ty := by
  intro ty
  by_cases h : ty ∈ atys
  · have prim : ∀ t ∈ ([.int, .long, .byte, .boolean] : List FieldType), ∃ cA : ClassId, ArrOfT s cA t ∧ s.vm.findClass ("[" ++ t.toString) = some cA := by
      intro t ht
      obtain ⟨c, k, comp, h1, h2, h3⟩ := Cond.arrayClass_spec (hts _ (top_words.1 t ht))
      exact ⟨c, fun n z => ⟨fun q h => (by cases h), k, h2, comp, h3⟩, h1⟩
    have obj : ∀ n ∈ ["TapeVault$Node", "TapeVault$Dump"], ∃ cA : ClassId, ArrOfT s cA (.object n) ∧ va_RA s cA (.object n) := by
      intro n hn
      obtain ⟨comp, c, k, h1, -, h3, h4, h5⟩ := Cond.arrayOver_spec (hts _ (top_words.2.1 n hn))
      exact ⟨c, fun m z => ⟨fun q h => (by cases h), k, h3, comp, h4⟩, k, comp, h3, h4, h1, h5⟩
    have arr : ∀ t ∈ ([.byte, .boolean, .int] : List FieldType), ∃ cA : ClassId, ArrOfT s cA (.array t) ∧ s.vm.findClass ("[" ++ (FieldType.array t).toString) = some cA := by
      intro t ht
      obtain ⟨comp, c, k, h1, h3, h4, h5⟩ := arrayOver_specA (hts _ (top_words.2.2.1 t ht))
      exact ⟨c, fun m z => ⟨fun q h => (by cases h), k, h3, comp, h4⟩, h5⟩
    simp only [atys, List.mem_cons, List.not_mem_nil, or_false] at h
    rcases h with rfl | rfl | rfl | rfl | rfl | rfl | rfl | rfl | rfl
    · obtain ⟨c, h1, h2⟩ := prim .int (by decide); exact ⟨c, fun _ => ⟨h1, h2⟩⟩
    · obtain ⟨c, h1, h2⟩ := prim .long (by decide); exact ⟨c, fun _ => ⟨h1, h2⟩⟩
    · obtain ⟨c, h1, h2⟩ := prim .byte (by decide); exact ⟨c, fun _ => ⟨h1, h2⟩⟩
    · obtain ⟨c, h1, h2⟩ := prim .boolean (by decide); exact ⟨c, fun _ => ⟨h1, h2⟩⟩
    · obtain ⟨c, h1⟩ := obj "TapeVault$Node" (by decide); exact ⟨c, fun _ => h1⟩
    · obtain ⟨c, h1⟩ := obj "TapeVault$Dump" (by decide); exact ⟨c, fun _ => h1⟩
    · obtain ⟨c, h1, h2⟩ := arr .byte (by decide); exact ⟨c, fun _ => ⟨h1, h2⟩⟩
    · obtain ⟨c, h1, h2⟩ := arr .boolean (by decide); exact ⟨c, fun _ => ⟨h1, h2⟩⟩
    · obtain ⟨c, h1, h2⟩ := arr .int (by decide); exact ⟨c, fun _ => ⟨h1, h2⟩⟩
  · exact ⟨0, fun q => absurd q h⟩
theorem top_cls {s : State} {A : Array Value} (hts : ∀ w ∈ lw_tbl, w.before A s = true) : ∀ k : Nat, ∃ q : ClassId × (Nat → Nat), ∀ v : vw_C, vcl[k]? = some v → u_Kn s v.1 v.2.1 v.2.2 q.1 q.2 := by
  intro k
  cases hv : vcl[k]? with
  | none => exact ⟨(0, fun _ => 0), fun v h => by cases h⟩
  | some v =>
    have hm := List.mem_of_getElem? hv
    obtain ⟨c, i, h⟩ := u_known (C := v.1) (T := v.2.1) (N := v.2.2) (n := v.2.2) hts (vcl_in v hm) (hts _ (vcl_inst v hm).1)
    exact ⟨(c, i), fun v' h' => by cases h'; exact h⟩
theorem top_wd {s : State} {b : Nat} (hts : ∀ w ∈ lw_tbl, w.before #[Value.ref b] s = true) (hgv : (Jvm.Cond.and given_1 narrow_1).before #[Value.ref b] s = true) : ∃ (D : va_G) (dA : FieldType → ClassId), Wd D dA s := by
  obtain ⟨F, hF⟩ := Classical.skolem.mp (top_cls hts)
  obtain ⟨dA, hA⟩ := Classical.skolem.mp (top_arr hts)
  have fl := flat_of_before _ hgv
  refine ⟨(fun k => (F k).1, fun k => (F k).2), dA, fun w hw hk => wk_swap hk (hts w hw), ⟨fun k v hv => hF k v hv, fun k q h => by cases h⟩, fun ty ht => hA ty ht, fun a ha b' hb hne => va_Nc.of (fl _ (top_nc a ha b' hb hne)), ?_⟩
  intro ty ht
  obtain ⟨comp, c, k, h1, h3, h4, h5⟩ := arrayOver_specA (hts _ (top_words.2.2.1 ty ht))
  have m1 : FieldType.array ty ∈ atys ∧ ty ∈ atys := by
    simp only [List.mem_cons, List.not_mem_nil, or_false] at ht
    rcases ht with rfl | rfl | rfl <;> exact ⟨by decide, by decide⟩
  have e1 : dA (.array ty) = c := Option.some.inj ((hA _ m1.1).2.symm.trans h5)
  have e2 : dA ty = comp := by
    have h6 : s.vm.findClass ("[" ++ ty.toString) = some (dA ty) := by
      have := (hA _ m1.2).2
      simp only [List.mem_cons, List.not_mem_nil, or_false] at ht
      rcases ht with rfl | rfl | rfl <;> exact this
    have h7 : (FieldType.array ty).toString = "[" ++ ty.toString := by
      simp only [List.mem_cons, List.not_mem_nil, or_false] at ht
      rcases ht with rfl | rfl | rfl <;> decide
    rw [h7] at h1
    exact Option.some.inj (h6.symm.trans h1)
  rw [e1, e2]
  exact ⟨k, h3, h4⟩
theorem top_hw {s : State} {b L : Nat} {xs : Nat → Int32} (hts : ∀ w ∈ lw_tbl, w.before #[Value.ref b] s = true) (hgv : (Jvm.Cond.and given_1 narrow_1).before #[Value.ref b] s = true) (hX : va_X b L xs s s.heap) (hb : b < s.heap.size) : Hw s.heap.size b L xs s s.heap := by
  have fl := flat_of_before _ hgv
  exact ⟨vx_Zqof (hts _ top_words.2.2.2.1) (hts _ top_words.2.2.2.2.2) (fl _ top_ref.1) (fun a h => Nat.not_le.mpr h), vx_Zqof (hts _ top_words.2.2.2.2.1) (hts _ top_words.2.2.2.2.2) (fl _ top_ref.2) (fun a h => Nat.not_le.mpr h), hX, hb, Nat.le_refl _⟩
