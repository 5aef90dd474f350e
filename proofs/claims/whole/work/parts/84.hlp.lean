/-! the law's helpers -/
section Wcn
variable {b L : Nat} {xs : Nat → Int32} {d : Nat} {M : MI} {pc nx : Nat} {ri : List Nat} {lv : List (Option Value)} {st : List Value} {h : AH} {Q : AH → RO → Prop}
theorem w_catchN {i na k ci a E hp nx2 : Nat} {p : Fin 4} {t ri2 : List Nat} {ins2 : Instr} {as rest fs : List Value} {M' : MI} {h1 : AH} (q : fet (mE M) pc = some (.invokevirtual i, nx, 9 :: na :: k :: ci :: t)) (hd : 1 ≤ d) (hpo : popN na st = some (as, .ref a :: rest)) (ho : h.2.2 a = some (.inr (ci, fs))) (hm : mt[k]? = some M') (hl : ((.ref a :: as).flatMap ent1).length ≤ mL M') (hw : wsum rest ≤ 8) (c : Wp b L xs (d - 1) M' 0 (ent (mL M') (.ref a :: as)) [] h (fun h' o => h' = h1 ∧ o = .inr E))
    (hcl : (mY M).cls = "TapeVaultLaw") (hfh : fh (mH M) pc E = some hp) (hf : fet (mE M) hp = some (.astore_n p, nx2, ri2)) (hpL : (p : Nat) < mL M) (kk : Wp b L xs d M nx2 ((lv1 lv p .null).set p none) [] h1 Q) : Wp b L xs d M pc lv st h Q := by
  obtain ⟨n, h2, o, e, e1, e2⟩ := c
  subst e1 e2
  obtain ⟨n2, h3, o3, e3, hq3⟩ := kk
  obtain ⟨d', rfl⟩ : ∃ d', d = d' + 1 := ⟨d - 1, by omega⟩
  refine ⟨max n n2 + 1, h3, o3, ?_, hq3⟩
  show (match fet (mE M) pc with | none => none | some q => dpF b L xs (rnF b L xs (max n n2)) (d' + 1) M pc q.1 q.2.1 q.2.2 lv st h) = some (h3, o3)
  rw [q]
  show cdF (rnF b L xs (max n n2)) (d' + 1) M pc nx 9 na k (ci :: t) lv st h = some (h3, o3)
  unfold cdF
  rw [hpo]
  dsimp only
  rw [tgtM_9]
  dsimp only
  rw [ho]
  dsimp only
  rw [if_pos rfl]
  dsimp only
  rw [hm]
  dsimp only
  have e9 : rnF b L xs (max n n2) d' M' 0 (ent (mL M') ([.ref a] ++ as)) [] h = some (h2, .inr E) := rnF_mono (Nat.le_max_left n n2) _ _ _ _ _ _ _ e
  rw [if_pos ⟨hl, hw⟩, e9]
  dsimp only
  rw [if_pos rfl]
  unfold ctF
  rw [if_pos hcl, hfh]
  dsimp only
  rw [hf]
  dsimp only
  rw [if_pos hpL]
  exact rnF_mono (Nat.le_max_right n n2) _ _ _ _ _ _ _ e3
end Wcn
section Hlp
variable {b L : Nat} {xs : Nat → Int32}
theorem hE_begin_0 (d : Nat) (hd : 1 ≤ d) {x : Int} {A0 : Nat} {H h1 : AH} {fs : List Value} (ho : H.2.2 A0 = some (.inr (0, fs))) (hc : Wp b L xs (d - 1) mi_13 0 (ent (mL mi_13) [.ref A0, vI x]) [] H (fun h' o => h' = h1 ∧ o = .inr 0)) : Wp b L xs d mi_12 0 (ent (mL mi_12) [.ref A0, vI x]) [] H (Rt h1 (vI 1)) := by
  refine w_aload_n rfl rfl ?_
  refine w_iload_n rfl rfl ?_
  refine w_catchN (ins2 := .ireturn) rfl hd rfl ho mt_13 (Nat.le_of_ble_eq_true rfl) (Nat.le_of_ble_eq_true rfl) hc rfl rfl rfl (by decide) ?_
  refine w_iconst rfl ?_
  refine w_ireturn rfl rfl ?_
  exact ⟨rfl, rfl⟩
theorem hN_begin (d : Nat) (hd : 1 ≤ d) {x : Int} {A0 : Nat} {H : AH} {fs : List Value} {P : AH → Prop} (ho : H.2.2 A0 = some (.inr (0, fs))) (hc : Wp b L xs (d - 1) mi_13 0 (ent (mL mi_13) [.ref A0, vI x]) [] H (fun h' o => o = .inl none ∧ P h')) : Wp b L xs d mi_12 0 (ent (mL mi_12) [.ref A0, vI x]) [] H (fun h2 o => o = .inl (some (vI 0)) ∧ P h2) := by
  refine w_aload_n rfl rfl ?_
  refine w_iload_n rfl rfl ?_
  refine w_cv rfl (by decide) hd rfl ho mt_13 (Nat.le_of_ble_eq_true rfl) (Nat.le_of_ble_eq_true rfl) hc ?_
  rintro h' _ ⟨rfl, hP⟩
  refine ⟨_, rfl, ?_⟩
  refine w_goto rfl ?_
  refine w_iconst rfl ?_
  refine w_ireturn rfl rfl ?_
  exact ⟨rfl, hP⟩
theorem hE_make_0 (d : Nat) (hd : 1 ≤ d) {x : Int} {y : Int} {z : Int} {A0 X : Nat} {H h1 : AH} {fs : List Value} (ho : H.2.2 A0 = some (.inr (0, fs))) (hc : Wp b L xs (d - 1) mi_15 0 (ent (mL mi_15) [.ref A0, vI x, vI y, vI z]) [] H (fun h' o => h' = h1 ∧ o = .inr 0)) : Wp b L xs d mi_14 0 (ent (mL mi_14) [.ref A0, vI x, vI y, vI z, .ref X]) [] H (Rt h1 (vI 1)) := by
  refine w_aload rfl rfl ?_
  refine w_iconst rfl ?_
  refine w_aload_n rfl rfl ?_
  refine w_iload_n rfl rfl ?_
  refine w_iload_n rfl rfl ?_
  refine w_iload_n rfl rfl ?_
  refine w_catch (ins2 := .ireturn) rfl hd rfl ho mt_15 (Nat.le_of_ble_eq_true rfl) (Nat.le_of_ble_eq_true rfl) hc rfl rfl rfl (by decide) ?_
  refine w_iconst rfl ?_
  refine w_ireturn rfl rfl ?_
  exact ⟨rfl, rfl⟩
theorem hE_make_1 (d : Nat) (hd : 1 ≤ d) {x : Int} {y : Int} {z : Int} {A0 X : Nat} {H h1 : AH} {fs : List Value} (ho : H.2.2 A0 = some (.inr (0, fs))) (hc : Wp b L xs (d - 1) mi_15 0 (ent (mL mi_15) [.ref A0, vI x, vI y, vI z]) [] H (fun h' o => h' = h1 ∧ o = .inr 1)) : Wp b L xs d mi_14 0 (ent (mL mi_14) [.ref A0, vI x, vI y, vI z, .ref X]) [] H (Rt h1 (vI 2)) := by
  refine w_aload rfl rfl ?_
  refine w_iconst rfl ?_
  refine w_aload_n rfl rfl ?_
  refine w_iload_n rfl rfl ?_
  refine w_iload_n rfl rfl ?_
  refine w_iload_n rfl rfl ?_
  refine w_catch (ins2 := .ireturn) rfl hd rfl ho mt_15 (Nat.le_of_ble_eq_true rfl) (Nat.le_of_ble_eq_true rfl) hc rfl rfl rfl (by decide) ?_
  refine w_iconst rfl ?_
  refine w_ireturn rfl rfl ?_
  exact ⟨rfl, rfl⟩
theorem hE_make_2 (d : Nat) (hd : 1 ≤ d) {x : Int} {y : Int} {z : Int} {A0 X : Nat} {H h1 : AH} {fs : List Value} (ho : H.2.2 A0 = some (.inr (0, fs))) (hc : Wp b L xs (d - 1) mi_15 0 (ent (mL mi_15) [.ref A0, vI x, vI y, vI z]) [] H (fun h' o => h' = h1 ∧ o = .inr 2)) : Wp b L xs d mi_14 0 (ent (mL mi_14) [.ref A0, vI x, vI y, vI z, .ref X]) [] H (Rt h1 (vI 3)) := by
  refine w_aload rfl rfl ?_
  refine w_iconst rfl ?_
  refine w_aload_n rfl rfl ?_
  refine w_iload_n rfl rfl ?_
  refine w_iload_n rfl rfl ?_
  refine w_iload_n rfl rfl ?_
  refine w_catch (ins2 := .ireturn) rfl hd rfl ho mt_15 (Nat.le_of_ble_eq_true rfl) (Nat.le_of_ble_eq_true rfl) hc rfl rfl rfl (by decide) ?_
  refine w_iconst rfl ?_
  refine w_ireturn rfl rfl ?_
  exact ⟨rfl, rfl⟩
theorem hV_make (d : Nat) (hd : 1 ≤ d) {x : Int} {y : Int} {z : Int} {v : Int} {A0 X : Nat} {H : AH} {fs : List Value} {of : Nat → Value} {P : AH → Prop} (ho : H.2.2 A0 = some (.inr (0, fs))) (hc : Wp b L xs (d - 1) mi_15 0 (ent (mL mi_15) [.ref A0, vI x, vI y, vI z]) [] H (fun h' o => o = .inl (some (vI v)) ∧ P h')) (hX : ∀ h', P h' → h'.2.2 X = some (.inl (.long, 1, of))) : Wp b L xs d mi_14 0 (ent (mL mi_14) [.ref A0, vI x, vI y, vI z, .ref X]) [] H (fun h2 o => o = .inl (some (vI 0)) ∧ ∃ h', P h' ∧ h2 = hput h' X (.inl (.long, 1, updV of 0 (.long (Int32.ofInt v).toInt64)))) := by
  refine w_aload rfl rfl ?_
  refine w_iconst rfl ?_
  refine w_aload_n rfl rfl ?_
  refine w_iload_n rfl rfl ?_
  refine w_iload_n rfl rfl ?_
  refine w_iload_n rfl rfl ?_
  refine w_cv rfl (by decide) hd rfl ho mt_15 (Nat.le_of_ble_eq_true rfl) (Nat.le_of_ble_eq_true rfl) hc ?_
  rintro h' _ ⟨rfl, hP⟩
  refine ⟨_, rfl, ?_⟩
  refine w_i2l rfl ?_
  refine w_lastore rfl (hX h' hP) (by decide) (by decide) (by decide) ?_
  refine w_goto rfl ?_
  refine w_iconst rfl ?_
  refine w_ireturn rfl rfl ?_
  exact ⟨rfl, h', hP, rfl⟩
theorem hE_write_0 (d : Nat) (hd : 1 ≤ d) {x : Int} {y : Int} {z : Int64} {A0 X : Nat} {H h1 : AH} {fs : List Value} (ho : H.2.2 A0 = some (.inr (0, fs))) (hc : Wp b L xs (d - 1) mi_25 0 (ent (mL mi_25) [.ref A0, vI x, vI y, .long z]) [] H (fun h' o => h' = h1 ∧ o = .inr 0)) : Wp b L xs d mi_24 0 (ent (mL mi_24) [.ref A0, vI x, vI y, .long z, .ref X]) [] H (Rt h1 (vI 1)) := by
  refine w_aload rfl rfl ?_
  refine w_iconst rfl ?_
  refine w_aload_n rfl rfl ?_
  refine w_iload_n rfl rfl ?_
  refine w_iload_n rfl rfl ?_
  refine w_lload_n rfl rfl ?_
  refine w_catch (ins2 := .ireturn) rfl hd rfl ho mt_25 (Nat.le_of_ble_eq_true rfl) (Nat.le_of_ble_eq_true rfl) hc rfl rfl rfl (by decide) ?_
  refine w_iconst rfl ?_
  refine w_ireturn rfl rfl ?_
  exact ⟨rfl, rfl⟩
theorem hE_write_2 (d : Nat) (hd : 1 ≤ d) {x : Int} {y : Int} {z : Int64} {A0 X : Nat} {H h1 : AH} {fs : List Value} (ho : H.2.2 A0 = some (.inr (0, fs))) (hc : Wp b L xs (d - 1) mi_25 0 (ent (mL mi_25) [.ref A0, vI x, vI y, .long z]) [] H (fun h' o => h' = h1 ∧ o = .inr 2)) : Wp b L xs d mi_24 0 (ent (mL mi_24) [.ref A0, vI x, vI y, .long z, .ref X]) [] H (Rt h1 (vI 2)) := by
  refine w_aload rfl rfl ?_
  refine w_iconst rfl ?_
  refine w_aload_n rfl rfl ?_
  refine w_iload_n rfl rfl ?_
  refine w_iload_n rfl rfl ?_
  refine w_lload_n rfl rfl ?_
  refine w_catch (ins2 := .ireturn) rfl hd rfl ho mt_25 (Nat.le_of_ble_eq_true rfl) (Nat.le_of_ble_eq_true rfl) hc rfl rfl rfl (by decide) ?_
  refine w_iconst rfl ?_
  refine w_ireturn rfl rfl ?_
  exact ⟨rfl, rfl⟩
theorem hV_write (d : Nat) (hd : 1 ≤ d) {x : Int} {y : Int} {z : Int64} {v : Int} {A0 X : Nat} {H : AH} {fs : List Value} {of : Nat → Value} {P : AH → Prop} (ho : H.2.2 A0 = some (.inr (0, fs))) (hc : Wp b L xs (d - 1) mi_25 0 (ent (mL mi_25) [.ref A0, vI x, vI y, .long z]) [] H (fun h' o => o = .inl (some (vI v)) ∧ P h')) (hX : ∀ h', P h' → h'.2.2 X = some (.inl (.long, 1, of))) : Wp b L xs d mi_24 0 (ent (mL mi_24) [.ref A0, vI x, vI y, .long z, .ref X]) [] H (fun h2 o => o = .inl (some (vI 0)) ∧ ∃ h', P h' ∧ h2 = hput h' X (.inl (.long, 1, updV of 0 (.long (Int32.ofInt v).toInt64)))) := by
  refine w_aload rfl rfl ?_
  refine w_iconst rfl ?_
  refine w_aload_n rfl rfl ?_
  refine w_iload_n rfl rfl ?_
  refine w_iload_n rfl rfl ?_
  refine w_lload_n rfl rfl ?_
  refine w_cv rfl (by decide) hd rfl ho mt_25 (Nat.le_of_ble_eq_true rfl) (Nat.le_of_ble_eq_true rfl) hc ?_
  rintro h' _ ⟨rfl, hP⟩
  refine ⟨_, rfl, ?_⟩
  refine w_i2l rfl ?_
  refine w_lastore rfl (hX h' hP) (by decide) (by decide) (by decide) ?_
  refine w_goto rfl ?_
  refine w_iconst rfl ?_
  refine w_ireturn rfl rfl ?_
  exact ⟨rfl, h', hP, rfl⟩
theorem hE_cut_0 (d : Nat) (hd : 1 ≤ d) {x : Int} {y : Int} {A0 : Nat} {H h1 : AH} {fs : List Value} (ho : H.2.2 A0 = some (.inr (0, fs))) (hc : Wp b L xs (d - 1) mi_30 0 (ent (mL mi_30) [.ref A0, vI x, vI y]) [] H (fun h' o => h' = h1 ∧ o = .inr 0)) : Wp b L xs d mi_29 0 (ent (mL mi_29) [.ref A0, vI x, vI y]) [] H (Rt h1 (vI 1)) := by
  refine w_aload_n rfl rfl ?_
  refine w_iload_n rfl rfl ?_
  refine w_iload_n rfl rfl ?_
  refine w_catchN (ins2 := .ireturn) rfl hd rfl ho mt_30 (Nat.le_of_ble_eq_true rfl) (Nat.le_of_ble_eq_true rfl) hc rfl rfl rfl (by decide) ?_
  refine w_iconst rfl ?_
  refine w_ireturn rfl rfl ?_
  exact ⟨rfl, rfl⟩
theorem hE_cut_2 (d : Nat) (hd : 1 ≤ d) {x : Int} {y : Int} {A0 : Nat} {H h1 : AH} {fs : List Value} (ho : H.2.2 A0 = some (.inr (0, fs))) (hc : Wp b L xs (d - 1) mi_30 0 (ent (mL mi_30) [.ref A0, vI x, vI y]) [] H (fun h' o => h' = h1 ∧ o = .inr 2)) : Wp b L xs d mi_29 0 (ent (mL mi_29) [.ref A0, vI x, vI y]) [] H (Rt h1 (vI 2)) := by
  refine w_aload_n rfl rfl ?_
  refine w_iload_n rfl rfl ?_
  refine w_iload_n rfl rfl ?_
  refine w_catchN (ins2 := .ireturn) rfl hd rfl ho mt_30 (Nat.le_of_ble_eq_true rfl) (Nat.le_of_ble_eq_true rfl) hc rfl rfl rfl (by decide) ?_
  refine w_iconst rfl ?_
  refine w_ireturn rfl rfl ?_
  exact ⟨rfl, rfl⟩
theorem hN_cut (d : Nat) (hd : 1 ≤ d) {x : Int} {y : Int} {A0 : Nat} {H : AH} {fs : List Value} {P : AH → Prop} (ho : H.2.2 A0 = some (.inr (0, fs))) (hc : Wp b L xs (d - 1) mi_30 0 (ent (mL mi_30) [.ref A0, vI x, vI y]) [] H (fun h' o => o = .inl none ∧ P h')) : Wp b L xs d mi_29 0 (ent (mL mi_29) [.ref A0, vI x, vI y]) [] H (fun h2 o => o = .inl (some (vI 0)) ∧ P h2) := by
  refine w_aload_n rfl rfl ?_
  refine w_iload_n rfl rfl ?_
  refine w_iload_n rfl rfl ?_
  refine w_cv rfl (by decide) hd rfl ho mt_30 (Nat.le_of_ble_eq_true rfl) (Nat.le_of_ble_eq_true rfl) hc ?_
  rintro h' _ ⟨rfl, hP⟩
  refine ⟨_, rfl, ?_⟩
  refine w_goto rfl ?_
  refine w_iconst rfl ?_
  refine w_ireturn rfl rfl ?_
  exact ⟨rfl, hP⟩
theorem hE_move_0 (d : Nat) (hd : 1 ≤ d) {x : Int} {y : Int} {z : Int} {A0 : Nat} {H h1 : AH} {fs : List Value} (ho : H.2.2 A0 = some (.inr (0, fs))) (hc : Wp b L xs (d - 1) mi_33 0 (ent (mL mi_33) [.ref A0, vI x, vI y, vI z]) [] H (fun h' o => h' = h1 ∧ o = .inr 0)) : Wp b L xs d mi_32 0 (ent (mL mi_32) [.ref A0, vI x, vI y, vI z]) [] H (Rt h1 (vI 1)) := by
  refine w_aload_n rfl rfl ?_
  refine w_iload_n rfl rfl ?_
  refine w_iload_n rfl rfl ?_
  refine w_iload_n rfl rfl ?_
  refine w_catch (ins2 := .ireturn) rfl hd rfl ho mt_33 (Nat.le_of_ble_eq_true rfl) (Nat.le_of_ble_eq_true rfl) hc rfl rfl rfl (by decide) ?_
  refine w_iconst rfl ?_
  refine w_ireturn rfl rfl ?_
  exact ⟨rfl, rfl⟩
theorem hE_move_1 (d : Nat) (hd : 1 ≤ d) {x : Int} {y : Int} {z : Int} {A0 : Nat} {H h1 : AH} {fs : List Value} (ho : H.2.2 A0 = some (.inr (0, fs))) (hc : Wp b L xs (d - 1) mi_33 0 (ent (mL mi_33) [.ref A0, vI x, vI y, vI z]) [] H (fun h' o => h' = h1 ∧ o = .inr 1)) : Wp b L xs d mi_32 0 (ent (mL mi_32) [.ref A0, vI x, vI y, vI z]) [] H (Rt h1 (vI 2)) := by
  refine w_aload_n rfl rfl ?_
  refine w_iload_n rfl rfl ?_
  refine w_iload_n rfl rfl ?_
  refine w_iload_n rfl rfl ?_
  refine w_catch (ins2 := .ireturn) rfl hd rfl ho mt_33 (Nat.le_of_ble_eq_true rfl) (Nat.le_of_ble_eq_true rfl) hc rfl rfl rfl (by decide) ?_
  refine w_iconst rfl ?_
  refine w_ireturn rfl rfl ?_
  exact ⟨rfl, rfl⟩
theorem hE_move_3 (d : Nat) (hd : 1 ≤ d) {x : Int} {y : Int} {z : Int} {A0 : Nat} {H h1 : AH} {fs : List Value} (ho : H.2.2 A0 = some (.inr (0, fs))) (hc : Wp b L xs (d - 1) mi_33 0 (ent (mL mi_33) [.ref A0, vI x, vI y, vI z]) [] H (fun h' o => h' = h1 ∧ o = .inr 3)) : Wp b L xs d mi_32 0 (ent (mL mi_32) [.ref A0, vI x, vI y, vI z]) [] H (Rt h1 (vI 3)) := by
  refine w_aload_n rfl rfl ?_
  refine w_iload_n rfl rfl ?_
  refine w_iload_n rfl rfl ?_
  refine w_iload_n rfl rfl ?_
  refine w_catch (ins2 := .ireturn) rfl hd rfl ho mt_33 (Nat.le_of_ble_eq_true rfl) (Nat.le_of_ble_eq_true rfl) hc rfl rfl rfl (by decide) ?_
  refine w_iconst rfl ?_
  refine w_ireturn rfl rfl ?_
  exact ⟨rfl, rfl⟩
theorem hN_move (d : Nat) (hd : 1 ≤ d) {x : Int} {y : Int} {z : Int} {A0 : Nat} {H : AH} {fs : List Value} {P : AH → Prop} (ho : H.2.2 A0 = some (.inr (0, fs))) (hc : Wp b L xs (d - 1) mi_33 0 (ent (mL mi_33) [.ref A0, vI x, vI y, vI z]) [] H (fun h' o => o = .inl none ∧ P h')) : Wp b L xs d mi_32 0 (ent (mL mi_32) [.ref A0, vI x, vI y, vI z]) [] H (fun h2 o => o = .inl (some (vI 0)) ∧ P h2) := by
  refine w_aload_n rfl rfl ?_
  refine w_iload_n rfl rfl ?_
  refine w_iload_n rfl rfl ?_
  refine w_iload_n rfl rfl ?_
  refine w_cv rfl (by decide) hd rfl ho mt_33 (Nat.le_of_ble_eq_true rfl) (Nat.le_of_ble_eq_true rfl) hc ?_
  rintro h' _ ⟨rfl, hP⟩
  refine ⟨_, rfl, ?_⟩
  refine w_goto rfl ?_
  refine w_iconst rfl ?_
  refine w_ireturn rfl rfl ?_
  exact ⟨rfl, hP⟩
theorem hE_remove_0 (d : Nat) (hd : 1 ≤ d) {x : Int} {A0 : Nat} {H h1 : AH} {fs : List Value} (ho : H.2.2 A0 = some (.inr (0, fs))) (hc : Wp b L xs (d - 1) mi_40 0 (ent (mL mi_40) [.ref A0, vI x]) [] H (fun h' o => h' = h1 ∧ o = .inr 0)) : Wp b L xs d mi_39 0 (ent (mL mi_39) [.ref A0, vI x]) [] H (Rt h1 (vI 1)) := by
  refine w_aload_n rfl rfl ?_
  refine w_iload_n rfl rfl ?_
  refine w_catchN (ins2 := .ireturn) rfl hd rfl ho mt_40 (Nat.le_of_ble_eq_true rfl) (Nat.le_of_ble_eq_true rfl) hc rfl rfl rfl (by decide) ?_
  refine w_iconst rfl ?_
  refine w_ireturn rfl rfl ?_
  exact ⟨rfl, rfl⟩
theorem hE_remove_1 (d : Nat) (hd : 1 ≤ d) {x : Int} {A0 : Nat} {H h1 : AH} {fs : List Value} (ho : H.2.2 A0 = some (.inr (0, fs))) (hc : Wp b L xs (d - 1) mi_40 0 (ent (mL mi_40) [.ref A0, vI x]) [] H (fun h' o => h' = h1 ∧ o = .inr 1)) : Wp b L xs d mi_39 0 (ent (mL mi_39) [.ref A0, vI x]) [] H (Rt h1 (vI 2)) := by
  refine w_aload_n rfl rfl ?_
  refine w_iload_n rfl rfl ?_
  refine w_catchN (ins2 := .ireturn) rfl hd rfl ho mt_40 (Nat.le_of_ble_eq_true rfl) (Nat.le_of_ble_eq_true rfl) hc rfl rfl rfl (by decide) ?_
  refine w_iconst rfl ?_
  refine w_ireturn rfl rfl ?_
  exact ⟨rfl, rfl⟩
theorem hN_remove (d : Nat) (hd : 1 ≤ d) {x : Int} {A0 : Nat} {H : AH} {fs : List Value} {P : AH → Prop} (ho : H.2.2 A0 = some (.inr (0, fs))) (hc : Wp b L xs (d - 1) mi_40 0 (ent (mL mi_40) [.ref A0, vI x]) [] H (fun h' o => o = .inl none ∧ P h')) : Wp b L xs d mi_39 0 (ent (mL mi_39) [.ref A0, vI x]) [] H (fun h2 o => o = .inl (some (vI 0)) ∧ P h2) := by
  refine w_aload_n rfl rfl ?_
  refine w_iload_n rfl rfl ?_
  refine w_cv rfl (by decide) hd rfl ho mt_40 (Nat.le_of_ble_eq_true rfl) (Nat.le_of_ble_eq_true rfl) hc ?_
  rintro h' _ ⟨rfl, hP⟩
  refine ⟨_, rfl, ?_⟩
  refine w_goto rfl ?_
  refine w_iconst rfl ?_
  refine w_ireturn rfl rfl ?_
  exact ⟨rfl, hP⟩
theorem hE_dump_0 (d : Nat) (hd : 1 ≤ d) {x : Int} {A0 X : Nat} {H h1 : AH} {fs : List Value} (ho : H.2.2 A0 = some (.inr (0, fs))) (hc : Wp b L xs (d - 1) mi_43 0 (ent (mL mi_43) [.ref A0, vI x]) [] H (fun h' o => h' = h1 ∧ o = .inr 0)) : Wp b L xs d mi_42 0 (ent (mL mi_42) [.ref A0, vI x, .ref X]) [] H (Rt h1 (vI 1)) := by
  refine w_aload_n rfl rfl ?_
  refine w_iconst rfl ?_
  refine w_aload_n rfl rfl ?_
  refine w_iload_n rfl rfl ?_
  refine w_catchN (ins2 := .ireturn) rfl hd rfl ho mt_43 (Nat.le_of_ble_eq_true rfl) (Nat.le_of_ble_eq_true rfl) hc rfl rfl rfl (by decide) ?_
  refine w_iconst rfl ?_
  refine w_ireturn rfl rfl ?_
  exact ⟨rfl, rfl⟩
theorem hE_dump_2 (d : Nat) (hd : 1 ≤ d) {x : Int} {A0 X : Nat} {H h1 : AH} {fs : List Value} (ho : H.2.2 A0 = some (.inr (0, fs))) (hc : Wp b L xs (d - 1) mi_43 0 (ent (mL mi_43) [.ref A0, vI x]) [] H (fun h' o => h' = h1 ∧ o = .inr 2)) : Wp b L xs d mi_42 0 (ent (mL mi_42) [.ref A0, vI x, .ref X]) [] H (Rt h1 (vI 2)) := by
  refine w_aload_n rfl rfl ?_
  refine w_iconst rfl ?_
  refine w_aload_n rfl rfl ?_
  refine w_iload_n rfl rfl ?_
  refine w_catchN (ins2 := .ireturn) rfl hd rfl ho mt_43 (Nat.le_of_ble_eq_true rfl) (Nat.le_of_ble_eq_true rfl) hc rfl rfl rfl (by decide) ?_
  refine w_iconst rfl ?_
  refine w_ireturn rfl rfl ?_
  exact ⟨rfl, rfl⟩
theorem hV_dump (d : Nat) (hd : 1 ≤ d) {x : Int} {v : Int} {A0 X : Nat} {H : AH} {fs : List Value} {of : Nat → Value} {P : AH → Prop} (ho : H.2.2 A0 = some (.inr (0, fs))) (hc : Wp b L xs (d - 1) mi_43 0 (ent (mL mi_43) [.ref A0, vI x]) [] H (fun h' o => o = .inl (some (vI v)) ∧ P h')) (hX : ∀ h', P h' → h'.2.2 X = some (.inl (.long, 1, of))) : Wp b L xs d mi_42 0 (ent (mL mi_42) [.ref A0, vI x, .ref X]) [] H (fun h2 o => o = .inl (some (vI 0)) ∧ ∃ h', P h' ∧ h2 = hput h' X (.inl (.long, 1, updV of 0 (.long (Int32.ofInt v).toInt64)))) := by
  refine w_aload_n rfl rfl ?_
  refine w_iconst rfl ?_
  refine w_aload_n rfl rfl ?_
  refine w_iload_n rfl rfl ?_
  refine w_cv rfl (by decide) hd rfl ho mt_43 (Nat.le_of_ble_eq_true rfl) (Nat.le_of_ble_eq_true rfl) hc ?_
  rintro h' _ ⟨rfl, hP⟩
  refine ⟨_, rfl, ?_⟩
  refine w_i2l rfl ?_
  refine w_lastore rfl (hX h' hP) (by decide) (by decide) (by decide) ?_
  refine w_goto rfl ?_
  refine w_iconst rfl ?_
  refine w_ireturn rfl rfl ?_
  exact ⟨rfl, h', hP, rfl⟩
theorem hE_spoil_2 (d : Nat) (hd : 1 ≤ d) {x : Int} {y : Int} {A0 : Nat} {H h1 : AH} {fs : List Value} (ho : H.2.2 A0 = some (.inr (0, fs))) (hc : Wp b L xs (d - 1) mi_69 0 (ent (mL mi_69) [.ref A0, vI x, vI y]) [] H (fun h' o => h' = h1 ∧ o = .inr 2)) : Wp b L xs d mi_68 0 (ent (mL mi_68) [.ref A0, vI x, vI y]) [] H (Rt h1 (vI 1)) := by
  refine w_aload_n rfl rfl ?_
  refine w_iload_n rfl rfl ?_
  refine w_iload_n rfl rfl ?_
  refine w_catchN (ins2 := .ireturn) rfl hd rfl ho mt_69 (Nat.le_of_ble_eq_true rfl) (Nat.le_of_ble_eq_true rfl) hc rfl rfl rfl (by decide) ?_
  refine w_iconst rfl ?_
  refine w_ireturn rfl rfl ?_
  exact ⟨rfl, rfl⟩
theorem hN_spoil (d : Nat) (hd : 1 ≤ d) {x : Int} {y : Int} {A0 : Nat} {H : AH} {fs : List Value} {P : AH → Prop} (ho : H.2.2 A0 = some (.inr (0, fs))) (hc : Wp b L xs (d - 1) mi_69 0 (ent (mL mi_69) [.ref A0, vI x, vI y]) [] H (fun h' o => o = .inl none ∧ P h')) : Wp b L xs d mi_68 0 (ent (mL mi_68) [.ref A0, vI x, vI y]) [] H (fun h2 o => o = .inl (some (vI 0)) ∧ P h2) := by
  refine w_aload_n rfl rfl ?_
  refine w_iload_n rfl rfl ?_
  refine w_iload_n rfl rfl ?_
  refine w_cv rfl (by decide) hd rfl ho mt_69 (Nat.le_of_ble_eq_true rfl) (Nat.le_of_ble_eq_true rfl) hc ?_
  rintro h' _ ⟨rfl, hP⟩
  refine ⟨_, rfl, ?_⟩
  refine w_goto rfl ?_
  refine w_iconst rfl ?_
  refine w_ireturn rfl rfl ?_
  exact ⟨rfl, hP⟩
theorem hE_tape_0 (d : Nat) (hd : 1 ≤ d) {x : Int} {y : Int} {z : Int} {A0 X : Nat} {H h1 : AH} {fs : List Value} (ho : H.2.2 A0 = some (.inr (0, fs))) (hc : Wp b L xs (d - 1) mi_73 0 (ent (mL mi_73) [.ref A0, vI x, vI y, vI z]) [] H (fun h' o => h' = h1 ∧ o = .inr 0)) : Wp b L xs d mi_72 0 (ent (mL mi_72) [.ref A0, vI x, vI y, vI z, .ref X]) [] H (Rt h1 (vI 1)) := by
  refine w_aload rfl rfl ?_
  refine w_iconst rfl ?_
  refine w_aload_n rfl rfl ?_
  refine w_iload_n rfl rfl ?_
  refine w_iload_n rfl rfl ?_
  refine w_iload_n rfl rfl ?_
  refine w_catch (ins2 := .ireturn) rfl hd rfl ho mt_73 (Nat.le_of_ble_eq_true rfl) (Nat.le_of_ble_eq_true rfl) hc rfl rfl rfl (by decide) ?_
  refine w_iconst rfl ?_
  refine w_ireturn rfl rfl ?_
  exact ⟨rfl, rfl⟩
theorem hE_tape_2 (d : Nat) (hd : 1 ≤ d) {x : Int} {y : Int} {z : Int} {A0 X : Nat} {H h1 : AH} {fs : List Value} (ho : H.2.2 A0 = some (.inr (0, fs))) (hc : Wp b L xs (d - 1) mi_73 0 (ent (mL mi_73) [.ref A0, vI x, vI y, vI z]) [] H (fun h' o => h' = h1 ∧ o = .inr 2)) : Wp b L xs d mi_72 0 (ent (mL mi_72) [.ref A0, vI x, vI y, vI z, .ref X]) [] H (Rt h1 (vI 2)) := by
  refine w_aload rfl rfl ?_
  refine w_iconst rfl ?_
  refine w_aload_n rfl rfl ?_
  refine w_iload_n rfl rfl ?_
  refine w_iload_n rfl rfl ?_
  refine w_iload_n rfl rfl ?_
  refine w_catch (ins2 := .ireturn) rfl hd rfl ho mt_73 (Nat.le_of_ble_eq_true rfl) (Nat.le_of_ble_eq_true rfl) hc rfl rfl rfl (by decide) ?_
  refine w_iconst rfl ?_
  refine w_ireturn rfl rfl ?_
  exact ⟨rfl, rfl⟩
theorem hE_tape_1 (d : Nat) (hd : 1 ≤ d) {x : Int} {y : Int} {z : Int} {A0 X : Nat} {H h1 : AH} {fs : List Value} (ho : H.2.2 A0 = some (.inr (0, fs))) (hc : Wp b L xs (d - 1) mi_73 0 (ent (mL mi_73) [.ref A0, vI x, vI y, vI z]) [] H (fun h' o => h' = h1 ∧ o = .inr 1)) : Wp b L xs d mi_72 0 (ent (mL mi_72) [.ref A0, vI x, vI y, vI z, .ref X]) [] H (Rt h1 (vI 3)) := by
  refine w_aload rfl rfl ?_
  refine w_iconst rfl ?_
  refine w_aload_n rfl rfl ?_
  refine w_iload_n rfl rfl ?_
  refine w_iload_n rfl rfl ?_
  refine w_iload_n rfl rfl ?_
  refine w_catch (ins2 := .ireturn) rfl hd rfl ho mt_73 (Nat.le_of_ble_eq_true rfl) (Nat.le_of_ble_eq_true rfl) hc rfl rfl rfl (by decide) ?_
  refine w_iconst rfl ?_
  refine w_ireturn rfl rfl ?_
  exact ⟨rfl, rfl⟩
theorem hV_tape (d : Nat) (hd : 1 ≤ d) {x : Int} {y : Int} {z : Int} {v : Int64} {A0 X : Nat} {H : AH} {fs : List Value} {of : Nat → Value} {P : AH → Prop} (ho : H.2.2 A0 = some (.inr (0, fs))) (hc : Wp b L xs (d - 1) mi_73 0 (ent (mL mi_73) [.ref A0, vI x, vI y, vI z]) [] H (fun h' o => o = .inl (some (.long v)) ∧ P h')) (hX : ∀ h', P h' → h'.2.2 X = some (.inl (.long, 1, of))) : Wp b L xs d mi_72 0 (ent (mL mi_72) [.ref A0, vI x, vI y, vI z, .ref X]) [] H (fun h2 o => o = .inl (some (vI 0)) ∧ ∃ h', P h' ∧ h2 = hput h' X (.inl (.long, 1, updV of 0 (.long v)))) := by
  refine w_aload rfl rfl ?_
  refine w_iconst rfl ?_
  refine w_aload_n rfl rfl ?_
  refine w_iload_n rfl rfl ?_
  refine w_iload_n rfl rfl ?_
  refine w_iload_n rfl rfl ?_
  refine w_cv rfl (by decide) hd rfl ho mt_73 (Nat.le_of_ble_eq_true rfl) (Nat.le_of_ble_eq_true rfl) hc ?_
  rintro h' _ ⟨rfl, hP⟩
  refine ⟨_, rfl, ?_⟩
  refine w_lastore rfl (hX h' hP) (by decide) (by decide) (by decide) ?_
  refine w_goto rfl ?_
  refine w_iconst rfl ?_
  refine w_ireturn rfl rfl ?_
  exact ⟨rfl, h', hP, rfl⟩
theorem hE_restore_2 (d : Nat) (hd : 1 ≤ d) {x : Int} {A0 X : Nat} {H h1 : AH} {fs : List Value} (ho : H.2.2 A0 = some (.inr (0, fs))) (hc : Wp b L xs (d - 1) mi_77 0 (ent (mL mi_77) [.ref A0, vI x]) [] H (fun h' o => h' = h1 ∧ o = .inr 2)) : Wp b L xs d mi_76 0 (ent (mL mi_76) [.ref A0, vI x, .ref X]) [] H (Rt h1 (vI 1)) := by
  refine w_aload_n rfl rfl ?_
  refine w_iconst rfl ?_
  refine w_aload_n rfl rfl ?_
  refine w_iload_n rfl rfl ?_
  refine w_catchN (ins2 := .ireturn) rfl hd rfl ho mt_77 (Nat.le_of_ble_eq_true rfl) (Nat.le_of_ble_eq_true rfl) hc rfl rfl rfl (by decide) ?_
  refine w_iconst rfl ?_
  refine w_ireturn rfl rfl ?_
  exact ⟨rfl, rfl⟩
theorem hV_restore (d : Nat) (hd : 1 ≤ d) {x : Int} {v : Int} {A0 X : Nat} {H : AH} {fs : List Value} {of : Nat → Value} {P : AH → Prop} (ho : H.2.2 A0 = some (.inr (0, fs))) (hc : Wp b L xs (d - 1) mi_77 0 (ent (mL mi_77) [.ref A0, vI x]) [] H (fun h' o => o = .inl (some (vI v)) ∧ P h')) (hX : ∀ h', P h' → h'.2.2 X = some (.inl (.long, 1, of))) : Wp b L xs d mi_76 0 (ent (mL mi_76) [.ref A0, vI x, .ref X]) [] H (fun h2 o => o = .inl (some (vI 0)) ∧ ∃ h', P h' ∧ h2 = hput h' X (.inl (.long, 1, updV of 0 (.long (Int32.ofInt v).toInt64)))) := by
  refine w_aload_n rfl rfl ?_
  refine w_iconst rfl ?_
  refine w_aload_n rfl rfl ?_
  refine w_iload_n rfl rfl ?_
  refine w_cv rfl (by decide) hd rfl ho mt_77 (Nat.le_of_ble_eq_true rfl) (Nat.le_of_ble_eq_true rfl) hc ?_
  rintro h' _ ⟨rfl, hP⟩
  refine ⟨_, rfl, ?_⟩
  refine w_i2l rfl ?_
  refine w_lastore rfl (hX h' hP) (by decide) (by decide) (by decide) ?_
  refine w_goto rfl ?_
  refine w_iconst rfl ?_
  refine w_ireturn rfl rfl ?_
  exact ⟨rfl, h', hP, rfl⟩
theorem hE_node_0 (d : Nat) (hd : 1 ≤ d) {x : Int} {y : Int} {z : Int} {A0 X : Nat} {H h1 : AH} {fs : List Value} (ho : H.2.2 A0 = some (.inr (0, fs))) (hc : Wp b L xs (d - 1) mi_92 0 (ent (mL mi_92) [.ref A0, vI x, vI y, vI z]) [] H (fun h' o => h' = h1 ∧ o = .inr 0)) : Wp b L xs d mi_91 0 (ent (mL mi_91) [.ref A0, vI x, vI y, vI z, .ref X]) [] H (Rt h1 (vI 1)) := by
  refine w_aload rfl rfl ?_
  refine w_iconst rfl ?_
  refine w_aload_n rfl rfl ?_
  refine w_iload_n rfl rfl ?_
  refine w_iload_n rfl rfl ?_
  refine w_iload_n rfl rfl ?_
  refine w_catch (ins2 := .ireturn) rfl hd rfl ho mt_92 (Nat.le_of_ble_eq_true rfl) (Nat.le_of_ble_eq_true rfl) hc rfl rfl rfl (by decide) ?_
  refine w_iconst rfl ?_
  refine w_ireturn rfl rfl ?_
  exact ⟨rfl, rfl⟩
theorem hE_node_1 (d : Nat) (hd : 1 ≤ d) {x : Int} {y : Int} {z : Int} {A0 X : Nat} {H h1 : AH} {fs : List Value} (ho : H.2.2 A0 = some (.inr (0, fs))) (hc : Wp b L xs (d - 1) mi_92 0 (ent (mL mi_92) [.ref A0, vI x, vI y, vI z]) [] H (fun h' o => h' = h1 ∧ o = .inr 1)) : Wp b L xs d mi_91 0 (ent (mL mi_91) [.ref A0, vI x, vI y, vI z, .ref X]) [] H (Rt h1 (vI 2)) := by
  refine w_aload rfl rfl ?_
  refine w_iconst rfl ?_
  refine w_aload_n rfl rfl ?_
  refine w_iload_n rfl rfl ?_
  refine w_iload_n rfl rfl ?_
  refine w_iload_n rfl rfl ?_
  refine w_catch (ins2 := .ireturn) rfl hd rfl ho mt_92 (Nat.le_of_ble_eq_true rfl) (Nat.le_of_ble_eq_true rfl) hc rfl rfl rfl (by decide) ?_
  refine w_iconst rfl ?_
  refine w_ireturn rfl rfl ?_
  exact ⟨rfl, rfl⟩
theorem hE_node_2 (d : Nat) (hd : 1 ≤ d) {x : Int} {y : Int} {z : Int} {A0 X : Nat} {H h1 : AH} {fs : List Value} (ho : H.2.2 A0 = some (.inr (0, fs))) (hc : Wp b L xs (d - 1) mi_92 0 (ent (mL mi_92) [.ref A0, vI x, vI y, vI z]) [] H (fun h' o => h' = h1 ∧ o = .inr 2)) : Wp b L xs d mi_91 0 (ent (mL mi_91) [.ref A0, vI x, vI y, vI z, .ref X]) [] H (Rt h1 (vI 3)) := by
  refine w_aload rfl rfl ?_
  refine w_iconst rfl ?_
  refine w_aload_n rfl rfl ?_
  refine w_iload_n rfl rfl ?_
  refine w_iload_n rfl rfl ?_
  refine w_iload_n rfl rfl ?_
  refine w_catch (ins2 := .ireturn) rfl hd rfl ho mt_92 (Nat.le_of_ble_eq_true rfl) (Nat.le_of_ble_eq_true rfl) hc rfl rfl rfl (by decide) ?_
  refine w_iconst rfl ?_
  refine w_ireturn rfl rfl ?_
  exact ⟨rfl, rfl⟩
theorem hV_node (d : Nat) (hd : 1 ≤ d) {x : Int} {y : Int} {z : Int} {v : Int} {A0 X : Nat} {H : AH} {fs : List Value} {of : Nat → Value} {P : AH → Prop} (ho : H.2.2 A0 = some (.inr (0, fs))) (hc : Wp b L xs (d - 1) mi_92 0 (ent (mL mi_92) [.ref A0, vI x, vI y, vI z]) [] H (fun h' o => o = .inl (some (vI v)) ∧ P h')) (hX : ∀ h', P h' → h'.2.2 X = some (.inl (.long, 1, of))) : Wp b L xs d mi_91 0 (ent (mL mi_91) [.ref A0, vI x, vI y, vI z, .ref X]) [] H (fun h2 o => o = .inl (some (vI 0)) ∧ ∃ h', P h' ∧ h2 = hput h' X (.inl (.long, 1, updV of 0 (.long (Int32.ofInt v).toInt64)))) := by
  refine w_aload rfl rfl ?_
  refine w_iconst rfl ?_
  refine w_aload_n rfl rfl ?_
  refine w_iload_n rfl rfl ?_
  refine w_iload_n rfl rfl ?_
  refine w_iload_n rfl rfl ?_
  refine w_cv rfl (by decide) hd rfl ho mt_92 (Nat.le_of_ble_eq_true rfl) (Nat.le_of_ble_eq_true rfl) hc ?_
  rintro h' _ ⟨rfl, hP⟩
  refine ⟨_, rfl, ?_⟩
  refine w_i2l rfl ?_
  refine w_lastore rfl (hX h' hP) (by decide) (by decide) (by decide) ?_
  refine w_goto rfl ?_
  refine w_iconst rfl ?_
  refine w_ireturn rfl rfl ?_
  exact ⟨rfl, h', hP, rfl⟩
theorem hE_octet_1 (d : Nat) (hd : 1 ≤ d) {x : Int} {y : Int} {z : Int} {A0 X : Nat} {H h1 : AH} {fs : List Value} (ho : H.2.2 A0 = some (.inr (0, fs))) (hc : Wp b L xs (d - 1) mi_99 0 (ent (mL mi_99) [.ref A0, vI x, vI y, vI z]) [] H (fun h' o => h' = h1 ∧ o = .inr 1)) : Wp b L xs d mi_98 0 (ent (mL mi_98) [.ref A0, vI x, vI y, vI z, .ref X]) [] H (Rt h1 (vI 1)) := by
  refine w_aload rfl rfl ?_
  refine w_iconst rfl ?_
  refine w_aload_n rfl rfl ?_
  refine w_iload_n rfl rfl ?_
  refine w_iload_n rfl rfl ?_
  refine w_iload_n rfl rfl ?_
  refine w_catch (ins2 := .ireturn) rfl hd rfl ho mt_99 (Nat.le_of_ble_eq_true rfl) (Nat.le_of_ble_eq_true rfl) hc rfl rfl rfl (by decide) ?_
  refine w_iconst rfl ?_
  refine w_ireturn rfl rfl ?_
  exact ⟨rfl, rfl⟩
theorem hE_octet_0 (d : Nat) (hd : 1 ≤ d) {x : Int} {y : Int} {z : Int} {A0 X : Nat} {H h1 : AH} {fs : List Value} (ho : H.2.2 A0 = some (.inr (0, fs))) (hc : Wp b L xs (d - 1) mi_99 0 (ent (mL mi_99) [.ref A0, vI x, vI y, vI z]) [] H (fun h' o => h' = h1 ∧ o = .inr 0)) : Wp b L xs d mi_98 0 (ent (mL mi_98) [.ref A0, vI x, vI y, vI z, .ref X]) [] H (Rt h1 (vI 2)) := by
  refine w_aload rfl rfl ?_
  refine w_iconst rfl ?_
  refine w_aload_n rfl rfl ?_
  refine w_iload_n rfl rfl ?_
  refine w_iload_n rfl rfl ?_
  refine w_iload_n rfl rfl ?_
  refine w_catch (ins2 := .ireturn) rfl hd rfl ho mt_99 (Nat.le_of_ble_eq_true rfl) (Nat.le_of_ble_eq_true rfl) hc rfl rfl rfl (by decide) ?_
  refine w_iconst rfl ?_
  refine w_ireturn rfl rfl ?_
  exact ⟨rfl, rfl⟩
theorem hE_octet_2 (d : Nat) (hd : 1 ≤ d) {x : Int} {y : Int} {z : Int} {A0 X : Nat} {H h1 : AH} {fs : List Value} (ho : H.2.2 A0 = some (.inr (0, fs))) (hc : Wp b L xs (d - 1) mi_99 0 (ent (mL mi_99) [.ref A0, vI x, vI y, vI z]) [] H (fun h' o => h' = h1 ∧ o = .inr 2)) : Wp b L xs d mi_98 0 (ent (mL mi_98) [.ref A0, vI x, vI y, vI z, .ref X]) [] H (Rt h1 (vI 3)) := by
  refine w_aload rfl rfl ?_
  refine w_iconst rfl ?_
  refine w_aload_n rfl rfl ?_
  refine w_iload_n rfl rfl ?_
  refine w_iload_n rfl rfl ?_
  refine w_iload_n rfl rfl ?_
  refine w_catch (ins2 := .ireturn) rfl hd rfl ho mt_99 (Nat.le_of_ble_eq_true rfl) (Nat.le_of_ble_eq_true rfl) hc rfl rfl rfl (by decide) ?_
  refine w_iconst rfl ?_
  refine w_ireturn rfl rfl ?_
  exact ⟨rfl, rfl⟩
theorem hV_octet (d : Nat) (hd : 1 ≤ d) {x : Int} {y : Int} {z : Int} {v : Int} {A0 X : Nat} {H : AH} {fs : List Value} {of : Nat → Value} {P : AH → Prop} (ho : H.2.2 A0 = some (.inr (0, fs))) (hc : Wp b L xs (d - 1) mi_99 0 (ent (mL mi_99) [.ref A0, vI x, vI y, vI z]) [] H (fun h' o => o = .inl (some (vI v)) ∧ P h')) (hX : ∀ h', P h' → h'.2.2 X = some (.inl (.long, 1, of))) : Wp b L xs d mi_98 0 (ent (mL mi_98) [.ref A0, vI x, vI y, vI z, .ref X]) [] H (fun h2 o => o = .inl (some (vI 0)) ∧ ∃ h', P h' ∧ h2 = hput h' X (.inl (.long, 1, updV of 0 (.long (Int32.ofInt v).toInt64)))) := by
  refine w_aload rfl rfl ?_
  refine w_iconst rfl ?_
  refine w_aload_n rfl rfl ?_
  refine w_iload_n rfl rfl ?_
  refine w_iload_n rfl rfl ?_
  refine w_iload_n rfl rfl ?_
  refine w_cv rfl (by decide) hd rfl ho mt_99 (Nat.le_of_ble_eq_true rfl) (Nat.le_of_ble_eq_true rfl) hc ?_
  rintro h' _ ⟨rfl, hP⟩
  refine ⟨_, rfl, ?_⟩
  refine w_i2l rfl ?_
  refine w_lastore rfl (hX h' hP) (by decide) (by decide) (by decide) ?_
  refine w_goto rfl ?_
  refine w_iconst rfl ?_
  refine w_ireturn rfl rfl ?_
  exact ⟨rfl, h', hP, rfl⟩
theorem hE_find_1 (d : Nat) (hd : 1 ≤ d) {x : Int} {y : Int} {z : Int} {A0 X : Nat} {H h1 : AH} {fs : List Value} (ho : H.2.2 A0 = some (.inr (0, fs))) (hc : Wp b L xs (d - 1) mi_104 0 (ent (mL mi_104) [.ref A0, vI x, vI y, vI z]) [] H (fun h' o => h' = h1 ∧ o = .inr 1)) : Wp b L xs d mi_103 0 (ent (mL mi_103) [.ref A0, vI x, vI y, vI z, .ref X]) [] H (Rt h1 (vI 1)) := by
  refine w_aload rfl rfl ?_
  refine w_iconst rfl ?_
  refine w_aload_n rfl rfl ?_
  refine w_iload_n rfl rfl ?_
  refine w_iload_n rfl rfl ?_
  refine w_iload_n rfl rfl ?_
  refine w_catch (ins2 := .ireturn) rfl hd rfl ho mt_104 (Nat.le_of_ble_eq_true rfl) (Nat.le_of_ble_eq_true rfl) hc rfl rfl rfl (by decide) ?_
  refine w_iconst rfl ?_
  refine w_ireturn rfl rfl ?_
  exact ⟨rfl, rfl⟩
theorem hE_find_0 (d : Nat) (hd : 1 ≤ d) {x : Int} {y : Int} {z : Int} {A0 X : Nat} {H h1 : AH} {fs : List Value} (ho : H.2.2 A0 = some (.inr (0, fs))) (hc : Wp b L xs (d - 1) mi_104 0 (ent (mL mi_104) [.ref A0, vI x, vI y, vI z]) [] H (fun h' o => h' = h1 ∧ o = .inr 0)) : Wp b L xs d mi_103 0 (ent (mL mi_103) [.ref A0, vI x, vI y, vI z, .ref X]) [] H (Rt h1 (vI 2)) := by
  refine w_aload rfl rfl ?_
  refine w_iconst rfl ?_
  refine w_aload_n rfl rfl ?_
  refine w_iload_n rfl rfl ?_
  refine w_iload_n rfl rfl ?_
  refine w_iload_n rfl rfl ?_
  refine w_catch (ins2 := .ireturn) rfl hd rfl ho mt_104 (Nat.le_of_ble_eq_true rfl) (Nat.le_of_ble_eq_true rfl) hc rfl rfl rfl (by decide) ?_
  refine w_iconst rfl ?_
  refine w_ireturn rfl rfl ?_
  exact ⟨rfl, rfl⟩
theorem hV_find (d : Nat) (hd : 1 ≤ d) {x : Int} {y : Int} {z : Int} {v : Int} {A0 X : Nat} {H : AH} {fs : List Value} {of : Nat → Value} {P : AH → Prop} (ho : H.2.2 A0 = some (.inr (0, fs))) (hc : Wp b L xs (d - 1) mi_104 0 (ent (mL mi_104) [.ref A0, vI x, vI y, vI z]) [] H (fun h' o => o = .inl (some (vI v)) ∧ P h')) (hX : ∀ h', P h' → h'.2.2 X = some (.inl (.long, 1, of))) : Wp b L xs d mi_103 0 (ent (mL mi_103) [.ref A0, vI x, vI y, vI z, .ref X]) [] H (fun h2 o => o = .inl (some (vI 0)) ∧ ∃ h', P h' ∧ h2 = hput h' X (.inl (.long, 1, updV of 0 (.long (Int32.ofInt v).toInt64)))) := by
  refine w_aload rfl rfl ?_
  refine w_iconst rfl ?_
  refine w_aload_n rfl rfl ?_
  refine w_iload_n rfl rfl ?_
  refine w_iload_n rfl rfl ?_
  refine w_iload_n rfl rfl ?_
  refine w_cv rfl (by decide) hd rfl ho mt_104 (Nat.le_of_ble_eq_true rfl) (Nat.le_of_ble_eq_true rfl) hc ?_
  rintro h' _ ⟨rfl, hP⟩
  refine ⟨_, rfl, ?_⟩
  refine w_i2l rfl ?_
  refine w_lastore rfl (hX h' hP) (by decide) (by decide) (by decide) ?_
  refine w_goto rfl ?_
  refine w_iconst rfl ?_
  refine w_ireturn rfl rfl ?_
  exact ⟨rfl, h', hP, rfl⟩
theorem hE_count_0 (d : Nat) (hd : 1 ≤ d) {x : Int} {A0 X : Nat} {H h1 : AH} {fs : List Value} (ho : H.2.2 A0 = some (.inr (0, fs))) (hc : Wp b L xs (d - 1) mi_108 0 (ent (mL mi_108) [.ref A0, vI x]) [] H (fun h' o => h' = h1 ∧ o = .inr 0)) : Wp b L xs d mi_107 0 (ent (mL mi_107) [.ref A0, vI x, .ref X]) [] H (Rt h1 (vI 1)) := by
  refine w_aload_n rfl rfl ?_
  refine w_iconst rfl ?_
  refine w_aload_n rfl rfl ?_
  refine w_iload_n rfl rfl ?_
  refine w_catchN (ins2 := .ireturn) rfl hd rfl ho mt_108 (Nat.le_of_ble_eq_true rfl) (Nat.le_of_ble_eq_true rfl) hc rfl rfl rfl (by decide) ?_
  refine w_iconst rfl ?_
  refine w_ireturn rfl rfl ?_
  exact ⟨rfl, rfl⟩
theorem hV_count (d : Nat) (hd : 1 ≤ d) {x : Int} {v : Int} {A0 X : Nat} {H : AH} {fs : List Value} {of : Nat → Value} {P : AH → Prop} (ho : H.2.2 A0 = some (.inr (0, fs))) (hc : Wp b L xs (d - 1) mi_108 0 (ent (mL mi_108) [.ref A0, vI x]) [] H (fun h' o => o = .inl (some (vI v)) ∧ P h')) (hX : ∀ h', P h' → h'.2.2 X = some (.inl (.long, 1, of))) : Wp b L xs d mi_107 0 (ent (mL mi_107) [.ref A0, vI x, .ref X]) [] H (fun h2 o => o = .inl (some (vI 0)) ∧ ∃ h', P h' ∧ h2 = hput h' X (.inl (.long, 1, updV of 0 (.long (Int32.ofInt v).toInt64)))) := by
  refine w_aload_n rfl rfl ?_
  refine w_iconst rfl ?_
  refine w_aload_n rfl rfl ?_
  refine w_iload_n rfl rfl ?_
  refine w_cv rfl (by decide) hd rfl ho mt_108 (Nat.le_of_ble_eq_true rfl) (Nat.le_of_ble_eq_true rfl) hc ?_
  rintro h' _ ⟨rfl, hP⟩
  refine ⟨_, rfl, ?_⟩
  refine w_i2l rfl ?_
  refine w_lastore rfl (hX h' hP) (by decide) (by decide) (by decide) ?_
  refine w_goto rfl ?_
  refine w_iconst rfl ?_
  refine w_ireturn rfl rfl ?_
  exact ⟨rfl, h', hP, rfl⟩
end Hlp
