/-! virtual calls, the dispatch, the induction -/
section SndW
variable {D : va_G} {dA : FieldType → ClassId} {base b L : Nat} {xs : Nat → Int32} {l : Launch}
theorem ca_vi (hlt : l.stackTraces = false) {rc : RF} (hS : Snd D dA base b L xs l rc) {d : Nat} {M : MI} {pc nx idx : Nat} {ri : List Nat} {lv : List (Option Value)} {st : List Value} {h h' : AH} {o : RO} (hM : mokb M = true) (he : eokx M (pc, .invokevirtual idx, nx, ri) = true) (hr : caF rc d M pc nx ri lv st h = some (h', o)) : Ok D dA base b L xs l d M pc lv st h h' o := by
  obtain ⟨h1, h2⟩ := eok_of he (fun _ z => by cases z) (fun _ _ z => by cases z)
  obtain ⟨hdg, hnx⟩ := inv_dec h1 (Or.inr (Or.inr ⟨_, rfl⟩))
  have go : ∀ (kd na k ci w1 w2 w3 w4 w5 : Nat), (kd = 2 ∨ kd = 9) → cokV (mY M).cls idx na k ci w1 w2 w3 w4 = true → cdF rc d M pc nx kd na k [ci, w1, w2, w3, w4, w5] lv st h = some (h', o) → Ok D dA base b L xs l d M pc lv st h h' o := by
    intro kd na k ci w1 w2 w3 w4 w5 hk h2 hr
    obtain ⟨d', as, r0, k', rv, r, M', rfl, hn, hst, ht, hm, hlen, hw, hc⟩ := cd_inv hr
    have ht2 : ∃ a fs, r0 = .ref a :: r ∧ k' = k ∧ rv = [.ref a] ∧ h.2.2 a = some (.inr (ci, fs)) := by
      rcases hk with rfl | rfl
      · rw [tgtM_2] at ht
        split at ht
        · rename_i a r'
          split at ht
          · rename_i cj fs ha
            split at ht
            · rename_i hcj
              subst hcj
              cases ht
              exact ⟨a, fs, rfl, rfl, rfl, ha⟩
            · cases ht
          · cases ht
        · cases ht
      · rw [tgtM_9] at ht
        split at ht
        · rename_i a r'
          split at ht
          · rename_i cj fs ha
            split at ht
            · rename_i hcj
              subst hcj
              cases ht
              exact ⟨a, fs, rfl, rfl, rfl, ha⟩
            · cases ht
          · cases ht
        · cases ht
    obtain ⟨a, fs, rfl, rfl, rfl, ha⟩ := ht2
    rcases hc with ⟨h9, v, c1, c2⟩ | ⟨h9, E, c1, c3, c2⟩
    · exact cd_virt hS hM hdg hnx hm h2 ha hn hst hlen hw c1 c2
    · exact cd_catch hlt hS hM hdg hnx hm h2 ha hn hst hlen hw c1 (ct_lt c2) c2
  unfold cok at h2
  split at h2
  all_goals try (exfalso; rename_i e1 _; cases e1; done)
  · rename_i idx' na k ci w1 w2 w3 w4 w5 e1 e2
    cases e1
    have e2 : ri = [2, na, k, ci, w1, w2, w3, w4, w5] := e2
    subst e2
    exact go 2 na k ci w1 w2 w3 w4 w5 (Or.inl rfl) h2 hr
  · rename_i idx' na k ci w1 w2 w3 w4 w5 e1 e2
    cases e1
    have e2 : ri = [9, na, k, ci, w1, w2, w3, w4, w5] := e2
    subst e2
    exact go 9 na k ci w1 w2 w3 w4 w5 (Or.inr rfl) h2 hr
  · rename_i idx' na k k2 w1 w2 w3 s1 s2 s3 s4 t1 t2 t3 t4 e1 e2
    cases e1
    have e2 : ri = [6, na, k, k2, w1, w2, w3, s1, s2, s3, s4, t1, t2, t3, t4] := e2
    subst e2
    rw [Bool.and_eq_true] at h2
    have hr : cdF rc d M pc nx 6 na k [k2, w1, w2, w3, s1, s2, s3, s4, t1, t2, t3, t4] lv st h = some (h', o) := hr
    obtain ⟨d', as, r0, k', rv, r, M', rfl, hn, hst, ht, hm, hlen, hw, hc⟩ := cd_inv hr
    rw [tgtM_6] at ht
    have hc : ∃ h9 v, rc d' M' 0 (ent (mL M') (rv ++ as)) [] h = some (h9, .inl v) ∧ rc (d' + 1) M nx lv (v.toList ++ r) h9 = some (h', o) := by
      rcases hc with hc | ⟨_, _, _, c3, _⟩
      · exact hc
      · cases c3
    obtain ⟨h9, v, c1, c2⟩ := hc
    split at ht
    · rename_i a r'
      split at ht
      · rename_i fs ha
        cases ht
        exact cd_abs hS hM hdg hnx hm h2.1 ha hn hst hlen hw c1 c2
      · rename_i fs ha
        cases ht
        exact cd_abs hS hM hdg hnx hm h2.2 ha hn hst hlen hw c1 c2
      · cases ht
    · cases ht
  all_goals first | (exfalso; simp_all; done) | (cases h2; done)
theorem eok_ret {M : MI} {pc nx : Nat} {ins : Instr} {ri : List Nat} (he : eokx M (pc, ins, nx, ri) = true) (hins : ins = .ireturn ∨ ins = .lreturn ∨ ins = .areturn ∨ ins = .return_) : decode (mB M) pc = .ok (ins, 1) := by
  rcases hins with rfl | rfl | rfl | rfl
  all_goals
    obtain ⟨h1, -⟩ := eok_of he (fun _ z => by cases z) (fun _ _ z => by cases z)
    simp only [eok, Bool.and_eq_true, decide_eq_true_eq] at h1
    simp only [ilen] at h1
    exact h1.1.1
theorem mu_ok {rc : RF} (hS : Snd D dA base b L xs l rc) {d : Nat} {M : MI} {pc i nx : Nat} {ri : List Nat} {lv : List (Option Value)} {st : List Value} {h h' : AH} {o : RO} (hM : mokb M = true) (hr : muF rc d M pc i nx ri lv st h = some (h', o)) : Ok D dA base b L xs l d M pc lv st h h' o := by
  unfold muF at hr
  split at hr
  · rename_i t w _
    split at hr
    · rename_i ty ht
      have hty : ty ∈ ([.byte, .boolean, .int] : List FieldType) := by
        unfold muT at ht
        split at ht
        all_goals first | (cases ht; decide) | cases ht
      unfold muG at hr
      split at hr
      · rename_i k n r
        split at hr
        · rename_i hc
          obtain ⟨hmc, hn, hk, hn2, hk2⟩ := hc
          unfold mchk at hmc
          rw [Bool.and_eq_true, Bool.and_eq_true, decide_eq_true_eq, decide_eq_true_eq, decide_eq_true_eq] at hmc
          obtain ⟨⟨hdg, hw⟩, rfl⟩ := hmc
          obtain ⟨m1, k1⟩ := hS d M (pc + 4) lv (.ref h.1 :: r) (hmul h ty n.toNatClampNeg k.toNatClampNeg) h' o hM hr
          have e1 : (hmul h ty n.toNatClampNeg k.toNatClampNeg).1 = h.1 + 1 + n.toNatClampNeg := rfl
          have e2 : (hmul h ty n.toNatClampNeg k.toNatClampNeg).2.1 = h.2.1 + n.toNatClampNeg + n.toNatClampNeg * k.toNatClampNeg := rfl
          refine ⟨⟨by omega, by omega⟩, fun p e R s m args below meth c Q n0 s0 g => ?_⟩
          intro H locs cells slots ls hR hS1 hL hcl hsl
          have g1 := g.2.2.2.2.2.1
          have g2 := g.2.2.2.2.2.2.1
          refine rw_multi g.1.1 g.1.2.1 g.1.2.2.2.2.1 g.1.2.2.2.1 hty hR hS1 hw hn hk hn2 hk2 (by omega) (by omega) hdg (fun H1 locs1 hR1 hSS => ?_)
          exact k1 p e R s m args below meth c Q n0 s0 g H1 locs1 _ _ ls hR1 hSS hL (by omega) (by omega)
        · cases hr
      · cases hr
    · cases hr
  · cases hr
theorem dp_ok (hlt : l.stackTraces = false) {rc : RF} (hS : Snd D dA base b L xs l rc) {d : Nat} {M : MI} {pc nx : Nat} {ins : Instr} {ri : List Nat} {lv : List (Option Value)} {st : List Value} {h h' : AH} {o : RO} (hM : mokb M = true) (he : eokx M (pc, ins, nx, ri) = true) (hr : dpF b L xs rc d M pc ins nx ri lv st h = some (h', o)) : Ok D dA base b L xs l d M pc lv st h h' o := by
  unfold dpF at hr
  split at hr
  · exact fi_ok (nx := nx) (ri := ri) (eok_ret he (Or.inl rfl)) hr
  · exact fi_ok (nx := nx) (ri := ri) (eok_ret he (Or.inr (Or.inl rfl))) hr
  · exact fi_ok (nx := nx) (ri := ri) (eok_ret he (Or.inr (Or.inr (Or.inl rfl)))) hr
  · exact fi_ok (nx := nx) (ri := ri) (eok_ret he (Or.inr (Or.inr (Or.inr rfl)))) hr
  · exact ca_vi hlt hS hM he hr
  · exact ca_sp hS hM he hr
  · exact ca_st hS hM he hr
  · exact mu_ok hS hM hr
  · rename_i ik
    split at hr
    · rename_i E ic w
      split at hr
      · rename_i hc
        cases hr
        refine ⟨⟨Nat.le_succ _, Nat.le_add_right _ _⟩, fun p e R s m args below meth c Q n0 s0 g => ?_⟩
        intro H locs cells slots ls hR hS1 hL hcl hsl
        exact g.2.2.2.2.2.2.2 h H locs cells slots ls pc st ik nx ic w rfl hR hS1 hL.2.1 hcl hsl (by rw [g.2.2.2.1]; exact hc.1) hc.2 he
      · cases hr
    · rename_i hne
      by_cases h50 : ∃ r, ri = 50 :: r
      · obtain ⟨r, rfl⟩ := h50
        exfalso
        unfold stF at hr
        have hz : stp b L xs (mL M) (.new ik) nx (50 :: r) lv st h = none := rfl
        rw [hz] at hr
        cases hr
      · exact st_ok hS hM (eok_of he (fun _ _ r z => h50 ⟨r, z⟩) (fun _ _ z => by cases z)).1 hr
  · rename_i n1 n2 n3 n4 n5 n6 n7 n9 n8
    exact st_ok hS hM (eok_of he (fun ik z r _ => n8 ik z) (fun i j z => n9 i j z)).1 hr
/-- THE RUN IS THE MACHINE'S -/
theorem rn_snd (hlt : l.stackTraces = false) : ∀ n : Nat, Snd D dA base b L xs l (rnF b L xs n)
  | 0 => fun d M pc lv st h h' o _ hr => by cases hr
  | n + 1 => by
    intro d M pc lv st h h' o hM hr
    unfold rnF at hr
    cases hf : fet (mE M) pc with
    | none => rw [hf] at hr; cases hr
    | some q =>
      rw [hf] at hr
      obtain ⟨ins, nx, ri⟩ := q
      exact dp_ok hlt (rn_snd hlt n) hM (List.all_eq_true.mp hM _ (fet_inv hf)) hr
end SndW
