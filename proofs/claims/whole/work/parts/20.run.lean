/-! the run is the machine's -/
section SndZ
variable {D : va_G} {dA : FieldType → ClassId} {base b L : Nat} {xs : Nat → Int32} {l : Launch}
theorem hcl_lt : ∀ q ∈ hcl, q.2 < 4 := by decide
theorem fh_lt : ∀ {hh : List (Nat × Nat × Nat × Nat)} {pc E hp : Nat}, fh hh pc E = some hp → E < 4
  | [], _, _, _, h => by cases h
  | q :: t, pc, E, hp, h => by
    unfold fh at h
    split at h
    · split at h
      · rename_i F hF
        split at h
        · rename_i e
          subst e
          exact hcl_lt _ (lookup_mem hF)
        · exact fh_lt h
      · cases h
    · exact fh_lt h
theorem ct_lt {rc : RF} {d : Nat} {M : MI} {pc E : Nat} {lv : List (Option Value)} {h : AH} {z : AH × RO} (hr : ctF rc d M pc lv h E = some z) : E < 4 := by
  unfold ctF at hr
  split at hr
  · cases hf : fh (mH M) pc E with
    | none => rw [hf] at hr; cases hr
    | some hp => exact fh_lt hf
  · cases hr
theorem inv_dec {M : MI} {pc nx : Nat} {ins : Instr} {ri : List Nat} (h : eok (mY M).cls (mB M) (decide ((mY M).name = "<init>")) (pc, ins, nx, ri) = true) (hins : (∃ i, ins = .invokestatic i) ∨ (∃ i, ins = .invokespecial i) ∨ ∃ i, ins = .invokevirtual i) : decode (mB M) pc = .ok (ins, 3) ∧ nx = pc + 3 := by
  rcases hins with ⟨i, rfl⟩ | ⟨i, rfl⟩ | ⟨i, rfl⟩
  all_goals
    simp only [eok, Bool.and_eq_true, decide_eq_true_eq] at h
    simp only [ilen] at h
    exact h.1
theorem caF_10 {rc : RF} {d : Nat} {M : MI} {pc nx : Nat} {t : List Nat} {lv : List (Option Value)} {st : List Value} {h : AH} : caF rc d M pc nx (10 :: t) lv st h = (match st with
    | .ref _ :: r => if 1 ≤ d ∧ wsum r ≤ 8 then rc d M nx lv r h else none
    | _ => none) := rfl
theorem caF_7 {rc : RF} {d : Nat} {M : MI} {pc nx : Nat} {t : List Nat} {lv : List (Option Value)} {st : List Value} {h : AH} : caF rc d M pc nx (7 :: t) lv st h = (match acq st h with
    | some z => if 2 ≤ d ∧ wsum z.1 ≤ 8 then rc d M nx lv z.1 z.2 else none
    | none => none) := rfl
theorem caF_11 {rc : RF} {d : Nat} {M : MI} {pc nx : Nat} {t : List Nat} {lv : List (Option Value)} {st : List Value} {h : AH} : caF rc d M pc nx (11 :: t) lv st h = (match st with
    | .int y :: .int x :: r => if 1 ≤ d ∧ wsum r ≤ 8 then rc d M nx lv (.int (if x < y then y else x) :: r) h else none
    | _ => none) := rfl
theorem caF_12 {rc : RF} {d : Nat} {M : MI} {pc nx : Nat} {t : List Nat} {lv : List (Option Value)} {st : List Value} {h : AH} : caF rc d M pc nx (12 :: t) lv st h = (match st with
    | .int y :: .int x :: r => if 1 ≤ d ∧ wsum r ≤ 8 then rc d M nx lv (.int (if y < x then y else x) :: r) h else none
    | _ => none) := rfl
theorem tgtM_4 {k : Nat} {t : List Nat} {r : List Value} {h : AH} : tgtM 4 k t r h = (match r with
    | .ref a :: r => some (k, [.ref a], r)
    | _ => none) := rfl
theorem tgtM_5 {k : Nat} {t : List Nat} {r : List Value} {h : AH} : tgtM 5 k t r h = (match r with
    | .ref a :: r => some (k, [.ref a], r)
    | _ => none) := rfl
theorem tgtM_2 {k ci : Nat} {t : List Nat} {r : List Value} {h : AH} : tgtM 2 k (ci :: t) r h = (match r with
    | .ref a :: r => match h.2.2 a with
      | some (.inr (cj, _)) => if cj = ci then some (k, [.ref a], r) else none
      | _ => none
    | _ => none) := by cases r with | nil => rfl | cons v r => cases v <;> rfl
theorem tgtM_9 {k ci : Nat} {t : List Nat} {r : List Value} {h : AH} : tgtM 9 k (ci :: t) r h = (match r with
    | .ref a :: r => match h.2.2 a with
      | some (.inr (cj, _)) => if cj = ci then some (k, [.ref a], r) else none
      | _ => none
    | _ => none) := by cases r with | nil => rfl | cons v r => cases v <;> rfl
theorem tgtM_6 {k k2 : Nat} {t : List Nat} {r : List Value} {h : AH} : tgtM 6 k (k2 :: t) r h = (match r with
    | .ref a :: r => match h.2.2 a with
      | some (.inr (1, _)) => some (k, [.ref a], r)
      | some (.inr (4, _)) => some (k2, [.ref a], r)
      | _ => none
    | _ => none) := by cases r with | nil => rfl | cons v r => cases v <;> rfl
theorem ca_st {rc : RF} (hS : Snd D dA base b L xs l rc) {d : Nat} {M : MI} {pc nx idx : Nat} {ri : List Nat} {lv : List (Option Value)} {st : List Value} {h h' : AH} {o : RO} (hM : mokb M = true) (he : eokx M (pc, .invokestatic idx, nx, ri) = true) (hr : caF rc d M pc nx ri lv st h = some (h', o)) : Ok D dA base b L xs l d M pc lv st h h' o := by
  obtain ⟨h1, h2⟩ := eok_of he (fun _ z => by cases z) (fun _ _ z => by cases z)
  obtain ⟨hdg, hnx⟩ := inv_dec h1 (Or.inl ⟨_, rfl⟩)
  unfold cok at h2
  split at h2
  · rename_i idx' na k w1 w2 w3 w4 e1 e2
    cases e1
    have e2 : ri = [0, na, k, w1, w2, w3, w4] := e2
    subst e2
    have hr : cdF rc d M pc nx 0 na k [w1, w2, w3, w4] lv st h = some (h', o) := hr
    obtain ⟨d', as, r0, k', rv, r, M', rfl, hn, hst, ht, hm, hlen, hw, hc⟩ := cd_inv hr
    cases ht
    rcases hc with ⟨h9, v, c1, c2⟩ | ⟨_, _, _, c3, _⟩
    · exact cd_static hS hM hdg hnx hm h2 hn hst hlen hw c1 c2
    · cases c3
  · rename_i idx' na k w1 w2 w3 w4 e1 e2
    cases e1
    have e2 : ri = [1, na, k, w1, w2, w3, w4] := e2
    subst e2
    have hr : cdF rc d M pc nx 1 na k [w1, w2, w3, w4] lv st h = some (h', o) := hr
    obtain ⟨d', as, r0, k', rv, r, M', rfl, hn, hst, ht, hm, hlen, hw, hc⟩ := cd_inv hr
    cases ht
    rcases hc with ⟨h9, v, c1, c2⟩ | ⟨_, _, _, c3, _⟩
    · exact cd_static hS hM hdg hnx hm h2 hn hst hlen hw c1 c2
    · cases c3
  · rename_i idx' na k w1 w2 w3 w4 e1 e2
    cases e1
    have e2 : ri = [8, na, k, w1, w2, w3, w4] := e2
    subst e2
    have hr : cdF rc d M pc nx 8 na k [w1, w2, w3, w4] lv st h = some (h', o) := hr
    obtain ⟨d', as, r0, k', rv, r, M', rfl, hn, hst, ht, hm, hlen, hw, hc⟩ := cd_inv hr
    cases ht
    rcases hc with ⟨h9, v, c1, c2⟩ | ⟨_, _, _, c3, _⟩
    · exact cd_staticW hS hM hdg hnx hm h2 hn hst hlen hw c1 c2
    · cases c3
  · rename_i idx' w1 e1 e2
    cases e1
    have e2 : ri = [7, w1] := e2
    subst e2
    rw [caF_7] at hr
    cases hz : acq st h with
    | none => rw [hz] at hr; cases hr
    | some z =>
      rw [hz] at hr
      try dsimp only at hr
      split at hr
      · rename_i hc
        exact ca_cpy hS hM hdg hnx h2 hz hc.1 hc.2 hr
      · cases hr
  · rename_i idx' w1 w2 w3 w4 e1 e2
    cases e1
    have e2 : ri = [11, w1, w2, w3, w4] := e2
    subst e2
    simp only [Bool.and_eq_true] at h2
    rw [caF_11] at hr
    split at hr
    · split at hr
      · rename_i hc
        exact ca_max hS hM hdg hnx h2.1.1.1 h2.1.1.2 h2.1.2 h2.2 hc.1 hc.2 hr
      · cases hr
    · cases hr
  · rename_i idx' w1 w2 w3 w4 e1 e2
    cases e1
    have e2 : ri = [12, w1, w2, w3, w4] := e2
    subst e2
    simp only [Bool.and_eq_true] at h2
    rw [caF_12] at hr
    split at hr
    · split at hr
      · rename_i hc
        exact ca_min hS hM hdg hnx h2.1.1.1 h2.1.1.2 h2.1.2 h2.2 hc.1 hc.2 hr
      · cases hr
    · cases hr
  all_goals first | (exfalso; simp_all; done) | (cases h2; done)
theorem ca_sp {rc : RF} (hS : Snd D dA base b L xs l rc) {d : Nat} {M : MI} {pc nx idx : Nat} {ri : List Nat} {lv : List (Option Value)} {st : List Value} {h h' : AH} {o : RO} (hM : mokb M = true) (he : eokx M (pc, .invokespecial idx, nx, ri) = true) (hr : caF rc d M pc nx ri lv st h = some (h', o)) : Ok D dA base b L xs l d M pc lv st h h' o := by
  obtain ⟨h1, h2⟩ := eok_of he (fun _ z => by cases z) (fun _ _ z => by cases z)
  obtain ⟨hdg, hnx⟩ := inv_dec h1 (Or.inr (Or.inl ⟨_, rfl⟩))
  have go : ∀ (nest : Bool) (kd na k w1 w2 w3 w4 : Nat), (kd = 4 ∨ kd = 5) → cokI (mY M).cls idx nest na k w1 w2 w3 = true → cdF rc d M pc nx kd na k [w1, w2, w3, w4] lv st h = some (h', o) → Ok D dA base b L xs l d M pc lv st h h' o := by
    intro nest kd na k w1 w2 w3 w4 hk h2 hr
    obtain ⟨d', as, r0, k', rv, r, M', rfl, hn, hst, ht, hm, hlen, hw, hc⟩ := cd_inv hr
    have ht2 : ∃ a, r0 = .ref a :: r ∧ k' = k ∧ rv = [.ref a] := by
      rcases hk with rfl | rfl
      · rw [tgtM_4] at ht
        split at ht
        · cases ht; exact ⟨_, rfl, rfl, rfl⟩
        · cases ht
      · rw [tgtM_5] at ht
        split at ht
        · cases ht; exact ⟨_, rfl, rfl, rfl⟩
        · cases ht
    obtain ⟨a, rfl, rfl, rfl⟩ := ht2
    rcases hc with ⟨h9, v, c1, c2⟩ | ⟨_, _, _, c3, _⟩
    · exact cd_init hS hM hdg hnx hm h2 hn hst hlen hw c1 c2
    · rcases hk with rfl | rfl <;> cases c3
  unfold cok at h2
  split at h2
  all_goals try (exfalso; rename_i e1 _; cases e1; done)
  · rename_i idx' na k w1 w2 w3 w4 e1 e2
    cases e1
    have e2 : ri = [4, na, k, w1, w2, w3, w4] := e2
    subst e2
    exact go false 4 na k w1 w2 w3 w4 (Or.inl rfl) h2 hr
  · rename_i idx' na k w1 w2 w3 w4 e1 e2
    cases e1
    have e2 : ri = [5, na, k, w1, w2, w3, w4] := e2
    subst e2
    exact go true 5 na k w1 w2 w3 w4 (Or.inr rfl) h2 hr
  · rename_i idx' w1 w2 w3 e1 e2
    cases e1
    have e2 : ri = [10, w1, w2, w3] := e2
    subst e2
    simp only [Bool.and_eq_true] at h2
    rw [caF_10] at hr
    split at hr
    · split at hr
      · rename_i hc
        exact ca_obj hS hM hdg hnx h2.1.1 h2.1.2 h2.2 hc.1 hc.2 hr
      · cases hr
    · cases hr
  all_goals first | (exfalso; simp_all; done) | (cases h2; done)
end SndZ
