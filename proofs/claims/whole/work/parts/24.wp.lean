/-! runs of the abstract machine by what they come to -/
section RnMono
variable {sb sL : Nat} {sx : Nat → Int32}
def rcLe (rc rc' : RF) : Prop := ∀ d M pc lv st h r, rc d M pc lv st h = some r → rc' d M pc lv st h = some r
theorem ctF_mono {rc rc' : RF} (H : rcLe rc rc') {d : Nat} {M : MI} {pc : Nat} {lv : List (Option Value)} {h : AH} {E : Nat} {r : AH × RO} (hr : ctF rc d M pc lv h E = some r) : ctF rc' d M pc lv h E = some r := by
  unfold ctF at hr ⊢
  split
  · rename_i hc
    rw [if_pos hc] at hr
    cases e1 : fh (mH M) pc E with
    | none => rw [e1] at hr; cases hr
    | some hp =>
      rw [e1] at hr
      dsimp only at hr ⊢
      split at hr
      · rename_i q nx2 w e2
        try rw [e2]
        try dsimp only
        split at hr
        · rename_i hq
          rw [if_pos hq]
          exact H _ _ _ _ _ _ _ hr
        · cases hr
      · rename_i q nx2 w e2
        try rw [e2]
        try dsimp only
        split at hr
        · rename_i hq
          rw [if_pos hq]
          exact H _ _ _ _ _ _ _ hr
        · cases hr
      · cases hr
  · rename_i hc
    rw [if_neg hc] at hr
    cases hr
theorem cdF_mono {rc rc' : RF} (H : rcLe rc rc') {d : Nat} {M : MI} {pc nx kd na k : Nat} {t : List Nat} {lv : List (Option Value)} {st : List Value} {h : AH} {r : AH × RO} (hr : cdF rc d M pc nx kd na k t lv st h = some r) : cdF rc' d M pc nx kd na k t lv st h = some r := by
  cases d with
  | zero => cases hr
  | succ d' =>
    unfold cdF at hr ⊢
    dsimp only at hr ⊢
    cases e1 : popN na st with
    | none => rw [e1] at hr; cases hr
    | some z =>
      rw [e1] at hr
      dsimp only at hr ⊢
      cases e2 : tgtM kd k t z.2 h with
      | none => rw [e2] at hr; cases hr
      | some y =>
        rw [e2] at hr
        dsimp only at hr ⊢
        cases e3 : mt[y.1]? with
        | none => rw [e3] at hr; cases hr
        | some M' =>
          rw [e3] at hr
          dsimp only at hr ⊢
          by_cases hc : ((y.2.1 ++ z.1).flatMap ent1).length ≤ mL M' ∧ wsum y.2.2 ≤ 8
          · rw [if_pos hc] at hr ⊢
            cases e4 : rc d' M' 0 (ent (mL M') (y.2.1 ++ z.1)) [] h with
            | none => rw [e4] at hr; cases hr
            | some w =>
              rw [e4] at hr
              rw [H _ _ _ _ _ _ _ e4]
              obtain ⟨h1, o⟩ := w
              cases o with
              | inl v => exact H _ _ _ _ _ _ _ hr
              | inr E =>
                dsimp only at hr ⊢
                by_cases hk : kd = 9
                · rw [if_pos hk] at hr ⊢
                  exact ctF_mono H hr
                · rw [if_neg hk] at hr
                  cases hr
          · rw [if_neg hc] at hr
            cases hr
theorem caF_mono {rc rc' : RF} (H : rcLe rc rc') {d : Nat} {M : MI} {pc nx : Nat} {ri : List Nat} {lv : List (Option Value)} {st : List Value} {h : AH} {r : AH × RO} (hr : caF rc d M pc nx ri lv st h = some r) : caF rc' d M pc nx ri lv st h = some r := by
  unfold caF at hr ⊢
  split at hr
  · split at hr
    · split at hr
      · rename_i hc
        try dsimp only
        rw [if_pos hc]
        exact H _ _ _ _ _ _ _ hr
      · cases hr
    · cases hr
  · split at hr
    · rename_i z e1
      split at hr
      · rename_i hc
        try dsimp only
        try rw [e1]
        try dsimp only
        rw [if_pos hc]
        exact H _ _ _ _ _ _ _ hr
      · cases hr
    · cases hr
  · split at hr
    · split at hr
      · rename_i hc
        try dsimp only
        rw [if_pos hc]
        exact H _ _ _ _ _ _ _ hr
      · cases hr
    · cases hr
  · split at hr
    · split at hr
      · rename_i hc
        try dsimp only
        rw [if_pos hc]
        exact H _ _ _ _ _ _ _ hr
      · cases hr
    · cases hr
  · exact cdF_mono H hr
  · cases hr
theorem stF_mono {rc rc' : RF} (H : rcLe rc rc') {d : Nat} {M : MI} {ins : Instr} {nx : Nat} {ri : List Nat} {lv : List (Option Value)} {st : List Value} {h : AH} {r : AH × RO} (hr : stF sb sL sx rc d M ins nx ri lv st h = some r) : stF sb sL sx rc' d M ins nx ri lv st h = some r := by
  unfold stF at hr ⊢
  cases e1 : stp sb sL sx (mL M) ins nx ri lv st h with
  | none => rw [e1] at hr; cases hr
  | some z =>
    rw [e1] at hr
    exact H _ _ _ _ _ _ _ hr
theorem muF_mono {rc rc' : RF} (H : rcLe rc rc') {d : Nat} {M : MI} {pc i nx : Nat} {ri : List Nat} {lv : List (Option Value)} {st : List Value} {h : AH} {r : AH × RO} (hr : muF rc d M pc i nx ri lv st h = some r) : muF rc' d M pc i nx ri lv st h = some r := by
  unfold muF at hr ⊢
  split at hr
  · split at hr
    · rename_i ty e1
      try dsimp only
      try rw [e1]
      try dsimp only
      unfold muG at hr ⊢
      split at hr
      · split at hr
        · rename_i hc
          try dsimp only
          rw [if_pos hc]
          exact H _ _ _ _ _ _ _ hr
        · cases hr
      · cases hr
    · cases hr
  · cases hr
theorem dpF_mono {rc rc' : RF} (H : rcLe rc rc') {d : Nat} {M : MI} {pc : Nat} {ins : Instr} {nx : Nat} {ri : List Nat} {lv : List (Option Value)} {st : List Value} {h : AH} {r : AH × RO} (hr : dpF sb sL sx rc d M pc ins nx ri lv st h = some r) : dpF sb sL sx rc' d M pc ins nx ri lv st h = some r := by
  cases ins
  case invokevirtual i => exact caF_mono H hr
  case invokespecial i => exact caF_mono H hr
  case invokestatic i => exact caF_mono H hr
  case multianewarray i j => exact muF_mono H hr
  case ireturn => exact hr
  case lreturn => exact hr
  case areturn => exact hr
  case return_ => exact hr
  case new ik =>
    unfold dpF at hr ⊢
    dsimp only at hr ⊢
    split at hr
    · exact hr
    · exact stF_mono H hr
  all_goals
    unfold dpF at hr ⊢
    exact stF_mono H hr
theorem rnF_mono1 : ∀ n : Nat, rcLe (rnF sb sL sx n) (rnF sb sL sx (n + 1))
  | 0 => fun d M pc lv st h r hr => by cases hr
  | n + 1 => fun d M pc lv st h r hr => by
    have ih := rnF_mono1 n
    show (match fet (mE M) pc with | none => none | some q => dpF sb sL sx (rnF sb sL sx (n + 1)) d M pc q.1 q.2.1 q.2.2 lv st h) = some r
    have hr : (match fet (mE M) pc with | none => none | some q => dpF sb sL sx (rnF sb sL sx n) d M pc q.1 q.2.1 q.2.2 lv st h) = some r := hr
    cases e1 : fet (mE M) pc with
    | none => rw [e1] at hr; cases hr
    | some q =>
      rw [e1] at hr
      exact dpF_mono ih hr
theorem rnF_mono {n m : Nat} (hnm : n ≤ m) : rcLe (rnF sb sL sx n) (rnF sb sL sx m) := by
  induction hnm with
  | refl => exact fun _ _ _ _ _ _ _ h => h
  | step _ ih => exact fun _ _ _ _ _ _ _ h => rnF_mono1 _ _ _ _ _ _ _ _ (ih _ _ _ _ _ _ _ h)
end RnMono
/-- the frame comes to an end, and there Q holds -/
def Wp (b L : Nat) (xs : Nat → Int32) (d : Nat) (M : MI) (pc : Nat) (lv : List (Option Value)) (st : List Value) (h : AH) (Q : AH → RO → Prop) : Prop := ∃ n h' o, rnF b L xs n d M pc lv st h = some (h', o) ∧ Q h' o
