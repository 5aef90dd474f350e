/-! a file written, cut; all anew -/
theorem Kids_k {ρ ρ' : RS} {p q : Nat} {cs : Nat → Nat} (hK : Kids ρ p cs q) (h1 : ∀ m, ρ'.2 1 0 m = ρ.2 1 0 m) (h2 : ∀ m, ρ'.2 2 0 m = ρ.2 2 0 m) (h3 : ∀ m, ρ'.2 3 0 m = ρ.2 3 0 m) : Kids ρ' p cs q := by
  obtain ⟨a1, a2, a3, a4⟩ := hK
  refine ⟨fun i hi => by rw [h1, h2]; exact a1 i hi, fun i j hij hj => by rw [h3, h3]; exact a2 i j hij hj, fun m m1 m2 m3 m4 => a3 m m1 m2 (by rw [h1] at m3; exact m3) (by rw [h2] at m4; exact m4), fun i hi => by rw [h3]; exact a4 i hi⟩
theorem rEnt_k {ρ ρ' : RS} (h1 : ∀ m, ρ'.2 1 0 m = ρ.2 1 0 m) (h2 : ∀ m, ρ'.2 2 0 m = ρ.2 2 0 m) (p : Int) : rEnt ρ' p = rEnt ρ p := cnt_congr 255 1 (fun j _ _ => by rw [h1, h2])
theorem Tr_file {b T0 N0 : Nat} {c : CS} {ρ : RS} {na : Nat → Option Nat} {cs ad : Nat → Nat → Nat} {qs : Nat → Nat} {oc : Nat → Option Nat} {dt : Nat → Nat → Int} (hTr : TrOk b T0 N0 c ρ na cs ad qs oc dt) (hA : AU ρ) {n : Nat} {c' : CS} {ρ' : RS} {oc' : Option Nat} {dt' : Nat → Int} (hn : n < 256) (hk : ρ.2 1 0 n = 1) (own : ∀ x y, c.1 x = some y → c'.1 x = some y) (v12 : ∀ m f, ¬ (m = n ∧ (f = 4 ∨ f = 5 ∨ f = 6)) → c'.2.1 12 m f = c.2.1 12 m f) (v2 : ∀ m, c'.2.1 2 0 m = c.2.1 2 0 m) (v10 : c'.2.1 1 0 0 = c.2.1 1 0 0) (v11 : c'.2.1 1 0 1 = c.2.1 1 0 1) (vt : c'.2.1 1 0 2 = vI (ρ'.1 7)) (v13 : ∀ m k, m ≠ n → c'.2.1 13 m k = c.2.1 13 m k) (h1 : ∀ m, ρ'.2 1 0 m = ρ.2 1 0 m) (h2 : ∀ m, ρ'.2 2 0 m = ρ.2 2 0 m) (h3 : ∀ m, ρ'.2 3 0 m = ρ.2 3 0 m) (h4 : ∀ m, m ≠ n → ρ'.2 4 0 m = ρ.2 4 0 m) (h5 : ∀ m, m ≠ n → ρ'.2 5 0 m = ρ.2 5 0 m) (h6 : ∀ m k, m ≠ n → ρ'.2 6 m k = ρ.2 6 m k) (f4 : c'.2.1 12 n 4 = vI (ρ'.2 4 0 n)) (f5 : c'.2.1 12 n 5 = vI (ρ'.2 5 0 n)) (hO' : OctOk c' ρ' oc' dt' n) (hob : ∀ o, oc' = some o → o ≠ b) (z1 : 0 ≤ ρ'.2 4 0 n) (z2 : ρ'.2 4 0 n ≤ 512) (z3 : 0 ≤ ρ'.2 5 0 n) (z4 : ρ'.2 5 0 n ≤ 100000) : TrOk b T0 N0 c' ρ' na cs ad qs (setF oc n oc') (setF dt n dt') ∧ AU ρ' := by
  obtain ⟨hP, hT, h0, hpp, hD, hO⟩ := hTr
  refine ⟨⟨⟨own _ _ hP.1, v10.trans hP.2.1, own _ _ hP.2.2.1, ?_, vt, fun m hm => ?_⟩, fun m hm => ?_, ⟨by rw [h1]; exact h0.1, by rw [h2]; exact h0.2.1, by rw [h3]; exact h0.2.2⟩, fun m hm hm0 hmk => ?_, fun m hm hmk => ?_, fun m hm hmk => ?_⟩, fun m hm hmk => ?_⟩
  · rw [v11, hP.2.2.2.1]
    exact congrArg (fun z : Nat => vI (z : Int)) (cnt_congr 256 0 (fun j _ _ => by rw [h1 j]))
  · rcases hP.2.2.2.2.2 m hm with h | ⟨x, h⟩
    · left
      exact ⟨h.1, (v2 m).trans h.2.1, (h1 m).trans h.2.2⟩
    · right
      obtain ⟨i1, i2, oA, i4, g0, g1, g2, g3, g4, g5⟩ := h
      refine ⟨x, i1, (v2 m).trans i2, own _ _ oA, by rw [h1]; exact i4, by rw [v12 m 0 (by omega)]; exact g0, by rw [v12 m 1 (by omega), h1]; exact g1, by rw [v12 m 2 (by omega), h2]; exact g2, by rw [v12 m 3 (by omega), h3]; exact g3, ?_, ?_⟩
      · by_cases e : m = n
        · subst e
          rw [f4]
          unfold szv
          rw [h1, hk, if_pos rfl]
        · rw [v12 m 4 (by omega), szv_c (h1 m) (h4 m e) (rEnt_k h1 h2 m)]; exact g4
      · by_cases e : m = n
        · subst e
          exact f5
        · rw [v12 m 5 (by omega), h5 m e]; exact g5
  · have t1 := hT m hm
    rw [h1, h2, h3]
    by_cases e : m = n
    · rw [e] at t1 ⊢
      omega
    · rw [h4 m e, h5 m e]
      exact t1
  · rw [h1] at hmk
    rw [h1, h2]
    exact hpp m hm hm0 hmk
  · rw [h1] at hmk
    have dm := hD m hm hmk
    have ch := Chn_c (c' := c') dm.2.2.1 (v12 m 7 (by omega)) (fun i hi x hx => own _ _ hx) (fun i hi => ⟨v12 _ 3 (by omega), v12 _ 8 (by omega)⟩)
    refine ⟨Kids_k dm.1 h1 h2 h3, by rw [rEnt_k h1 h2]; exact dm.2.1, ⟨ch.1, fun i hi => ?_⟩, dm.2.2.2⟩
    obtain ⟨b1, b2, b3, b4, b5⟩ := ch.2 i hi
    refine ⟨b1, ?_, b3, ?_, ?_⟩
    · show _ = vI (ρ'.2 3 0 (cs m i))
      rw [h3]; exact b2
    · show 0 ≤ ρ'.2 3 0 (cs m i)
      rw [h3]; exact b4
    · show ρ'.2 3 0 (cs m i) ≤ 100000
      rw [h3]; exact b5
  · by_cases e : m = n
    · subst e
      rw [setF_eq, setF_eq]
      exact ⟨hO', hob⟩
    · rw [h1] at hmk
      rw [setF_ne e, setF_ne e]
      exact ⟨OctOk_c (hO m hm hmk).1 (v12 m 6 (by omega)) (h4 m e) (fun k => h6 m k e) own (fun k => v13 m k e), (hO m hm hmk).2⟩
  · rw [h1] at hmk
    obtain ⟨s, hs⟩ := hA m hm hmk
    exact ⟨s, by rw [upN_2 h2]; exact hs⟩
section Rwr
variable (ρ : RS) (n at_ : Nat) (v : Int64) (z : Int)
theorem rWr_o {j : Nat} (r i : Nat) (h4 : j ≠ 4) (h5 : j ≠ 5) (h6 : j ≠ 6) : (rWrite ρ n at_ v).2 j r i = ρ.2 j r i := by simp [rWrite, upA_g, upF_2, wr8, h4, h5, h6]
theorem rWr_4 (m : Nat) : (rWrite ρ n at_ v).2 4 0 m = if m = n then max (ρ.2 4 0 n) (at_ + 8) else ρ.2 4 0 m := by simp [rWrite, upA_g, upF_2, wr8]
theorem rWr_5 (m : Nat) : (rWrite ρ n at_ v).2 5 0 m = if m = n then ρ.1 7 + 1 else ρ.2 5 0 m := by simp [rWrite, upA_g, upF_2, wr8]
theorem rWr_6 (m k : Nat) : (rWrite ρ n at_ v).2 6 m k = if m = n ∧ at_ ≤ k ∧ k < at_ + 8 then lo8 v (k - at_) else ρ.2 6 m k := by simp [rWrite, upA_g, upF_2, wr8]
theorem rWr_F (i : Nat) : (rWrite ρ n at_ v).1 i = if i = 7 then ρ.1 7 + 1 else if i = 0 then 0 else ρ.1 i := by simp [rWrite, upA, upF_g, wr8]
theorem rCu_o {j : Nat} (r i : Nat) (h4 : j ≠ 4) (h5 : j ≠ 5) : (rCut ρ n z).2 j r i = ρ.2 j r i := by simp [rCut, upA_g, upF_2, h4, h5]
theorem rCu_4 (m : Nat) : (rCut ρ n z).2 4 0 m = if m = n then z else ρ.2 4 0 m := by simp [rCut, upA_g, upF_2]
theorem rCu_5 (m : Nat) : (rCut ρ n z).2 5 0 m = if m = n then ρ.1 7 + 1 else ρ.2 5 0 m := by simp [rCut, upA_g, upF_2]
theorem rCu_F (i : Nat) : (rCut ρ n z).1 i = if i = 7 then ρ.1 7 + 1 else if i = 0 then 0 else ρ.1 i := by simp [rCut, upA, upF_g]
end Rwr
def dtW (d : Nat → Int) (at_ : Nat) (v : Int64) : Nat → Int := fun k => if at_ ≤ k ∧ k < at_ + 8 then (by8 v (k - at_) : Int) else d k
theorem dtW_ok {d : Nat → Int} (hd : ∀ k, 0 ≤ d k ∧ d k ≤ 255) (at_ : Nat) (v : Int64) (k : Nat) : 0 ≤ dtW d at_ v k ∧ dtW d at_ v k ≤ 255 := by
  unfold dtW
  have := by8_lt v (k - at_)
  split
  · omega
  · exact hd k
theorem dtW_r {ρ : RS} {n at_ : Nat} {v : Int64} {d : Nat → Int} (hd : ∀ k : Nat, (k : Int) < ρ.2 4 0 n → d k = ρ.2 6 n k % 256) (ha : (at_ : Int) ≤ ρ.2 4 0 n) (k : Nat) (hk : (k : Int) < (rWrite ρ n at_ v).2 4 0 n) : dtW d at_ v k = (rWrite ρ n at_ v).2 6 n k % 256 := by
  rw [rWr_4, if_pos rfl] at hk
  rw [rWr_6]
  unfold dtW
  by_cases e : at_ ≤ k ∧ k < at_ + 8
  · rw [if_pos e, if_pos ⟨rfl, e⟩, by8_lo v (by omega)]
    unfold lo8
    omega
  · rw [if_neg e, if_neg (fun z => e z.2)]
    exact hd k (by omega)
theorem Tr_cut {b T0 N0 : Nat} {c : CS} {ρ : RS} {na : Nat → Option Nat} {cs ad : Nat → Nat → Nat} {qs : Nat → Nat} {oc : Nat → Option Nat} {dt : Nat → Nat → Int} (hTr : TrOk b T0 N0 c ρ na cs ad qs oc dt) (hA : AU ρ) (hF : TF c ρ oc) {n : Nat} {z : Int} (hn : n < 256) (hk : ρ.2 1 0 n = 1) (z1 : 0 ≤ z) (z2 : z ≤ ρ.2 4 0 n) (t0 : 0 ≤ ρ.1 7) (t2 : ρ.1 7 + 1 ≤ 100000) : TrOk b T0 N0 (upC (upC (upC c 1 0 2 (vI (ρ.1 7 + 1))) 12 n 4 (vI z)) 12 n 5 (vI (ρ.1 7 + 1))) (rCut ρ n z) na cs ad qs (setF oc n (oc n)) (setF dt n (dt n)) ∧ AU (rCut ρ n z) ∧ TF (upC (upC (upC c 1 0 2 (vI (ρ.1 7 + 1))) 12 n 4 (vI z)) 12 n 5 (vI (ρ.1 7 + 1))) (rCut ρ n z) (setF oc n (oc n)) := by
  have tn := hTr.2.1 n hn
  obtain ⟨⟨g1, g2, g3, g4⟩, g5⟩ := hTr.2.2.2.2.2 n hn hk
  have es : setF oc n (oc n) = oc := by funext j; unfold setF; split <;> simp [*]
  have h1 : ∀ m, (rCut ρ n z).2 1 0 m = ρ.2 1 0 m := fun m => rCu_o ρ n z 0 m (by decide) (by decide)
  refine ⟨?_, ?_, ?_⟩
  rotate_left 2
  · rw [es]
    exact ⟨fun m hm hmk x => hF.1 m hm (by rw [h1] at hmk; exact hmk) x, fun m hm hmk x => hF.2 m hm (by rw [h1] at hmk; exact hmk) x⟩
  all_goals
    have tr := Tr_file (c' := upC (upC (upC c 1 0 2 (vI (ρ.1 7 + 1))) 12 n 4 (vI z)) 12 n 5 (vI (ρ.1 7 + 1))) (ρ' := rCut ρ n z) (oc' := oc n) (dt' := dt n) hTr hA hn hk (fun _ _ hx => hx) (fun m f h => by rw [upC_ne (by omega), upC_ne (by omega), upC_ne (by omega)]) (fun m => by rw [upC_ne (by omega), upC_ne (by omega), upC_ne (by omega)]) (by rw [upC_ne (by omega), upC_ne (by omega), upC_ne (by omega)]) (by rw [upC_ne (by omega), upC_ne (by omega), upC_ne (by omega)]) (by rw [upC_ne (by omega), upC_ne (by omega), upC_eq, rCu_F, if_pos rfl]) (fun m k h => by rw [upC_ne (by omega), upC_ne (by omega), upC_ne (by omega)]) h1 (fun m => rCu_o ρ n z 0 m (by decide) (by decide)) (fun m => rCu_o ρ n z 0 m (by decide) (by decide)) (fun m h => by rw [rCu_4, if_neg h]) (fun m h => by rw [rCu_5, if_neg h]) (fun m k h => rCu_o ρ n z m k (by decide) (by decide)) (by rw [upC_ne (by omega), upC_eq, rCu_4, if_pos rfl]) (by rw [upC_eq, rCu_5, if_pos rfl]) ⟨by rw [upC_ne (by omega), upC_ne (by omega), upC_ne (by omega)]; exact g1, g2, fun k hk => by
      rw [rCu_4, if_pos rfl] at hk
      rw [rCu_o ρ n z n k (by decide) (by decide)]
      exact g3 k (by omega), by
      cases ho : oc n with
      | none =>
        rw [ho] at g4
        have g4 : ρ.2 4 0 n = 0 := g4
        show (rCut ρ n z).2 4 0 n = 0
        rw [rCu_4, if_pos rfl]
        omega
      | some o =>
        rw [ho] at g4
        exact ⟨g4.1, fun k => by rw [upC_ne (by omega), upC_ne (by omega), upC_ne (by omega)]; exact g4.2 k⟩⟩ g5 (by rw [rCu_4, if_pos rfl]; omega) (by rw [rCu_4, if_pos rfl]; omega) (by rw [rCu_5, if_pos rfl]; omega) (by rw [rCu_5, if_pos rfl]; omega)
  · exact tr.1
  · exact tr.2
theorem Tr_wr1 {b T0 N0 : Nat} {c : CS} {ρ : RS} {na : Nat → Option Nat} {cs ad : Nat → Nat → Nat} {qs : Nat → Nat} {oc : Nat → Option Nat} {dt : Nat → Nat → Int} (hTr : TrOk b T0 N0 c ρ na cs ad qs oc dt) (hA : AU ρ) (hF : TF c ρ oc) {n at_ : Nat} {v : Int64} {o : Nat} (ho : oc n = some o) (hn : n < 256) (hk : ρ.2 1 0 n = 1) (c1 : (at_ : Int) ≤ ρ.2 4 0 n) (c2 : at_ ≤ 504) (t0 : 0 ≤ ρ.1 7) (t2 : ρ.1 7 + 1 ≤ 100000) : TrOk b T0 N0 (upC (stC (upC c 1 0 2 (vI (ρ.1 7 + 1))) n at_ v (ρ.2 4 0 n)) 12 n 5 (vI (ρ.1 7 + 1))) (rWrite ρ n at_ v) na cs ad qs (setF oc n (oc n)) (setF dt n (dtW (dt n) at_ v)) ∧ AU (rWrite ρ n at_ v) ∧ TF (upC (stC (upC c 1 0 2 (vI (ρ.1 7 + 1))) n at_ v (ρ.2 4 0 n)) 12 n 5 (vI (ρ.1 7 + 1))) (rWrite ρ n at_ v) (setF oc n (oc n)) := by
  have tn := hTr.2.1 n hn
  obtain ⟨⟨g1, g2, g3, g4⟩, g5⟩ := hTr.2.2.2.2.2 n hn hk
  have h1 : ∀ m, (rWrite ρ n at_ v).2 1 0 m = ρ.2 1 0 m := fun m => rWr_o ρ n at_ v 0 m (by decide) (by decide) (by decide)
  rw [ho] at g4
  have e12 : ∀ m f, ¬ (m = n ∧ f = 6) → (upC c 1 0 2 (vI (ρ.1 7 + 1))).2.1 12 m f = c.2.1 12 m f := fun m f h => by
    rw [upC_ne (by omega)]
  have e1 : ∀ f, (upC c 1 0 2 (vI (ρ.1 7 + 1))).2.1 1 0 f = (upC c 1 0 2 (vI (ρ.1 7 + 1))).2.1 1 0 f := fun f => by
    rfl
  have ek : ∀ k i f, k ≠ 12 → k ≠ 1 → ¬ (k = 13 ∧ i = n) → (upC c 1 0 2 (vI (ρ.1 7 + 1))).2.1 k i f = c.2.1 k i f := fun k i f h1 h2 h3 => by
    rw [upC_ne (by omega)]
  have own : ∀ x y, c.1 x = some y → (upC (stC (upC c 1 0 2 (vI (ρ.1 7 + 1))) n at_ v (ρ.2 4 0 n)) 12 n 5 (vI (ρ.1 7 + 1))).1 x = some y := fun x y hx => by
    show (stC (upC c 1 0 2 (vI (ρ.1 7 + 1))) n at_ v (ρ.2 4 0 n)).1 x = _
    rw [show (stC (upC c 1 0 2 (vI (ρ.1 7 + 1))) n at_ v (ρ.2 4 0 n)).1 = (upC c 1 0 2 (vI (ρ.1 7 + 1))).1 from soC_1 n at_ v 8 0 _]
    exact hx
  have s12 : ∀ m f, ¬ (m = n ∧ (f = 4 ∨ f = 5)) → (upC (stC (upC c 1 0 2 (vI (ρ.1 7 + 1))) n at_ v (ρ.2 4 0 n)) 12 n 5 (vI (ρ.1 7 + 1))).2.1 12 m f = (upC c 1 0 2 (vI (ρ.1 7 + 1))).2.1 12 m f := fun m f h => by
    unfold stC
    rw [upC_ne (by omega), upC_ne (by omega), soC_k (by omega)]
  have sk : ∀ k i f, k ≠ 12 → ¬ (k = 13 ∧ i = n) → (upC (stC (upC c 1 0 2 (vI (ρ.1 7 + 1))) n at_ v (ρ.2 4 0 n)) 12 n 5 (vI (ρ.1 7 + 1))).2.1 k i f = (upC c 1 0 2 (vI (ρ.1 7 + 1))).2.1 k i f := fun k i f h h2 => by
    unfold stC
    rw [upC_ne (by omega), upC_ne (by omega), soC_k h2]
  have s13 : ∀ k, (upC (stC (upC c 1 0 2 (vI (ρ.1 7 + 1))) n at_ v (ρ.2 4 0 n)) 12 n 5 (vI (ρ.1 7 + 1))).2.1 13 n k = if at_ ≤ k ∧ k < at_ + 8 then vI (sb (by8 v (k - at_))) else (upC c 1 0 2 (vI (ρ.1 7 + 1))).2.1 13 n k := fun k => by
    unfold stC
    rw [upC_ne (by omega), upC_ne (by omega), soC_g, Nat.add_zero]
  have tr := Tr_file (c' := (upC (stC (upC c 1 0 2 (vI (ρ.1 7 + 1))) n at_ v (ρ.2 4 0 n)) 12 n 5 (vI (ρ.1 7 + 1)))) (ρ' := rWrite ρ n at_ v) (oc' := (oc n)) (dt' := dtW (dt n) at_ v) hTr hA hn hk own (fun m f h => by rw [s12 m f (by omega), e12 m f (by omega)]) (fun m => by rw [sk _ _ _ (by decide) (by omega), ek _ _ _ (by decide) (by decide) (by omega)]) (by rw [sk _ _ _ (by decide) (by omega), e1, upC_ne (by omega)]) (by rw [sk _ _ _ (by decide) (by omega), e1, upC_ne (by omega)]) (by rw [sk _ _ _ (by decide) (by omega), e1, upC_eq, rWr_F, if_pos rfl]) (fun m k h => by rw [sk _ _ _ (by decide) (by omega), ek _ _ _ (by decide) (by decide) (by omega)]) h1 (fun m => rWr_o ρ n at_ v 0 m (by decide) (by decide) (by decide)) (fun m => rWr_o ρ n at_ v 0 m (by decide) (by decide) (by decide)) (fun m h => by rw [rWr_4, if_neg h]) (fun m h => by rw [rWr_5, if_neg h]) (fun m k h => by rw [rWr_6, if_neg (fun z => h z.1)]) (by unfold stC; rw [upC_ne (by omega), upC_eq, rWr_4, if_pos rfl]) (by rw [upC_eq, rWr_5, if_pos rfl]) ?_ ?_ (by rw [rWr_4, if_pos rfl]; omega) (by rw [rWr_4, if_pos rfl]; omega) (by rw [rWr_5, if_pos rfl]; omega) (by rw [rWr_5, if_pos rfl]; omega)
  · refine ⟨tr.1, tr.2, ?_⟩
    have es : setF oc n (oc n) = oc := by funext j; unfold setF; split <;> simp [*]
    have o0 : (upC (stC (upC c 1 0 2 (vI (ρ.1 7 + 1))) n at_ v (ρ.2 4 0 n)) 12 n 5 (vI (ρ.1 7 + 1))).1 = c.1 := soC_1 n at_ v 8 0 _
    rw [es]
    exact ⟨fun m hm hmk x => by rw [o0]; exact hF.1 m hm (by rw [h1] at hmk; exact hmk) x, fun m hm hmk x => by rw [o0]; exact hF.2 m hm (by rw [h1] at hmk; exact hmk) x⟩
  · refine ⟨by rw [s12 n 6 (by omega), upC_ne (by omega)]; exact g1, dtW_ok g2 at_ v, fun k hk => dtW_r g3 c1 k hk, ?_⟩
    rw [ho]
    refine ⟨own _ _ g4.1, fun k => ?_⟩
    rw [s13]
    unfold dtW
    by_cases e : at_ ≤ k ∧ k < at_ + 8
    · rw [if_pos e, if_pos e]
    · rw [if_neg e, if_neg e, upC_ne (by omega)]
      exact g4.2 k
  · exact g5
theorem Tr_wr0 {b T0 N0 : Nat} {c : CS} {ρ : RS} {na : Nat → Option Nat} {cs ad : Nat → Nat → Nat} {qs : Nat → Nat} {oc : Nat → Option Nat} {dt : Nat → Nat → Int} (hTr : TrOk b T0 N0 c ρ na cs ad qs oc dt) (hA : AU ρ) (hF : TF c ρ oc) {n at_ : Nat} {v : Int64} {a : Nat} (ho : oc n = none) (fr : c.1 a = none) (hab : a ≠ b) (hn : n < 256) (hk : ρ.2 1 0 n = 1) (c1 : (at_ : Int) ≤ ρ.2 4 0 n) (c2 : at_ ≤ 504) (t0 : 0 ≤ ρ.1 7) (t2 : ρ.1 7 + 1 ≤ 100000) : TrOk b T0 N0 (upC (stC (nwO (upC c 1 0 2 (vI (ρ.1 7 + 1))) a n) n at_ v (ρ.2 4 0 n)) 12 n 5 (vI (ρ.1 7 + 1))) (rWrite ρ n at_ v) na cs ad qs (setF oc n (some a)) (setF dt n (dtW (fun _ => 0) at_ v)) ∧ AU (rWrite ρ n at_ v) ∧ TF (upC (stC (nwO (upC c 1 0 2 (vI (ρ.1 7 + 1))) a n) n at_ v (ρ.2 4 0 n)) 12 n 5 (vI (ρ.1 7 + 1))) (rWrite ρ n at_ v) (setF oc n (some a)) := by
  have tn := hTr.2.1 n hn
  obtain ⟨⟨g1, g2, g3, g4⟩, g5⟩ := hTr.2.2.2.2.2 n hn hk
  have h1 : ∀ m, (rWrite ρ n at_ v).2 1 0 m = ρ.2 1 0 m := fun m => rWr_o ρ n at_ v 0 m (by decide) (by decide) (by decide)
  rw [ho] at g4
  have e12 : ∀ m f, ¬ (m = n ∧ f = 6) → (nwO (upC c 1 0 2 (vI (ρ.1 7 + 1))) a n).2.1 12 m f = c.2.1 12 m f := fun m f h => by
    unfold nwO; rw [upC_ne (by omega), nw_v (by omega), upC_ne (by omega)]
  have e1 : ∀ f, (nwO (upC c 1 0 2 (vI (ρ.1 7 + 1))) a n).2.1 1 0 f = (upC c 1 0 2 (vI (ρ.1 7 + 1))).2.1 1 0 f := fun f => by
    unfold nwO; rw [upC_ne (by omega), nw_v (by omega)]
  have ek : ∀ k i f, k ≠ 12 → k ≠ 1 → ¬ (k = 13 ∧ i = n) → (nwO (upC c 1 0 2 (vI (ρ.1 7 + 1))) a n).2.1 k i f = c.2.1 k i f := fun k i f h1 h2 h3 => by
    unfold nwO; rw [upC_ne (by omega), nw_v (by omega), upC_ne (by omega)]
  have own : ∀ x y, c.1 x = some y → (upC (stC (nwO (upC c 1 0 2 (vI (ρ.1 7 + 1))) a n) n at_ v (ρ.2 4 0 n)) 12 n 5 (vI (ρ.1 7 + 1))).1 x = some y := fun x y hx => by
    show (stC (nwO (upC c 1 0 2 (vI (ρ.1 7 + 1))) a n) n at_ v (ρ.2 4 0 n)).1 x = _
    rw [show (stC (nwO (upC c 1 0 2 (vI (ρ.1 7 + 1))) a n) n at_ v (ρ.2 4 0 n)).1 = (nwO (upC c 1 0 2 (vI (ρ.1 7 + 1))) a n).1 from soC_1 n at_ v 8 0 _]
    exact nw_o (c := upC c 1 0 2 (vI (ρ.1 7 + 1))) (k := 13) (i := n) (v := fun _ => vI 0) (len := c.2.2) fr hx
  have s12 : ∀ m f, ¬ (m = n ∧ (f = 4 ∨ f = 5)) → (upC (stC (nwO (upC c 1 0 2 (vI (ρ.1 7 + 1))) a n) n at_ v (ρ.2 4 0 n)) 12 n 5 (vI (ρ.1 7 + 1))).2.1 12 m f = (nwO (upC c 1 0 2 (vI (ρ.1 7 + 1))) a n).2.1 12 m f := fun m f h => by
    unfold stC
    rw [upC_ne (by omega), upC_ne (by omega), soC_k (by omega)]
  have sk : ∀ k i f, k ≠ 12 → ¬ (k = 13 ∧ i = n) → (upC (stC (nwO (upC c 1 0 2 (vI (ρ.1 7 + 1))) a n) n at_ v (ρ.2 4 0 n)) 12 n 5 (vI (ρ.1 7 + 1))).2.1 k i f = (nwO (upC c 1 0 2 (vI (ρ.1 7 + 1))) a n).2.1 k i f := fun k i f h h2 => by
    unfold stC
    rw [upC_ne (by omega), upC_ne (by omega), soC_k h2]
  have s13 : ∀ k, (upC (stC (nwO (upC c 1 0 2 (vI (ρ.1 7 + 1))) a n) n at_ v (ρ.2 4 0 n)) 12 n 5 (vI (ρ.1 7 + 1))).2.1 13 n k = if at_ ≤ k ∧ k < at_ + 8 then vI (sb (by8 v (k - at_))) else (nwO (upC c 1 0 2 (vI (ρ.1 7 + 1))) a n).2.1 13 n k := fun k => by
    unfold stC
    rw [upC_ne (by omega), upC_ne (by omega), soC_g, Nat.add_zero]
  have tr := Tr_file (c' := (upC (stC (nwO (upC c 1 0 2 (vI (ρ.1 7 + 1))) a n) n at_ v (ρ.2 4 0 n)) 12 n 5 (vI (ρ.1 7 + 1)))) (ρ' := rWrite ρ n at_ v) (oc' := (some a)) (dt' := dtW (fun _ => 0) at_ v) hTr hA hn hk own (fun m f h => by rw [s12 m f (by omega), e12 m f (by omega)]) (fun m => by rw [sk _ _ _ (by decide) (by omega), ek _ _ _ (by decide) (by decide) (by omega)]) (by rw [sk _ _ _ (by decide) (by omega), e1, upC_ne (by omega)]) (by rw [sk _ _ _ (by decide) (by omega), e1, upC_ne (by omega)]) (by rw [sk _ _ _ (by decide) (by omega), e1, upC_eq, rWr_F, if_pos rfl]) (fun m k h => by rw [sk _ _ _ (by decide) (by omega), ek _ _ _ (by decide) (by decide) (by omega)]) h1 (fun m => rWr_o ρ n at_ v 0 m (by decide) (by decide) (by decide)) (fun m => rWr_o ρ n at_ v 0 m (by decide) (by decide) (by decide)) (fun m h => by rw [rWr_4, if_neg h]) (fun m h => by rw [rWr_5, if_neg h]) (fun m k h => by rw [rWr_6, if_neg (fun z => h z.1)]) (by unfold stC; rw [upC_ne (by omega), upC_eq, rWr_4, if_pos rfl]) (by rw [upC_eq, rWr_5, if_pos rfl]) ?_ ?_ (by rw [rWr_4, if_pos rfl]; omega) (by rw [rWr_4, if_pos rfl]; omega) (by rw [rWr_5, if_pos rfl]; omega) (by rw [rWr_5, if_pos rfl]; omega)
  · refine ⟨tr.1, tr.2, ?_⟩
    have o0 : (upC (stC (nwO (upC c 1 0 2 (vI (ρ.1 7 + 1))) a n) n at_ v (ρ.2 4 0 n)) 12 n 5 (vI (ρ.1 7 + 1))).1 = (nwO (upC c 1 0 2 (vI (ρ.1 7 + 1))) a n).1 := soC_1 n at_ v 8 0 _
    have o1 : ∀ x, (nwO (upC c 1 0 2 (vI (ρ.1 7 + 1))) a n).1 x = if x = a then some (13, n) else c.1 x := fun x => rfl
    refine ⟨fun m hm hmk x => ?_, fun m hm hmk x => ?_⟩
    · rw [o0, o1]
      by_cases e : x = a
      · rw [if_pos e]
        intro z
        cases z
      · rw [if_neg e]
        exact hF.1 m hm (by rw [h1] at hmk; exact hmk) x
    · rw [o0, o1]
      by_cases e : x = a
      · rw [if_pos e]
        intro z
        cases z
        rw [h1, hk, setF_eq] at hmk
        rcases hmk with y | y
        · exact y rfl
        · cases y
      · rw [if_neg e]
        by_cases em : m = n
        · subst em
          exact hF.2 m hm (Or.inr ho) x
        · rw [h1, setF_ne em] at hmk
          exact hF.2 m hm hmk x
  · refine ⟨by rw [s12 n 6 (by omega)]; exact upC_eq _ _ _ _ _, dtW_ok (fun _ => ⟨Int.le_refl _, by decide⟩) at_ v, fun k hk => ?_, ?_⟩
    · refine dtW_r (fun k hk => ?_) c1 k hk
      have g4 : ρ.2 4 0 n = 0 := g4
      omega
    · refine ⟨?_, fun k => ?_⟩
      · show (stC (nwO (upC c 1 0 2 (vI (ρ.1 7 + 1))) a n) n at_ v (ρ.2 4 0 n)).1 a = _
        rw [show (stC (nwO (upC c 1 0 2 (vI (ρ.1 7 + 1))) a n) n at_ v (ρ.2 4 0 n)).1 = (nwO (upC c 1 0 2 (vI (ρ.1 7 + 1))) a n).1 from soC_1 n at_ v 8 0 _]
        exact nw_a (upC c 1 0 2 (vI (ρ.1 7 + 1))) a 13 n (fun _ => vI 0) c.2.2
      · rw [s13]
        unfold dtW
        by_cases e : at_ ≤ k ∧ k < at_ + 8
        · rw [if_pos e, if_pos e]
        · rw [if_neg e, if_neg e]
          unfold nwO
          rw [upC_ne (by omega), nw_s]
          rfl
  · intro o z
    cases z
    exact hab
