/-! the tree after each call: made -/
def TF (c : CS) (ρ : RS) (oc : Nat → Option Nat) : Prop := (∀ n, n < 256 → ρ.2 1 0 n = 0 → ∀ a, c.1 a ≠ some (12, n)) ∧ (∀ n, n < 256 → (ρ.2 1 0 n ≠ 1 ∨ oc n = none) → ∀ a, c.1 a ≠ some (13, n))
def AU (ρ : RS) : Prop := ∀ n, n < 256 → ρ.2 1 0 n ≠ 0 → ∃ t, upN ρ t (n : Int) = 0
def PrOk (ρ : RS) : Prop := ρ.2 1 0 0 = 2 ∧ ρ.2 2 0 0 = 0 ∧ ∀ n, n < 256 → n ≠ 0 → ρ.2 1 0 n ≠ 0 → ρ.2 1 0 (ρ.2 2 0 n).toNat = 2
theorem upN_in {ρ : RS} (hT : TreeOk ρ) (hP : PrOk ρ) : ∀ (s : Nat) (x : Int), 0 ≤ x → x < 256 → ρ.2 1 0 x.toNat ≠ 0 → 0 ≤ upN ρ s x ∧ upN ρ s x < 256 ∧ ρ.2 1 0 (upN ρ s x).toNat ≠ 0
  | 0, x, h1, h2, h3 => ⟨h1, h2, h3⟩
  | s + 1, x, h1, h2, h3 => by
    have t1 := hT x.toNat (by omega)
    refine upN_in hT hP s (ρ.2 2 0 x.toNat) t1.2.1 t1.2.2.1 ?_
    by_cases e : x.toNat = 0
    · rw [e, hP.2.1, show (0 : Int).toNat = 0 from rfl, hP.1]
      decide
    · rw [hP.2.2 x.toNat (by omega) e h3]
      decide
theorem upN_dif {ρ ρ' : RS} {n : Nat} (hd : ∀ m, m ≠ n → ρ'.2 2 0 m = ρ.2 2 0 m) : ∀ (s : Nat) (x : Int), (∀ j, j < s → (upN ρ j x).toNat ≠ n) → upN ρ' s x = upN ρ s x
  | 0, _, _ => rfl
  | s + 1, x, h => by
    show upN ρ' s (ρ'.2 2 0 x.toNat) = upN ρ s (ρ.2 2 0 x.toNat)
    rw [show ρ'.2 2 0 x.toNat = ρ.2 2 0 x.toNat from hd _ (h 0 (by omega))]
    exact upN_dif hd s _ (fun j hj => h (j + 1) (by omega))
theorem cnt_0 {p : Nat → Prop} [DecidablePred p] : ∀ m k : Nat, (∀ j, k ≤ j → j < k + m → ¬ p j) → cnt p k m = 0
  | 0, _, _ => rfl
  | m + 1, k, h => by
    rw [cnt_pos_s, if_neg (h k (Nat.le_refl _) (by omega)), cnt_0 m (k + 1) (fun j h1 h2 => h j (by omega) (by omega))]
def setF {α : Type} (f : Nat → α) (k : Nat) (x : α) : Nat → α := fun j => if j = k then x else f j
theorem setF_eq {α : Type} (f : Nat → α) (k : Nat) (x : α) : setF f k x k = x := if_pos rfl
theorem setF_ne {α : Type} {f : Nat → α} {k j : Nat} {x : α} (h : j ≠ k) : setF f k x j = f j := if_neg h
section Adc
variable {c : CS} {n p a hp t : Nat} {k w T C s : Int} {cs : Nat → Nat} {nx : Value}
theorem adC_o {m f : Nat} (hm : m ≠ n) (h7 : f ≠ 7) (h8 : f ≠ 8) (hp5 : ¬ (m = p ∧ (f = 4 ∨ f = 5))) : (adC c n p a hp k w T C t cs nx s).2.1 12 m f = c.2.1 12 m f := by
  unfold adC enC adB
  rw [upC_ne (by omega), upC_ne (by omega), upC_ne (by omega), upC_ne (by omega), upC_ne (by omega), lnk_ne (Or.inr ⟨h7, h8⟩), upC_ne (by omega), upC_ne (by omega), upC_ne (by omega), upC_ne (by omega), upC_ne (by omega), nw_v (by omega), upC_ne (by omega)]
theorem adC_p4 (hne : n ≠ p) : (adC c n p a hp k w T C t cs nx s).2.1 12 p 4 = vI (s + 1) := by
  unfold adC enC
  rw [upC_ne (by omega), upC_ne (by omega), upC_ne (by omega), upC_ne (by omega), upC_eq]
theorem adC_p5 : (adC c n p a hp k w T C t cs nx s).2.1 12 p 5 = vI (T + 1) := by
  unfold adC
  rw [upC_ne (by omega), upC_ne (by omega), upC_eq]
theorem adC_n (hne : n ≠ p) : (adC c n p a hp k w T C t cs nx s).2.1 12 n 0 = vI n ∧ (adC c n p a hp k w T C t cs nx s).2.1 12 n 1 = vI k ∧ (adC c n p a hp k w T C t cs nx s).2.1 12 n 2 = .ref hp ∧ (adC c n p a hp k w T C t cs nx s).2.1 12 n 3 = vI w ∧ (adC c n p a hp k w T C t cs nx s).2.1 12 n 4 = vI 0 ∧ (adC c n p a hp k w T C t cs nx s).2.1 12 n 5 = vI (T + 1) ∧ (adC c n p a hp k w T C t cs nx s).2.1 12 n 6 = .null ∧ (adC c n p a hp k w T C t cs nx s).2.1 12 n 7 = .null := by
  unfold adC enC adB
  refine ⟨?_, ?_, ?_, ?_, ?_, ?_, ?_, ?_⟩
  · rw [upC_ne (by omega), upC_ne (by omega), upC_ne (by omega), upC_ne (by omega), upC_ne (by omega), lnk_ne (by omega), upC_ne (by omega), upC_ne (by omega), upC_ne (by omega), upC_ne (by omega), upC_eq]
  · rw [upC_ne (by omega), upC_ne (by omega), upC_ne (by omega), upC_ne (by omega), upC_ne (by omega), lnk_ne (by omega), upC_ne (by omega), upC_ne (by omega), upC_ne (by omega), upC_eq]
  · rw [upC_ne (by omega), upC_ne (by omega), upC_ne (by omega), upC_ne (by omega), upC_ne (by omega), lnk_ne (by omega), upC_ne (by omega), upC_ne (by omega), upC_eq]
  · rw [upC_ne (by omega), upC_ne (by omega), upC_ne (by omega), upC_ne (by omega), upC_ne (by omega), lnk_ne (by omega), upC_ne (by omega), upC_eq]
  · rw [upC_ne (by omega), upC_ne (by omega), upC_ne (by omega), upC_ne (by omega), upC_ne (by omega), lnk_ne (by omega), upC_ne (by omega), upC_ne (by omega), upC_ne (by omega), upC_ne (by omega), upC_ne (by omega), nw_s]
    rfl
  · rw [upC_ne (by omega), upC_ne (by omega), upC_ne (by omega), upC_eq]
  · rw [upC_ne (by omega), upC_ne (by omega), upC_ne (by omega), upC_ne (by omega), upC_ne (by omega), lnk_ne (by omega), upC_ne (by omega), upC_ne (by omega), upC_ne (by omega), upC_ne (by omega), upC_ne (by omega), nw_s]
    rfl
  · rw [upC_ne (by omega), upC_ne (by omega), upC_ne (by omega), upC_ne (by omega), upC_ne (by omega), lnk_7, if_neg (fun z => hne z.1), upC_ne (by omega), upC_ne (by omega), upC_ne (by omega), upC_ne (by omega), upC_ne (by omega), nw_s]
    rfl
theorem adC_k {k' i f : Nat} (h12 : k' ≠ 12) (h1 : ¬ (k' = 1 ∧ (f = 1 ∨ f = 2))) (h2 : ¬ (k' = 2 ∧ i = 0 ∧ f = n)) : (adC c n p a hp k w T C t cs nx s).2.1 k' i f = c.2.1 k' i f := by
  unfold adC
  rw [upC_ne (by omega), upC_ne (by omega), upC_ne (by omega), upC_ne (by omega), enC_k h12]
  unfold adB
  rw [upC_ne (by omega), upC_ne (by omega), nw_v (by omega), upC_ne (by omega)]
theorem adC_11 : (adC c n p a hp k w T C t cs nx s).2.1 1 0 1 = vI (C + 1) := upC_eq _ _ _ _ _
theorem adC_12 : (adC c n p a hp k w T C t cs nx s).2.1 1 0 2 = vI (T + 1) := by
  unfold adC
  rw [upC_ne (by omega), upC_ne (by omega), upC_ne (by omega), upC_ne (by omega), enC_k (by decide)]
  unfold adB
  rw [upC_ne (by omega), upC_ne (by omega), nw_v (by omega), upC_eq]
theorem adC_2n : (adC c n p a hp k w T C t cs nx s).2.1 2 0 n = .ref a := by
  unfold adC
  rw [upC_ne (by omega), upC_eq]
theorem adB_f {m f : Nat} (hm : m ≠ n) : (adB c a n k T).2.1 12 m f = c.2.1 12 m f := by
  unfold adB
  rw [upC_ne (by omega), upC_ne (by omega), nw_v (by omega), upC_ne (by omega)]
theorem adC_3 (m : Nat) : (adC c n p a hp k w T C t cs nx s).2.1 12 m 3 = if m = n then vI w else c.2.1 12 m 3 := by
  unfold adC
  rw [upC_ne (by omega), upC_ne (by omega), upC_ne (by omega), upC_ne (by omega), enC_3]
  by_cases e : m = n
  · rw [if_pos e, if_pos e]
  · rw [if_neg e, if_neg e, adB_f e]
theorem adC_8 (m : Nat) : (adC c n p a hp k w T C t cs nx s).2.1 12 m 8 = if t ≠ 0 ∧ m = cs (t - 1) then .ref a else if m = n then nx else c.2.1 12 m 8 := by
  unfold adC
  rw [upC_ne (by omega), upC_ne (by omega), upC_ne (by omega), upC_ne (by omega), enC_8]
  by_cases e2 : t ≠ 0 ∧ m = cs (t - 1)
  · rw [if_pos e2, if_pos e2]
  · rw [if_neg e2, if_neg e2]
    by_cases e : m = n
    · rw [if_pos e, if_pos e]
    · rw [if_neg e, if_neg e, adB_f e]
theorem adC_7 {m : Nat} (hm : m ≠ n) : (adC c n p a hp k w T C t cs nx s).2.1 12 m 7 = if m = p ∧ t = 0 then .ref a else c.2.1 12 m 7 := by
  unfold adC
  rw [upC_ne (by omega), upC_ne (by omega), upC_ne (by omega), upC_ne (by omega), enC_7, adB_f hm]
theorem adC_own {x : Nat} : (adC c n p a hp k w T C t cs nx s).1 x = if x = a then some (12, n) else c.1 x := by
  show (enC (adB c a n k T) n p a hp w t cs nx s).1 x = _
  rw [enC_1]
  rfl
end Adc
theorem Kids_inj {ρ : RS} {p q : Nat} {cs : Nat → Nat} (hK : Kids ρ p cs q) : ∀ i j, i < q → j < q → cs i = cs j → i = j := fun i j hi hj h => by
  rcases Nat.lt_trichotomy i j with z | z | z
  · have := hK.2.1 i j z hj
    rw [h] at this
    omega
  · exact z
  · have := hK.2.1 j i z hi
    rw [h] at this
    omega
theorem self_no {ρ : RS} (hT : TreeOk ρ) (hA : AU ρ) {p : Nat} (h1 : 1 ≤ p) (h2 : p < 256) (h3 : ρ.2 1 0 p ≠ 0) : ρ.2 2 0 p ≠ p := fun z => by
  obtain ⟨t, ht⟩ := hA p h2 h3
  have : ∀ s, upN ρ s (p : Int) = p := fun s => by
    induction s with
    | zero => rfl
    | succ s ih =>
      show upN ρ s (ρ.2 2 0 (p : Int).toNat) = p
      rw [Int.toNat_natCast, z]
      exact ih
  rw [this t] at ht
  omega
theorem AU_make {ρ ρ' : RS} {n p : Nat} (hT : TreeOk ρ) (hP : PrOk ρ) (hA : AU ρ) (hn : ρ.2 1 0 n = 0) (hp : p < 256) (hpk : ρ.2 1 0 p ≠ 0) (hd : DifN ρ ρ' n) (k2 : ρ'.2 2 0 n = p) : AU ρ' := by
  intro m hm hk
  have path : ∀ x : Nat, x < 256 → ρ.2 1 0 x ≠ 0 → ∃ t, upN ρ' t (x : Int) = 0 := fun x hx hxk => by
    obtain ⟨t, ht⟩ := hA x hx hxk
    refine ⟨t, ?_⟩
    rw [upN_dif (fun m hm => (hd m hm).2.1) t x (fun j _ z => ?_)]
    · exact ht
    · have := (upN_in hT hP j x (by omega) (by omega) (by rw [Int.toNat_natCast]; exact hxk)).2.2
      rw [z] at this
      exact this hn
  by_cases e : m = n
  · subst e
    obtain ⟨t, ht⟩ := path p hp hpk
    refine ⟨t + 1, ?_⟩
    show upN ρ' t (ρ'.2 2 0 (m : Int).toNat) = 0
    rw [Int.toNat_natCast, k2]
    exact ht
  · rw [(hd m e).1] at hk
    exact path m hm hk
