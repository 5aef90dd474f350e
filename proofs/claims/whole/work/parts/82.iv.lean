/-! the class and the reference side by side -/
theorem XIs_o {ρ ρ' : RS} {E n r : Nat} {g : Nat → Bool} (hS : OldS ρ ρ' E) (hB : RB ρ E) (hr : (r : Int) < ρ.1 27) (hR : RecOk ρ r) (hx : ∀ j r i, 32 ≤ j → j ≤ 41 → ρ'.2 j r i = ρ.2 j r i) (h : XIs ρ n r g) : XIs ρ' n r g := by
  obtain ⟨b1, b2⟩ := hB.2.2 r hr
  have e18 := hS.2.2.1 18 r (by decide) (by decide) hr
  have e19 := hS.2.2.1 19 r (by decide) (by decide) hr
  have e20 := hS.2.2.1 20 r (by decide) (by decide) hr
  have e21 := hS.2.2.1 21 r (by decide) (by decide) hr
  have e22 := hS.2.2.1 22 r (by decide) (by decide) hr
  have e23 := hS.2.2.1 23 r (by decide) (by decide) hr
  have h23 : 0 ≤ ρ.2 23 0 r := hR.2.2.2.2.2.2.2.2.2.2.2.1
  obtain ⟨x1, x2, x3, x4, x5, x6, x7⟩ := h
  unfold XIs
  rw [e18, e19, e20, e21, e22, e23, hx 32 0 n (by decide) (by decide), hx 33 0 n (by decide) (by decide), hx 34 0 n (by decide) (by decide), hx 35 0 n (by decide) (by decide), hx 36 0 n (by decide) (by decide), hx 37 0 n (by decide) (by decide)]
  refine ⟨x1, x2, x3, x4, x5, fun hk k hk2 => ?_, fun hk => ⟨(x7 hk).1, fun k hk2 hg => ?_⟩⟩
  · have := b1 hk
    rw [hx 39 n k (by decide) (by decide), hS.2.2.2.1 _ (by omega)]
    exact x6 hk k hk2
  · have := b2 hk
    rw [hx 40 n _ (by decide) (by decide), hx 41 n _ (by decide) (by decide), (hS.2.2.2.2 _ (by omega)).1, (hS.2.2.2.2 _ (by omega)).2]
    exact (x7 hk).2 k hk2 hg
def XI (ρ : RS) (E : Nat) (fa ms lo : Nat → Int) (Y : YS) : Prop := QY ρ fa ms lo Y ∧ XInv ρ Y ∧ ∀ n, n < 256 → ∀ q, (Y n).1 = some q → RecAt ρ E q.1 q.2.1
theorem XI_o {ρ ρ' : RS} {E : Nat} {fa ms lo : Nat → Int} {Y : YS} (hS : OldS ρ ρ' E) (hD : DumpsOk ρ E) (hB : RB ρ E) (hx : ∀ j r i, 32 ≤ j → j ≤ 41 → ρ'.2 j r i = ρ.2 j r i) (h : XI ρ E fa ms lo Y) : XI ρ' E fa ms lo Y := by
  obtain ⟨hY, hX, hA⟩ := h
  refine ⟨fun n hn => ?_, fun n hn => ?_, fun n hn q hq => (RecAt_o hS hD hB (hA n hn q hq)).1⟩
  · obtain ⟨y1, y2⟩ := hY n hn
    refine ⟨y1, ?_⟩
    cases hy : (Y n).1 with
    | none => rw [hy] at y2; exact y2
    | some q =>
      rw [hy] at y2
      refine ⟨y2.1, ?_⟩
      rw [cont_o hS (RecAt_o hS hD hB (hA n hn q hy)).2.1]
      exact y2.2
  · obtain ⟨x1, x2⟩ := hX n hn
    refine ⟨by rw [hx 38 0 n (by decide) (by decide)]; exact x1, ?_⟩
    cases hy : (Y n).1 with
    | none =>
      rw [hy] at x2
      exact (hx 32 0 n (by decide) (by decide)).trans x2
    | some q =>
      rw [hy] at x2
      obtain ⟨r1, r2, r3⟩ := RecAt_o hS hD hB (hA n hn q hy)
      exact XIs_o hS hB r2 r3 hx x2
/-- the class's own part of the heap -/
def Zr (b m0 : Nat) : Nat → Prop := fun a => b < a ∧ (a < m0 ∨ m0 + 1161 ≤ a)
def gR (g : Nat → Option AO) (m0 : Nat) (ρ : RS) : Nat → Option AO := fun a => if m0 ≤ a ∧ a < m0 + 1160 then rcell m0 ρ (a - m0) else g a
theorem VH_g {b V0 m0 : Nat} {g : Nat → Option AO} {c : CS} {nc ns cap fi : Nat} {bl : Nat → Nat → Int} {sp ls : Nat → Int} {H : AH} (hH : VH b V0 (Zr b m0) g c nc ns cap fi bl sp ls H) (hZ : CZ (Zr b m0) c) {a : Nat} (ha : ¬ Zr b m0 a) : H.2.2 a = g a := by
  obtain ⟨wr, W, S, ⟨h, W0, P0, len, rfl, hV, ⟨z1, z2, z3, z4, z5⟩, y1, y2, y3, y4⟩, hv⟩ := hH
  have e1 : a ≠ W0 := fun z => ha (by rw [z]; exact z1)
  have e2 : a ≠ P0 := fun z => ha (by rw [z]; exact z2)
  rw [CH_out]
  · exact y1 a ha
  · rw [mk_o e1 e2]
    cases hc : c.1 a with
    | none => rfl
    | some q => exact absurd (hZ a q hc) ha
theorem VH_RH {b V0 m0 : Nat} {g : Nat → Option AO} {c : CS} {nc ns cap fi : Nat} {bl : Nat → Nat → Int} {sp ls : Nat → Int} {H : AH} {ρ : RS} (hH : VH b V0 (Zr b m0) g c nc ns cap fi bl sp ls H) (hZ : CZ (Zr b m0) c) (hg : ∀ a, m0 ≤ a → a < m0 + 1160 → g a = rcell m0 ρ (a - m0)) : H = RH m0 H ρ := by
  refine Prod.ext rfl (Prod.ext rfl (funext fun a => ?_))
  show H.2.2 a = if m0 ≤ a ∧ a < m0 + 1160 then rcell m0 ρ (a - m0) else H.2.2 a
  by_cases e : m0 ≤ a ∧ a < m0 + 1160
  · rw [if_pos e, ← hg a e.1 e.2]
    exact VH_g hH hZ (fun z => by have := z.2; omega)
  · rw [if_neg e]
theorem VH_ref {b V0 m0 : Nat} {g : Nat → Option AO} {c : CS} {nc ns cap fi : Nat} {bl : Nat → Nat → Int} {sp ls : Nat → Int} {H : AH} (ρ' : RS) (hH : VH b V0 (Zr b m0) g c nc ns cap fi bl sp ls H) (hZ : CZ (Zr b m0) c) : VH b V0 (Zr b m0) (gR g m0 ρ') c nc ns cap fi bl sp ls (RH m0 H ρ') := by
  obtain ⟨wr, W, S, ⟨h, W0, P0, len, rfl, hV, ⟨z1, z2, z3, z4, z5⟩, y1, y2, y3, y4⟩, hv⟩ := hH
  refine ⟨wr, W, S, ⟨RH m0 h ρ', W0, P0, len, ?_, hV, ⟨z1, z2, z3, z4, z5⟩, fun a ha => ?_, y2, y3, y4⟩, hv⟩
  · refine Prod.ext rfl (Prod.ext rfl (funext fun a => ?_))
    show (if m0 ≤ a ∧ a < m0 + 1160 then rcell m0 ρ' (a - m0) else (CH h (mkV c W0 P0 len cap wr fi W S)).2.2 a) = _
    by_cases e : m0 ≤ a ∧ a < m0 + 1160
    · have nz : ¬ Zr b m0 a := fun z => by have := z.2; omega
      have e1 : a ≠ W0 := fun z => nz (by rw [z]; exact z1)
      have e2 : a ≠ P0 := fun z => nz (by rw [z]; exact z2)
      have on : (mkV c W0 P0 len cap wr fi W S).1 a = none := by
        rw [mk_o e1 e2]
        cases hc : c.1 a with
        | none => rfl
        | some q => exact absurd (hZ a q hc) nz
      rw [if_pos e, CH_out on]
      show _ = (if m0 ≤ a ∧ a < m0 + 1160 then rcell m0 ρ' (a - m0) else h.2.2 a)
      rw [if_pos e]
    · rw [if_neg e]
      cases hc : (mkV c W0 P0 len cap wr fi W S).1 a with
      | none =>
        rw [CH_out hc, CH_out hc]
        show _ = (if m0 ≤ a ∧ a < m0 + 1160 then rcell m0 ρ' (a - m0) else h.2.2 a)
        rw [if_neg e]
      | some q => rw [CH_at hc, CH_at hc]
  · show (if m0 ≤ a ∧ a < m0 + 1160 then rcell m0 ρ' (a - m0) else h.2.2 a) = (if m0 ≤ a ∧ a < m0 + 1160 then rcell m0 ρ' (a - m0) else g a)
    rw [y1 a ha]
theorem VH_out {b V0 m0 : Nat} {g : Nat → Option AO} {c : CS} {nc ns cap fi : Nat} {bl : Nat → Nat → Int} {sp ls : Nat → Int} {H : AH} (hH : VH b V0 (Zr b m0) g c nc ns cap fi bl sp ls H) (hZ : CZ (Zr b m0) c) {x : Nat} (hx : ¬ Zr b m0 x) (o : AO) : VH b V0 (Zr b m0) (va_up g x (some o)) c nc ns cap fi bl sp ls (hput H x o) := by
  obtain ⟨wr, W, S, ⟨h, W0, P0, len, rfl, hV, ⟨z1, z2, z3, z4, z5⟩, y1, y2, y3, y4⟩, hv⟩ := hH
  have e1 : x ≠ W0 := fun z => hx (by rw [z]; exact z1)
  have e2 : x ≠ P0 := fun z => hx (by rw [z]; exact z2)
  have on : (mkV c W0 P0 len cap wr fi W S).1 x = none := by
    rw [mk_o e1 e2]
    cases hc : c.1 x with
    | none => rfl
    | some q => exact absurd (hZ x q hc) hx
  refine ⟨wr, W, S, ⟨hput h x o, W0, P0, len, ?_, hV, ⟨z1, z2, z3, z4, z5⟩, fun a ha => ?_, y2, y3, y4⟩, hv⟩
  · refine Prod.ext rfl (Prod.ext rfl (funext fun a => ?_))
    show (if a = x then some o else (CH h (mkV c W0 P0 len cap wr fi W S)).2.2 a) = _
    by_cases e : a = x
    · rw [if_pos e, e, CH_out on]
      show _ = (if x = x then some o else h.2.2 x)
      rw [if_pos rfl]
    · rw [if_neg e]
      cases hc : (mkV c W0 P0 len cap wr fi W S).1 a with
      | none =>
        rw [CH_out hc, CH_out hc]
        show _ = (if a = x then some o else h.2.2 a)
        rw [if_neg e]
      | some q => rw [CH_at hc, CH_at hc]
  · show (if a = x then some o else h.2.2 a) = (if a = x then some o else g a)
    rw [y1 a ha]
/-- what does not change of the class's cells -/
def SI (b : Nat) (c : CS) (A : Nat → Nat) : Prop := c.1 (A 0) = some (0, 0) ∧ c.1 (A 1) = some (1, 0) ∧ c.1 (A 2) = some (2, 0) ∧ c.1 (A 6) = some (6, 0) ∧ c.1 (A 11) = some (11, 0) ∧ QI b c (A 3) (A 7) (A 8) (A 9) (A 10) ∧ c.2.1 0 0 0 = .ref (A 1) ∧ c.2.1 0 0 1 = .ref (A 3) ∧ c.2.1 0 0 2 = .ref (A 6) ∧ c.2.1 0 0 3 = .ref (A 7) ∧ c.2.1 0 0 4 = .ref (A 11) ∧ c.2.1 1 0 0 = .ref (A 2) ∧ c.2.1 6 0 0 = .ref (A 1) ∧ c.2.1 6 0 1 = .ref (A 3) ∧ A 2 ≠ b ∧ A 11 ≠ b
theorem SI_c {b : Nat} {c c' : CS} {A : Nat → Nat} (h : SI b c A) (ho : ∀ x k, k ≠ 12 → k ≠ 13 → k ≠ 14 → c.1 x = some (k, 0) → c'.1 x = some (k, 0)) (hv : ∀ k f, k ≠ 12 → k ≠ 13 → k ≠ 14 → k ≠ 1 → k ≠ 2 → ¬ (k = 0 ∧ f = 5) → ¬ (k = 7 ∧ 4 ≤ f) → k ≠ 8 → k ≠ 9 → k ≠ 10 → k ≠ 11 → c'.2.1 k 0 f = c.2.1 k 0 f) (h1 : c'.2.1 1 0 0 = c.2.1 1 0 0) : SI b c' A := by
  obtain ⟨a0, a1, a2, a6, a11, ⟨q1, q2, q3, q4, q5, q6, q7, q8, q9, q10⟩, v0, v1, v2, v3, v4, v10, v60, v61, n1, n2⟩ := h
  refine ⟨ho _ 0 (by decide) (by decide) (by decide) a0, ho _ 1 (by decide) (by decide) (by decide) a1, ho _ 2 (by decide) (by decide) (by decide) a2, ho _ 6 (by decide) (by decide) (by decide) a6, ho _ 11 (by decide) (by decide) (by decide) a11, ⟨ho _ 7 (by decide) (by decide) (by decide) q1, ?_, ?_, ?_, ?_, ho _ 8 (by decide) (by decide) (by decide) q6, ho _ 9 (by decide) (by decide) (by decide) q7, ho _ 10 (by decide) (by decide) (by decide) q8, q9, q10⟩, ?_, ?_, ?_, ?_, ?_, h1.trans v10, ?_, ?_, n1, n2⟩
  · rw [hv 7 0 (by decide) (by decide) (by decide) (by decide) (by decide) (by decide) (by decide) (by decide) (by decide) (by decide) (by decide)]; exact q2
  · rw [hv 7 1 (by decide) (by decide) (by decide) (by decide) (by decide) (by decide) (by decide) (by decide) (by decide) (by decide) (by decide)]; exact q3
  · rw [hv 7 2 (by decide) (by decide) (by decide) (by decide) (by decide) (by decide) (by decide) (by decide) (by decide) (by decide) (by decide)]; exact q4
  · rw [hv 7 3 (by decide) (by decide) (by decide) (by decide) (by decide) (by decide) (by decide) (by decide) (by decide) (by decide) (by decide)]; exact q5
  · rw [hv 0 0 (by decide) (by decide) (by decide) (by decide) (by decide) (by decide) (by decide) (by decide) (by decide) (by decide) (by decide)]; exact v0
  · rw [hv 0 1 (by decide) (by decide) (by decide) (by decide) (by decide) (by decide) (by decide) (by decide) (by decide) (by decide) (by decide)]; exact v1
  · rw [hv 0 2 (by decide) (by decide) (by decide) (by decide) (by decide) (by decide) (by decide) (by decide) (by decide) (by decide) (by decide)]; exact v2
  · rw [hv 0 3 (by decide) (by decide) (by decide) (by decide) (by decide) (by decide) (by decide) (by decide) (by decide) (by decide) (by decide)]; exact v3
  · rw [hv 0 4 (by decide) (by decide) (by decide) (by decide) (by decide) (by decide) (by decide) (by decide) (by decide) (by decide) (by decide)]; exact v4
  · rw [hv 6 0 (by decide) (by decide) (by decide) (by decide) (by decide) (by decide) (by decide) (by decide) (by decide) (by decide) (by decide)]; exact v60
  · rw [hv 6 1 (by decide) (by decide) (by decide) (by decide) (by decide) (by decide) (by decide) (by decide) (by decide) (by decide) (by decide)]; exact v61
/-- the dumps' history -/
def HI (c : CS) (ρ : RS) (E : Nat) (da cn : Nat → Nat) (bl : Nat → Nat → Int) : Prop := c.2.1 0 0 5 = vI E ∧ (∀ e, e < 100 → c.2.1 11 0 e = va_rf (if e < E then some (da e) else none)) ∧ (∀ e, E ≤ e → ∀ a, c.1 a ≠ some (14, e)) ∧ (∀ e, e < E → DmIs c ρ da cn e) ∧ DumpsOk ρ E ∧ (∀ e, e < E → 1 ≤ cn e ∧ cn e ≤ e + 1 ∧ (∀ s, s < cn e → 0 ≤ bsN ρ s e) ∧ bsN ρ (cn e) e < 0) ∧ KB ρ E bl ∧ RB ρ E
theorem HI_o {c c' : CS} {ρ ρ' : RS} {E : Nat} {da cn : Nat → Nat} {bl : Nat → Nat → Int} (h : HI c ρ E da cn bl) (hS : OldS ρ ρ' E) (hB : RB ρ' E) (v5 : c'.2.1 0 0 5 = c.2.1 0 0 5) (v11 : ∀ e, c'.2.1 11 0 e = c.2.1 11 0 e) (v14 : ∀ e f, c'.2.1 14 e f = c.2.1 14 e f) (o1 : ∀ x e, c.1 x = some (14, e) → c'.1 x = some (14, e)) (o2 : ∀ x e, c'.1 x = some (14, e) → c.1 x = some (14, e)) : HI c' ρ' E da cn bl := by
  obtain ⟨h1, h2, h3, h4, h5, h6, h7, h8⟩ := h
  have hb : ∀ e, e < E → ρ.2 12 0 e < e := fun e he => (DK h5 he).1
  refine ⟨v5.trans h1, fun e he => (v11 e).trans (h2 e he), fun e he a z => h3 e he a (o2 a e z), fun e he => DmIs_o hS he (v14 e) (fun x hx => o1 x e hx) (h4 e he), DumpsOk_o hS h5 h8, fun e he => ?_, KB_o hS h5 h8 h7, hB⟩
  obtain ⟨c1, c2, c3, c4⟩ := h6 e he
  refine ⟨c1, c2, fun s hs => ?_, ?_⟩
  · rw [bsN_o hS hb s e (by omega) (fun i hi => c3 i (by omega))]
    exact c3 s hs
  · rw [bsN_o hS hb (cn e) e (by omega) c3]
    exact c4
/-- the reference's numbers -/
def RI (ρ : RS) (E tm : Nat) : Prop := Rg ρ ∧ EntOk ρ ∧ ρ.1 16 = E ∧ E ≤ 100 ∧ 4 ≤ ρ.1 8 ∧ ρ.1 8 ≤ 1000 ∧ 0 ≤ ρ.1 9 ∧ ρ.1 9 + pts (ρ.1 9) (ρ.1 8 - 1) ≤ 4000 ∧ 0 ≤ ρ.1 27 ∧ ρ.1 27 ≤ ρ.1 9 ∧ 0 ≤ ρ.1 28 ∧ ρ.1 28 ≤ 64 * ρ.1 9 ∧ 0 ≤ ρ.1 29 ∧ ρ.1 29 ≤ 21 * ρ.1 9 ∧ 0 ≤ ρ.1 7 ∧ ρ.1 7 ≤ tm ∧ (∀ i, 64 ≤ i → ρ.2 46 0 i = 0) ∧ 0 ≤ ρ.1 47 ∧ (∀ i, ρ.2 30 0 i = 0 ∨ ρ.2 30 0 i = 1) ∧ (∀ i, ρ.2 31 0 i = 0 ∨ ρ.2 31 0 i = 1) ∧ (ρ.1 42 = 0 ∨ ρ.1 42 = 1)
/-- what the class keeps of what was restored -/
def RQ (c : CS) (ρ : RS) (E : Nat) (fa ms lo : Nat → Int) (Y : YS) : Prop := c.2.1 7 0 4 = vI (ρ.1 42) ∧ c.2.1 7 0 5 = vI (ρ.1 43) ∧ c.2.1 7 0 6 = vI (ρ.1 44) ∧ c.2.1 7 0 7 = vI (ρ.1 45) ∧ (∀ j, c.2.1 8 0 j = vI (fa j)) ∧ (∀ j, c.2.1 9 0 j = vI (ms j)) ∧ (∀ j, c.2.1 10 0 j = vI (lo j)) ∧ (ρ.1 42 = 1 → XI ρ E fa ms lo Y)
theorem mkQ_eta {c : CS} {ρ : RS} {E : Nat} {fa ms lo : Nat → Int} {Y : YS} (h : RQ c ρ E fa ms lo Y) : mkQ c (ρ.1 42) (ρ.1 43) (ρ.1 44) (ρ.1 45) fa ms lo = c := by
  obtain ⟨h4, h5, h6, h7, h8, h9, h10, -⟩ := h
  refine Prod.ext rfl (Prod.ext (funext fun k => funext fun i => ?_) rfl)
  show (if k = 7 ∧ i = 0 then qfl (c.2.1 7 0) (ρ.1 42) (ρ.1 43) (ρ.1 44) (ρ.1 45) else if k = 8 ∧ i = 0 then (fun j => vI (fa j)) else if k = 9 ∧ i = 0 then (fun j => vI (ms j)) else if k = 10 ∧ i = 0 then (fun j => vI (lo j)) else c.2.1 k i) = c.2.1 k i
  by_cases e7 : k = 7 ∧ i = 0
  · rw [if_pos e7, e7.1, e7.2]
    funext f
    unfold qfl
    by_cases f4 : f = 4
    · rw [if_pos f4, f4, h4]
    by_cases f5 : f = 5
    · rw [if_neg f4, if_pos f5, f5, h5]
    by_cases f6 : f = 6
    · rw [if_neg f4, if_neg f5, if_pos f6, f6, h6]
    by_cases f7 : f = 7
    · rw [if_neg f4, if_neg f5, if_neg f6, if_pos f7, f7, h7]
    rw [if_neg f4, if_neg f5, if_neg f6, if_neg f7]
  rw [if_neg e7]
  by_cases e8 : k = 8 ∧ i = 0
  · rw [if_pos e8, e8.1, e8.2]
    funext j
    exact (h8 j).symm
  rw [if_neg e8]
  by_cases e9 : k = 9 ∧ i = 0
  · rw [if_pos e9, e9.1, e9.2]
    funext j
    exact (h9 j).symm
  rw [if_neg e9]
  by_cases e10 : k = 10 ∧ i = 0
  · rw [if_pos e10, e10.1, e10.2]
    funext j
    exact (h10 j).symm
  rw [if_neg e10]
/-- all of it -/
def IW (b m0 tm nc ns : Nat) (ρ : RS) (of : Nat → Value) (H : AH) (A : Nat → Nat) (c : CS) (g : Nat → Option AO) (na : Nat → Option Nat) (cs ad : Nat → Nat → Nat) (qs : Nat → Nat) (oc : Nat → Option Nat) (dt : Nat → Nat → Int) (da cn : Nat → Nat) (bl : Nat → Nat → Int) (E : Nat) (fa ms lo : Nat → Int) (Y : YS) : Prop := VH b (A 3) (Zr b m0) g c nc ns (ρ.1 8).toNat (ρ.1 9).toNat bl (ρ.2 30 0) (ρ.2 31 0) H ∧ CZ (Zr b m0) c ∧ (∀ a, m0 ≤ a → a < m0 + 1160 → g a = rcell m0 ρ (a - m0)) ∧ g (m0 + 1160) = some (.inl (.long, 1, of)) ∧ SI b c A ∧ TrOk b (A 1) (A 2) c ρ na cs ad qs oc dt ∧ TF c ρ oc ∧ AU ρ ∧ HI c ρ E da cn bl ∧ RI ρ E tm ∧ RQ c ρ E fa ms lo Y
def Iv (b m0 A0 tm nc ns : Nat) (ρ : RS) (of : Nat → Value) (H : AH) : Prop := ∃ A c g na cs ad qs oc dt da cn bl E fa ms lo Y, A 0 = A0 ∧ IW b m0 tm nc ns ρ of H A c g na cs ad qs oc dt da cn bl E fa ms lo Y
