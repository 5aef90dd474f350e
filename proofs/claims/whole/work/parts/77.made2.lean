/-! a node made -/
theorem upA_g (ρ : RS) (j r i : Nat) (v : Int) (j' r' i' : Nat) : (upA ρ j r i v).2 j' r' i' = if j' = j ∧ r' = r ∧ i' = i then v else ρ.2 j' r' i' := rfl
theorem upF_g (ρ : RS) (k : Nat) (v : Int) (i : Nat) : (upF ρ k v).1 i = if i = k then v else ρ.1 i := rfl
section Rmk
variable (ρ : RS) (p n : Nat) (w f : Int)
theorem rMk_1 (m : Nat) : (rMake ρ p w f n).2 1 0 m = if m = n then (if f = 0 then 1 else 2) else ρ.2 1 0 m := by simp [rMake, upA_g, upF_2]
theorem rMk_2 (m : Nat) : (rMake ρ p w f n).2 2 0 m = if m = n then (p : Int) else ρ.2 2 0 m := by simp [rMake, upA_g, upF_2]
theorem rMk_3 (m : Nat) : (rMake ρ p w f n).2 3 0 m = if m = n then w else ρ.2 3 0 m := by simp [rMake, upA_g, upF_2]
theorem rMk_4 (m : Nat) : (rMake ρ p w f n).2 4 0 m = if m = n then 0 else ρ.2 4 0 m := by simp [rMake, upA_g, upF_2]
theorem rMk_5 (m : Nat) : (rMake ρ p w f n).2 5 0 m = if m = p ∨ m = n then ρ.1 7 + 1 else ρ.2 5 0 m := by
  simp only [rMake, upA_g, upF_2, Int.toNat_natCast]
  by_cases e : m = p
  · simp [e]
  · by_cases e2 : m = n <;> simp [e, e2]
theorem rMk_6 (r i : Nat) {j : Nat} (hj : j ≠ 1 ∧ j ≠ 2 ∧ j ≠ 3 ∧ j ≠ 4 ∧ j ≠ 5) : (rMake ρ p w f n).2 j r i = ρ.2 j r i := by
  obtain ⟨h1, h2, h3, h4, h5⟩ := hj
  simp [rMake, upA_g, upF_2, h1, h2, h3, h4, h5]
theorem rMk_F (i : Nat) : (rMake ρ p w f n).1 i = if i = 7 then ρ.1 7 + 1 else if i = 0 then 0 else ρ.1 i := by simp [rMake, upA, upF_g]
theorem rMk_d : DifN ρ (rMake ρ p w f n) n := fun m hm => ⟨by rw [rMk_1, if_neg hm], by rw [rMk_2, if_neg hm], by rw [rMk_3, if_neg hm]⟩
end Rmk
theorem Tr_pr {b T0 N0 : Nat} {c : CS} {ρ : RS} {na : Nat → Option Nat} {cs ad : Nat → Nat → Nat} {qs : Nat → Nat} {oc : Nat → Option Nat} {dt : Nat → Nat → Int} (hTr : TrOk b T0 N0 c ρ na cs ad qs oc dt) : PrOk ρ := ⟨hTr.2.2.1.1, hTr.2.2.1.2.1, hTr.2.2.2.1⟩
theorem szv_c {ρ ρ' : RS} {m : Nat} (h1 : ρ'.2 1 0 m = ρ.2 1 0 m) (h4 : ρ'.2 4 0 m = ρ.2 4 0 m) (he : rEnt ρ' m = rEnt ρ m) : szv ρ' m = szv ρ m := by
  unfold szv
  rw [h1, h4, he]
theorem OctOk_c {c c' : CS} {ρ ρ' : RS} {oc : Option Nat} {dt : Nat → Int} {n : Nat} (hO : OctOk c ρ oc dt n) (h6 : c'.2.1 12 n 6 = c.2.1 12 n 6) (h4 : ρ'.2 4 0 n = ρ.2 4 0 n) (hd : ∀ k, ρ'.2 6 n k = ρ.2 6 n k) (ho : ∀ x y, c.1 x = some y → c'.1 x = some y) (hv : ∀ k, c'.2.1 13 n k = c.2.1 13 n k) : OctOk c' ρ' oc dt n := by
  obtain ⟨g1, g2, g3, g4⟩ := hO
  refine ⟨h6.trans g1, g2, fun k hk => ?_, ?_⟩
  · rw [hd]
    exact g3 k (by rw [← h4]; exact hk)
  · cases oc with
    | none => exact h4.trans g4
    | some o => exact ⟨ho _ _ g4.1, fun k => (hv k).trans (g4.2 k)⟩
theorem na_ne {b T0 N0 : Nat} {c : CS} {ρ : RS} {na : Nat → Option Nat} {cs ad : Nat → Nat → Nat} {qs : Nat → Nat} {oc : Nat → Option Nat} {dt : Nat → Nat → Int} (hTr : TrOk b T0 N0 c ρ na cs ad qs oc dt) {m : Nat} (hm : m < 256) (hk : ρ.2 1 0 m ≠ 0) : ∃ x, NdIs c ρ na m x := by
  rcases hTr.1.2.2.2.2.2 m hm with h | h
  · exact absurd h.2.2 hk
  · exact h
set_option maxHeartbeats 1000000 in
theorem Tr_make {b T0 N0 : Nat} {c : CS} {ρ : RS} {na : Nat → Option Nat} {cs ad : Nat → Nat → Nat} {qs : Nat → Nat} {oc : Nat → Option Nat} {dt : Nat → Nat → Int} (hTr : TrOk b T0 N0 c ρ na cs ad qs oc dt) (hA : AU ρ) (hF : TF c ρ oc) {p n a hp t : Nat} {w f k : Int} (hn1 : 1 ≤ n) (hn2 : n < 256) (hn0 : ρ.2 1 0 n = 0) (hp2 : p < 256) (hpk : ρ.2 1 0 p = 2) (hpa : na p = some hp) (fr : c.1 a = none) (w1 : 1 ≤ w) (w2 : w ≤ 30000) (hne : ∀ j, j < qs p → ρ.2 3 0 (cs p j) ≠ w) (ht : t ≤ qs p) (hlt : ∀ j, j < t → ρ.2 3 0 (cs p j) < w) (hge : t < qs p → w ≤ ρ.2 3 0 (cs p t)) (hf : f = 0 ∨ f = 1) (hk : k = if f = 0 then 1 else 2) (t0 : 0 ≤ ρ.1 7) (t2 : ρ.1 7 + 1 ≤ 100000) : TrOk b T0 N0 (adC c n p a hp k w (ρ.1 7) (cnt (fun n => ρ.2 1 0 n ≠ 0) 0 256) t (cs p) (va_rf (ptr (ad p) t (qs p))) (rEnt ρ p)) (rMake ρ p w f n) (setF na n (some a)) (setF (setF cs p (insN (cs p) t n)) n (fun _ => 0)) (setF (setF ad p (insN (ad p) t a)) n (fun _ => 0)) (setF (setF qs p (qs p + 1)) n 0) (setF oc n none) (setF dt n (fun _ => 0)) ∧ AU (rMake ρ p w f n) ∧ TF (adC c n p a hp k w (ρ.1 7) (cnt (fun n => ρ.2 1 0 n ≠ 0) 0 256) t (cs p) (va_rf (ptr (ad p) t (qs p))) (rEnt ρ p)) (rMake ρ p w f n) (setF oc n none) := by
  have hPr := Tr_pr hTr
  have hTr0 := hTr
  obtain ⟨hP, hT, h0, hpp, hD, hO⟩ := hTr
  have hd := rMk_d ρ p n w f
  have hnp : n ≠ p := fun z => by rw [z, hpk] at hn0; exact absurd hn0 (by decide)
  have hnk : (rMake ρ p w f n).2 1 0 n = k := by rw [rMk_1, if_pos rfl, hk]
  have hk0 : k ≠ 0 := by rcases hf with e | e <;> (rw [hk, e]; decide)
  have own : ∀ x y, c.1 x = some y → (adC c n p a hp k w (ρ.1 7) (cnt (fun n => ρ.2 1 0 n ≠ 0) 0 256) t (cs p) (va_rf (ptr (ad p) t (qs p))) (rEnt ρ p)).1 x = some y := fun x y hx => by rw [adC_own, if_neg (fun z => by rw [z, fr] at hx; cases hx)]; exact hx
  have par : ∀ m, m < 256 → m ≠ 0 → ρ.2 1 0 m ≠ 0 → (ρ.2 2 0 m).toNat ≠ n := fun m m1 m2 m3 z => by
    have := hpp m m1 m2 m3
    rw [z, hn0] at this
    exact absurd this (by decide)
  have nch : ∀ m, m < 256 → ρ.2 1 0 m ≠ 0 → ∀ i, i < qs m → cs m i ≠ n := fun m m1 m2 i hi z => by
    have := ((hD m m1 m2).1.1 i hi).2.2.1
    rw [z] at this
    exact this hn0
  have dirP := hD p hp2 (by rw [hpk]; decide)
  obtain ⟨xp, hxp⟩ := na_ne hTr0 hp2 (by rw [hpk]; decide)
  have rp : rEnt (rMake ρ p w f n) p = rEnt ρ p + 1 := rEnt_ins hd hn1 hn2 ⟨by rw [hnk]; exact hk0, by rw [rMk_2, if_pos rfl]⟩ (fun z => z.1 hn0)
  have re : ∀ m : Nat, m ≠ p → rEnt (rMake ρ p w f n) m = rEnt ρ m := fun m hm => rEnt_same hd ⟨fun z => by rw [rMk_2, if_pos rfl] at z; exact absurd z.2 (by omega), fun z => absurd hn0 z.1⟩
  have rn : rEnt ρ n = 0 := cnt_0 255 1 (fun j j1 j2 z => par j (by omega) (by omega) z.1 (by rw [z.2]; omega))
  have cp : ∀ i, i < qs p → cs p i ≠ p := fun i hi z => by
    obtain ⟨g1, g2, g3, g4⟩ := dirP.1.1 i hi
    rw [z] at g1 g3 g4
    exact self_no hT hA g1 hp2 g3 g4
  have ex : ∀ m, m ≠ n → (rMake ρ p w f n).2 1 0 m = ρ.2 1 0 m := fun m hm => (hd m hm).1
  refine ⟨⟨⟨own _ _ hP.1, ?_, own _ _ hP.2.2.1, ?_, ?_, fun m hm => ?_⟩, fun m hm => ?_, ⟨?_, ?_, ?_⟩, fun m hm hm0 hmk => ?_, fun m hm hmk => ?_, fun m hm hmk => ?_⟩, AU_make hT hPr hA hn0 hp2 (by rw [hpk]; decide) hd (by rw [rMk_2, if_pos rfl]), fun m hm hmk x => ?_, fun m hm hmk x => ?_⟩
  · rw [adC_k (by decide) (by omega) (by omega)]
    exact hP.2.1
  · rw [adC_11, cnt_up (p := fun n => ρ.2 1 0 n ≠ 0) (p' := fun m => (rMake ρ p w f n).2 1 0 m ≠ 0) (n := n) (fun j hj => by rw [ex j hj]) (by rw [hnk]; exact hk0) (fun z => z hn0) 256 0 (by omega) (by omega)]
    rfl
  · rw [adC_12, rMk_F, if_pos rfl]
  · by_cases e : m = n
    · subst e
      right
      obtain ⟨v0, v1, v2, v3, v4, v5, v6, v7⟩ := adC_n (c := c) (n := m) (p := p) (a := a) (hp := hp) (t := t) (k := k) (w := w) (T := ρ.1 7) (C := (cnt (fun n => ρ.2 1 0 n ≠ 0) 0 256 : Nat)) (s := (rEnt ρ p : Nat)) (cs := cs p) (nx := va_rf (ptr (ad p) t (qs p))) hnp
      refine ⟨a, setF_eq _ _ _, adC_2n, by rw [adC_own, if_pos rfl], by rw [hnk]; exact hk0, v0, by rw [v1, hnk], ?_, by rw [v3, rMk_3, if_pos rfl], ?_, by rw [v5, rMk_5, if_pos (Or.inr rfl)]⟩
      · rw [v2, if_neg (by omega), rMk_2, if_pos rfl, Int.toNat_natCast, setF_ne (Ne.symm hnp), hpa]
        rfl
      · rw [v4]
        unfold szv
        rw [rMk_4, if_pos rfl, re m hnp, rn]
        split <;> rfl
    · rcases hP.2.2.2.2.2 m hm with h | ⟨x, h⟩
      · left
        exact ⟨by rw [setF_ne e]; exact h.1, by rw [adC_k (by decide) (by omega) (by omega)]; exact h.2.1, by rw [ex m e]; exact h.2.2⟩
      · right
        obtain ⟨i1, i2, oA, i4, f0, f1, f2, f3, f4, f5⟩ := h
        refine ⟨x, by rw [setF_ne e]; exact i1, by rw [adC_k (by decide) (by omega) (by omega)]; exact i2, own _ _ oA, by rw [ex m e]; exact i4, ?_, ?_, ?_, ?_, ?_, ?_⟩
        · rw [adC_o e (by decide) (by decide) (by omega)]; exact f0
        · rw [adC_o e (by decide) (by decide) (by omega), ex m e]; exact f1
        · rw [adC_o e (by decide) (by decide) (by omega), f2, (hd m e).2.1]
          by_cases em : m = 0
          · rw [if_pos em, if_pos em]
          · rw [if_neg em, if_neg em, setF_ne (par m hm em i4)]
        · rw [adC_o e (by decide) (by decide) (by omega), (hd m e).2.2]; exact f3
        · by_cases ep : m = p
          · subst ep
            rw [adC_p4 hnp]
            unfold szv
            rw [ex m e, hpk, if_neg (by decide), rp]
            rfl
          · rw [adC_o e (by decide) (by decide) (by omega), szv_c (ex m e) (by rw [rMk_4, if_neg e]) (re m ep)]; exact f4
        · by_cases ep : m = p
          · subst ep
            rw [adC_p5, rMk_5, if_pos (Or.inl rfl)]
          · rw [adC_o e (by decide) (by decide) (by omega), rMk_5, if_neg (by omega)]; exact f5
  · have t1 := hT m hm
    rw [rMk_1, rMk_2, rMk_3, rMk_4, rMk_5]
    by_cases e : m = n
    · rw [if_pos e, if_pos e, if_pos e, if_pos e, if_pos (Or.inr e)]
      rcases hf with z | z
      · rw [z, if_pos rfl]
        omega
      · rw [z, if_neg (by decide)]
        omega
    · rw [if_neg e, if_neg e, if_neg e, if_neg e]
      split <;> omega
  · rw [ex 0 (by omega)]; exact h0.1
  · rw [(hd 0 (by omega)).2.1]; exact h0.2.1
  · rw [(hd 0 (by omega)).2.2]; exact h0.2.2
  · by_cases e : m = n
    · rw [e, rMk_2, if_pos rfl, Int.toNat_natCast, ex p (Ne.symm hnp), hpk]
    · rw [ex m e] at hmk
      rw [(hd m e).2.1, ex _ (par m hm hm0 hmk)]
      exact hpp m hm hm0 hmk
  · by_cases e : m = n
    · subst e
      rw [setF_eq, setF_eq, setF_eq]
      obtain ⟨v0, v1, v2, v3, v4, v5, v6, v7⟩ := adC_n (c := c) (n := m) (p := p) (a := a) (hp := hp) (t := t) (k := k) (w := w) (T := ρ.1 7) (C := (cnt (fun n => ρ.2 1 0 n ≠ 0) 0 256 : Nat)) (s := (rEnt ρ p : Nat)) (cs := cs p) (nx := va_rf (ptr (ad p) t (qs p))) hnp
      refine ⟨⟨fun i hi => absurd hi (Nat.not_lt_zero _), fun i j _ hj => absurd hj (Nat.not_lt_zero _), fun x x1 x2 x3 x4 => ?_, fun i hi => absurd hi (Nat.not_lt_zero _)⟩, by rw [re m hnp, rn], ⟨v7, fun i hi => absurd hi (Nat.not_lt_zero _)⟩, fun i hi => absurd hi (Nat.not_lt_zero _)⟩
      by_cases ex1 : x = m
      · rw [ex1, rMk_2, if_pos rfl] at x4
        exact absurd x4 (by omega)
      · rw [ex x ex1] at x3
        rw [(hd x ex1).2.1] at x4
        exact absurd (by rw [x4]; omega) (par x x2 (by omega) x3)
    · rw [ex m e] at hmk
      by_cases ep : m = p
      · subst ep
        rw [setF_ne e, setF_ne e, setF_ne e, setF_eq, setF_eq, setF_eq]
        have nc := nch m hm hmk
        refine ⟨Kids_ins dirP.1 hd hn1 hn2 (by rw [hnk]; exact hk0) (by rw [rMk_2, if_pos rfl]) (by rw [rMk_3, if_pos rfl]) w1 nc ht hlt hge hne, by rw [rp, dirP.2.1], ?_, fun i hi => ?_⟩
        · refine Chn_ins (c := c) (hp := hp) (w := w) (s := (rEnt ρ m : Nat)) dirP.2.2.1 hnp nc (Kids_inj dirP.1) ht (by omega) (by omega) own (by rw [adC_own, if_pos rfl]) ?_ (fun x hx => ?_) cp (fun i hi => ?_) ?_ (fun i hi hi2 => ?_)
          · rw [adC_7 e, enC_7]
          · rw [adC_3, enC_3, adC_8, enC_8]
            exact ⟨rfl, rfl⟩
          · show (rMake ρ m w f n).2 3 0 (insN (cs m) t n i) = ρ.2 3 0 (cs m i)
            rw [ins_lt hi, rMk_3, if_neg (nc i (by omega))]
          · show (rMake ρ m w f n).2 3 0 (insN (cs m) t n t) = w
            rw [ins_eq, rMk_3, if_pos rfl]
          · show (rMake ρ m w f n).2 3 0 (insN (cs m) t n i) = ρ.2 3 0 (cs m (i - 1))
            rw [ins_gt hi, rMk_3, if_neg (nc (i - 1) (by omega))]
        · rcases Nat.lt_trichotomy i t with z | z | z
          · rw [ins_lt z, ins_lt z, setF_ne (nc i (by omega))]
            exact dirP.2.2.2 i (by omega)
          · subst z
            rw [ins_eq, ins_eq, setF_eq]
          · rw [ins_gt z, ins_gt z, setF_ne (nc (i - 1) (by omega))]
            exact dirP.2.2.2 (i - 1) (by omega)
      · rw [setF_ne e, setF_ne e, setF_ne e, setF_ne ep, setF_ne ep, setF_ne ep]
        have nc := nch m hm hmk
        have dm := hD m hm hmk
        have ncp : ∀ i, i < qs m → t ≠ 0 → cs m i ≠ cs p (t - 1) := fun i hi tz z => by
          have g1 := (dm.1.1 i hi).2.2.2
          have g2 := (dirP.1.1 (t - 1) (by omega)).2.2.2
          rw [z, g2] at g1
          omega
        refine ⟨Kids_same dm.1 hd (fun z => by rw [rMk_2, if_pos rfl] at z; exact ep (by omega)) nc, by rw [re m ep, dm.2.1], ⟨?_, fun i hi => ?_⟩, fun i hi => by rw [setF_ne (nc i hi)]; exact dm.2.2.2 i hi⟩
        · rw [adC_7 e, if_neg (fun z => ep z.1)]
          exact dm.2.2.1.1
        · obtain ⟨b1, b2, b3, b4, b5⟩ := dm.2.2.1.2 i hi
          have n1 := nc i hi
          have pnm : (rMake ρ p w f n).2 3 0 (cs m i) = ρ.2 3 0 (cs m i) := (hd _ n1).2.2
          refine ⟨own _ _ b1, ?_, ?_, ?_, ?_⟩
          · show _ = vI ((rMake ρ p w f n).2 3 0 (cs m i))
            rw [adC_3, if_neg n1, pnm]; exact b2
          · rw [adC_8, if_neg (fun z => ncp i hi z.1 z.2), if_neg n1]
            exact b3
          · show 0 ≤ (rMake ρ p w f n).2 3 0 (cs m i)
            rw [pnm]; exact b4
          · show (rMake ρ p w f n).2 3 0 (cs m i) ≤ 100000
            rw [pnm]; exact b5
  · by_cases e : m = n
    · subst e
      rw [setF_eq, setF_eq]
      obtain ⟨v0, v1, v2, v3, v4, v5, v6, v7⟩ := adC_n (c := c) (n := m) (p := p) (a := a) (hp := hp) (t := t) (k := k) (w := w) (T := ρ.1 7) (C := (cnt (fun n => ρ.2 1 0 n ≠ 0) 0 256 : Nat)) (s := (rEnt ρ p : Nat)) (cs := cs p) (nx := va_rf (ptr (ad p) t (qs p))) hnp
      refine ⟨⟨v6, ?_, fun k hk => ?_, ?_⟩, fun o z => by cases z⟩
      · intro k
        show (0 : Int) ≤ 0 ∧ (0 : Int) ≤ 255
        exact ⟨Int.le_refl _, by decide⟩
      · rw [rMk_4, if_pos rfl] at hk
        omega
      · show (rMake ρ p w f m).2 4 0 m = 0
        rw [rMk_4, if_pos rfl]
    · rw [ex m e] at hmk
      rw [setF_ne e, setF_ne e]
      refine ⟨OctOk_c (hO m hm hmk).1 (adC_o e (by decide) (by decide) (by omega)) (by rw [rMk_4, if_neg e]) (fun k => rMk_6 ρ p n w f m k (by decide)) own (fun k => adC_k (by decide) (by omega) (by omega)), (hO m hm hmk).2⟩
  · rw [adC_own]
    by_cases e : m = n
    · rw [e, hnk] at hmk
      exact absurd hmk hk0
    · rw [ex m e] at hmk
      by_cases ex2 : x = a
      · rw [if_pos ex2]
        intro z
        cases z
        exact e rfl
      · rw [if_neg ex2]
        exact hF.1 m hm hmk x
  · rw [adC_own]
    by_cases ex2 : x = a
    · rw [if_pos ex2]
      intro z
      cases z
    · rw [if_neg ex2]
      by_cases e : m = n
      · subst e
        exact hF.2 m hm (Or.inl (by rw [hn0]; decide)) x
      · rw [ex m e, setF_ne e] at hmk
        exact hF.2 m hm hmk x
