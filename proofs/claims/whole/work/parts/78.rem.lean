/-! a node removed -/
theorem lvC_3 (c : CS) (p t : Nat) (cs : Nat → Nat) (nx : Value) (s : Int) (m : Nat) : (lvC c p t cs nx s).2.1 12 m 3 = c.2.1 12 m 3 := by
  unfold lvC
  rw [upC_ne (by omega), lnk_ne (Or.inr ⟨by decide, by decide⟩)]
theorem lvC_7 (c : CS) (p t : Nat) (cs : Nat → Nat) (nx : Value) (s : Int) (m : Nat) : (lvC c p t cs nx s).2.1 12 m 7 = if m = p ∧ t = 0 then nx else c.2.1 12 m 7 := by
  unfold lvC
  rw [upC_ne (by omega), lnk_7]
theorem lvC_8 (c : CS) (p t : Nat) (cs : Nat → Nat) (nx : Value) (s : Int) (m : Nat) : (lvC c p t cs nx s).2.1 12 m 8 = if t ≠ 0 ∧ m = cs (t - 1) then nx else c.2.1 12 m 8 := by
  unfold lvC
  rw [upC_ne (by omega), lnk_8]
theorem Dir_c {c c' : CS} {ρ : RS} {na : Nat → Option Nat} {cs ad : Nat → Nat} {q n : Nat} (h : DirOk c ρ na cs ad q n) (ho : ∀ i, i < q → ∀ x, c.1 (ad i) = some x → c'.1 (ad i) = some x) (h7 : c'.2.1 12 n 7 = c.2.1 12 n 7) (h3 : ∀ i, i < q → c'.2.1 12 (cs i) 3 = c.2.1 12 (cs i) 3 ∧ c'.2.1 12 (cs i) 8 = c.2.1 12 (cs i) 8) : DirOk c' ρ na cs ad q n := ⟨h.1, h.2.1, Chn_c h.2.2.1 h7 ho h3, h.2.2.2⟩
/-- one child fewer -/
theorem Dir_del {c c' : CS} {ρ ρ1 : RS} {na : Nat → Option Nat} {cs ad : Nat → Nat → Nat} {qs : Nat → Nat} {n p t : Nat} {s : Int} {D : Nat → Prop} (hall : ∀ m, m < 256 → D m → DirOk c ρ na (cs m) (ad m) (qs m) m) (hp : p < 256) (hDp : D p) (hd : DifN ρ ρ1 n) (h1 : 1 ≤ n) (h2 : n < 256) (hn : ∀ m : Nat, ¬ (ρ1.2 1 0 n ≠ 0 ∧ ρ1.2 2 0 n = m)) (k1 : ρ.2 1 0 n ≠ 0) (k2 : ρ.2 2 0 n = p) (ht : t < qs p) (hc : cs p t = n) (hcp : ∀ i, i < qs p → cs p i ≠ p) (o1 : ∀ x y, c.1 x = some y → c'.1 x = some y) (v7 : ∀ m, c'.2.1 12 m 7 = (lvC c p t (cs p) (va_rf (ptr (ad p) (t + 1) (qs p))) s).2.1 12 m 7) (v3 : ∀ m, c'.2.1 12 m 3 = c.2.1 12 m 3) (v8 : ∀ m, c'.2.1 12 m 8 = (lvC c p t (cs p) (va_rf (ptr (ad p) (t + 1) (qs p))) s).2.1 12 m 8) : ∀ m, m < 256 → D m → DirOk c' ρ1 na (setF cs p (delN (cs p) t) m) (setF ad p (delN (ad p) t) m) (setF qs p (qs p - 1) m) m ∧ ∀ i, i < setF qs p (qs p - 1) m → setF cs p (delN (cs p) t) m i ≠ n := by
  have dp := hall p hp hDp
  have inj := Kids_inj dp.1
  have nep : ∀ i, i < qs p → i ≠ t → cs p i ≠ n := fun i hi hit z => hit (inj i t hi ht (by rw [z, hc]))
  intro m hm hDm
  by_cases e : m = p
  · subst e
    rw [setF_eq, setF_eq, setF_eq]
    refine ⟨⟨Kids_del dp.1 hd (hn m) ht hc, ?_, ?_, fun i hi => ?_⟩, fun i hi => ?_⟩
    · have := rEnt_del hd h1 h2 (hn m) ⟨k1, k2⟩
      have := dp.2.1
      omega
    · refine Chn_del (s := s) dp.2.2.1 inj ht o1 (v7 m) (fun x _ => ⟨by rw [v3, lvC_3], v8 x⟩) hcp (fun i hi => ?_) (fun i hi hi2 => ?_)
      · show ρ1.2 3 0 (delN (cs m) t i) = ρ.2 3 0 (cs m i)
        rw [del_lt hi, (hd _ (nep i (by omega) (by omega))).2.2]
      · show ρ1.2 3 0 (delN (cs m) t i) = ρ.2 3 0 (cs m (i + 1))
        rw [del_ge hi, (hd _ (nep (i + 1) (by omega) (by omega))).2.2]
    · rcases Nat.lt_or_ge i t with z | z
      · rw [del_lt z, del_lt z]
        exact dp.2.2.2 i (by omega)
      · rw [del_ge z, del_ge z]
        exact dp.2.2.2 (i + 1) (by omega)
    · rcases Nat.lt_or_ge i t with z | z
      · rw [del_lt z]
        exact nep i (by omega) (by omega)
      · rw [del_ge z]
        exact nep (i + 1) (by omega) (by omega)
  · have dm := hall m hm hDm
    rw [setF_ne e, setF_ne e, setF_ne e]
    have nc : ∀ i, i < qs m → cs m i ≠ n := fun i hi z => by
      have := (dm.1.1 i hi).2.2.2
      rw [z, k2] at this
      omega
    have nc2 : ∀ i, i < qs m → ¬ (t ≠ 0 ∧ cs m i = cs p (t - 1)) := fun i hi z => by
      have g1 := (dm.1.1 i hi).2.2.2
      have g2 := (dp.1.1 (t - 1) (by omega)).2.2.2
      rw [z.2, g2] at g1
      omega
    refine ⟨⟨Kids_same dm.1 hd (hn m) nc, ?_, ?_, dm.2.2.2⟩, nc⟩
    · rw [rEnt_same hd ⟨fun z => absurd z (hn m), fun z => by rw [k2] at z; exact absurd z.2 (by omega)⟩]
      exact dm.2.1
    · have ch := Chn_c (c' := c') dm.2.2.1 (by rw [v7, lvC_7, if_neg (fun z => e z.1)]) (fun i hi x hx => o1 _ _ hx) (fun i hi => ⟨v3 _, by rw [v8, lvC_8, if_neg (nc2 i hi)]⟩)
      refine ⟨ch.1, fun i hi => ?_⟩
      obtain ⟨b1, b2, b3, b4, b5⟩ := ch.2 i hi
      have pnm : ρ1.2 3 0 (cs m i) = ρ.2 3 0 (cs m i) := (hd _ (nc i hi)).2.2
      refine ⟨b1, ?_, b3, ?_, ?_⟩
      · show _ = vI (ρ1.2 3 0 (cs m i))
        rw [pnm]; exact b2
      · show 0 ≤ ρ1.2 3 0 (cs m i)
        rw [pnm]; exact b4
      · show ρ1.2 3 0 (cs m i) ≤ 100000
        rw [pnm]; exact b5
section Rrm
variable (ρ : RS) (n : Nat)
theorem rRm_1 (m : Nat) : (rRem ρ n).2 1 0 m = if m = n then 0 else ρ.2 1 0 m := by simp [rRem, upA_g, upF_2]
theorem rRm_5 (m : Nat) : (rRem ρ n).2 5 0 m = if m = (ρ.2 2 0 n).toNat then ρ.1 7 + 1 else ρ.2 5 0 m := by simp [rRem, upA_g, upF_2]
theorem rRm_o {j : Nat} (r i : Nat) (h1 : j ≠ 1) (h5 : j ≠ 5) : (rRem ρ n).2 j r i = ρ.2 j r i := by simp [rRem, upA_g, upF_2, h1, h5]
theorem rRm_F (i : Nat) : (rRem ρ n).1 i = if i = 7 then ρ.1 7 + 1 else if i = 0 then 0 else ρ.1 i := by simp [rRem, upA, upF_g]
theorem rRm_d : DifN ρ (rRem ρ n) n := fun m hm => ⟨by rw [rRm_1, if_neg hm], rRm_o ρ n 0 m (by decide) (by decide), rRm_o ρ n 0 m (by decide) (by decide)⟩
end Rrm
theorem upN_2 {ρ ρ' : RS} (h : ∀ m, ρ'.2 2 0 m = ρ.2 2 0 m) : ∀ (s : Nat) (x : Int), upN ρ' s x = upN ρ s x
  | 0, _ => rfl
  | s + 1, x => by
    show upN ρ' s (ρ'.2 2 0 x.toNat) = upN ρ s (ρ.2 2 0 x.toNat)
    rw [h]
    exact upN_2 h s _
section Drc
variable {c : CS} {n p t : Nat} {T C s : Int} {cs : Nat → Nat} {nx : Value}
theorem drC_12 (m f : Nat) : (drC c n p t cs nx s T C).2.1 12 m f = (tkC (upC c 1 0 2 (vI (T + 1))) p t cs nx s (T + 1)).2.1 12 m f := by
  unfold drC
  rw [upC_ne (by omega), upC_ne (by omega)]
theorem tkC_o {m f : Nat} (h7 : f ≠ 7) (h8 : f ≠ 8) (hp5 : ¬ (m = p ∧ (f = 4 ∨ f = 5))) : (tkC c p t cs nx s T).2.1 12 m f = c.2.1 12 m f := by
  unfold tkC lvC
  rw [upC_ne (by omega), upC_ne (by omega), lnk_ne (Or.inr ⟨h7, h8⟩)]
theorem tkC_4 : (tkC c p t cs nx s T).2.1 12 p 4 = vI (s - 1) := by
  unfold tkC lvC
  rw [upC_ne (by omega), upC_eq]
theorem tkC_5 : (tkC c p t cs nx s T).2.1 12 p 5 = vI T := upC_eq _ _ _ _ _
theorem tkC_v {m f : Nat} (h5 : f ≠ 5) : (tkC c p t cs nx s T).2.1 12 m f = (lvC c p t cs nx s).2.1 12 m f := upC_ne (by omega)
theorem tkC_k {k i f : Nat} (hk : k ≠ 12) : (tkC c p t cs nx s T).2.1 k i f = c.2.1 k i f := by
  unfold tkC
  rw [upC_ne (by omega), lvC_k hk]
theorem drC_k {k i f : Nat} (h12 : k ≠ 12) (h1 : ¬ (k = 1 ∧ (f = 1 ∨ f = 2))) (h2 : ¬ (k = 2 ∧ i = 0 ∧ f = n)) : (drC c n p t cs nx s T C).2.1 k i f = c.2.1 k i f := by
  unfold drC
  rw [upC_ne (by omega), upC_ne (by omega), tkC_k h12, upC_ne (by omega)]
theorem drC_11 : (drC c n p t cs nx s T C).2.1 1 0 1 = vI (C - 1) := upC_eq _ _ _ _ _
theorem drC_122 : (drC c n p t cs nx s T C).2.1 1 0 2 = vI (T + 1) := by
  unfold drC
  rw [upC_ne (by omega), upC_ne (by omega), tkC_k (by decide), upC_eq]
theorem drC_2n : (drC c n p t cs nx s T C).2.1 2 0 n = .null := by
  unfold drC
  rw [upC_ne (by omega), upC_eq]
theorem drC_1 : (drC c n p t cs nx s T C).1 = c.1 := tkC_1 (upC c 1 0 2 (vI (T + 1))) p t cs nx s (T + 1)
end Drc
def dpN (n : Nat) : Nat × Nat → Bool := fun q => (q.1 == 12 || q.1 == 13) && q.2 == n
theorem dpN_f {n k m : Nat} (h : m ≠ n ∨ (k ≠ 12 ∧ k ≠ 13)) : dpN n (k, m) = false := by
  unfold dpN
  rcases h with h | h
  · simp [h]
  · simp [h.1, h.2]
theorem dpN_t (n : Nat) : dpN n (12, n) = true ∧ dpN n (13, n) = true := by
  unfold dpN
  simp
set_option maxHeartbeats 1000000 in
theorem Tr_rem {b T0 N0 : Nat} {c : CS} {ρ : RS} {na : Nat → Option Nat} {cs ad : Nat → Nat → Nat} {qs : Nat → Nat} {oc : Nat → Option Nat} {dt : Nat → Nat → Int} (hTr : TrOk b T0 N0 c ρ na cs ad qs oc dt) (hA : AU ρ) (hF : TF c ρ oc) {n p t : Nat} (hn1 : 1 ≤ n) (hn2 : n < 256) (hnk : ρ.2 1 0 n ≠ 0) (hp : ρ.2 2 0 n = p) (ht : t < qs p) (hc : cs p t = n) (hq : qs n = 0) (t0 : 0 ≤ ρ.1 7) (t2 : ρ.1 7 + 1 ≤ 100000) : TrOk b T0 N0 (dpP (drC c n p t (cs p) (va_rf (ptr (ad p) (t + 1) (qs p))) (rEnt ρ p) (ρ.1 7) (cnt (fun n => ρ.2 1 0 n ≠ 0) 0 256)) (dpN n)) (rRem ρ n) (setF na n none) (setF cs p (delN (cs p) t)) (setF ad p (delN (ad p) t)) (setF qs p (qs p - 1)) oc dt ∧ AU (rRem ρ n) ∧ TF (dpP (drC c n p t (cs p) (va_rf (ptr (ad p) (t + 1) (qs p))) (rEnt ρ p) (ρ.1 7) (cnt (fun n => ρ.2 1 0 n ≠ 0) 0 256)) (dpN n)) (rRem ρ n) oc := by
  have hTr0 := hTr
  obtain ⟨hP, hT, h0, hpp, hD, hO⟩ := hTr
  have hd := rRm_d ρ n
  have tn := hT n hn2
  have hp2 : p < 256 := by omega
  have hpk : ρ.2 1 0 p = 2 := by
    have := hpp n hn2 (by omega) hnk
    rwa [hp, Int.toNat_natCast] at this
  have hnp : n ≠ p := fun z => self_no hT hA hn1 hn2 hnk (by rw [hp, z])
  have ex : ∀ m, m ≠ n → (rRem ρ n).2 1 0 m = ρ.2 1 0 m := fun m hm => (hd m hm).1
  have n0 : (rRem ρ n).2 1 0 n = 0 := by rw [rRm_1, if_pos rfl]
  have dpc := hD p hp2 (by rw [hpk]; decide)
  have own : ∀ x k m, (m ≠ n ∨ (k ≠ 12 ∧ k ≠ 13)) → c.1 x = some (k, m) → (dpP (drC c n p t (cs p) (va_rf (ptr (ad p) (t + 1) (qs p))) (rEnt ρ p) (ρ.1 7) (cnt (fun n => ρ.2 1 0 n ≠ 0) 0 256)) (dpN n)).1 x = some (k, m) := fun x k m h hx => dpP_o (by rw [drC_1]; exact hx) (dpN_f h)
  have chn : ∀ m, m < 256 → m ≠ 0 → ρ.2 1 0 m ≠ 0 → (ρ.2 2 0 m).toNat ≠ n := fun m m1 m2 m3 z => by
    have tm := hT m m1
    obtain ⟨i, hi, -⟩ := (hD n hn2 hnk).1.2.2.1 m (by omega) m1 m3 (by omega)
    omega
  have rp : rEnt ρ p = rEnt (rRem ρ n) p + 1 := rEnt_del hd hn1 hn2 (fun z => z.1 n0) ⟨hnk, hp⟩
  have re : ∀ m : Nat, m ≠ p → rEnt (rRem ρ n) m = rEnt ρ m := fun m hm => rEnt_same hd ⟨fun z => absurd n0 z.1, fun z => by rw [hp] at z; exact absurd z.2 (by omega)⟩
  have cp : ∀ i, i < qs p → cs p i ≠ p := fun i hi z => by
    obtain ⟨g1, g2, g3, g4⟩ := dpc.1.1 i hi
    rw [z] at g1 g3 g4
    exact self_no hT hA g1 hp2 g3 g4
  have cc := cnt_up (p := fun m => (rRem ρ n).2 1 0 m ≠ 0) (p' := fun n => ρ.2 1 0 n ≠ 0) (n := n) (fun j hj => by rw [ex j hj]) hnk (fun z => z n0) 256 0 (by omega) (by omega)
  have dd := Dir_del (c := upC c 1 0 2 (vI (ρ.1 7 + 1))) (c' := drC c n p t (cs p) (va_rf (ptr (ad p) (t + 1) (qs p))) (rEnt ρ p) (ρ.1 7) (cnt (fun n => ρ.2 1 0 n ≠ 0) 0 256)) (ρ1 := rRem ρ n) (s := (rEnt ρ p : Nat)) (D := fun m => ρ.2 1 0 m ≠ 0) (fun m hm hk => Dir_c (hD m hm hk) (fun i hi x hx => hx) (upC_ne (by omega)) (fun i hi => ⟨upC_ne (by omega), upC_ne (by omega)⟩)) hp2 (by rw [hpk]; decide) hd hn1 hn2 (fun m z => z.1 n0) hnk hp ht hc cp (fun x y hx => by rw [drC_1]; exact hx) (fun m => by rw [drC_12, tkC_v (by decide)]) (fun m => by rw [drC_12, tkC_v (by decide), lvC_3]) (fun m => by rw [drC_12, tkC_v (by decide)])
  have f12 : ∀ m f, f ≠ 7 → f ≠ 8 → ¬ (m = p ∧ (f = 4 ∨ f = 5)) → (dpP (drC c n p t (cs p) (va_rf (ptr (ad p) (t + 1) (qs p))) (rEnt ρ p) (ρ.1 7) (cnt (fun n => ρ.2 1 0 n ≠ 0) 0 256)) (dpN n)).2.1 12 m f = c.2.1 12 m f := fun m f h7 h8 h5 => by
    show (drC c n p t (cs p) (va_rf (ptr (ad p) (t + 1) (qs p))) (rEnt ρ p) (ρ.1 7) (cnt (fun n => ρ.2 1 0 n ≠ 0) 0 256)).2.1 12 m f = _
    rw [drC_12, tkC_o h7 h8 h5, upC_ne (by omega)]
  refine ⟨⟨⟨own _ _ _ (Or.inr (by decide)) hP.1, ?_, own _ _ _ (Or.inr (by decide)) hP.2.2.1, ?_, ?_, fun m hm => ?_⟩, fun m hm => ?_, ⟨?_, ?_, ?_⟩, fun m hm hm0 hmk => ?_, fun m hm hmk => ?_, fun m hm hmk => ?_⟩, fun m hm hmk => ?_, fun m hm hmk x => ?_, fun m hm hmk x => ?_⟩
  · exact (drC_k (by decide) (by decide) (by omega)).trans hP.2.1
  · refine drC_11.trans ?_
    rw [cc]
    exact congrArg vI (by omega)
  · exact drC_122.trans (by rw [rRm_F, if_pos rfl])
  · by_cases e : m = n
    · subst e
      left
      exact ⟨setF_eq _ _ _, drC_2n, n0⟩
    · rcases hP.2.2.2.2.2 m hm with h | ⟨x, h⟩
      · left
        exact ⟨by rw [setF_ne e]; exact h.1, (drC_k (by decide) (by omega) (by omega)).trans h.2.1, by rw [ex m e]; exact h.2.2⟩
      · right
        obtain ⟨i1, i2, oA, i4, f0, f1, f2, f3, f4, f5⟩ := h
        refine ⟨x, by rw [setF_ne e]; exact i1, (drC_k (by decide) (by omega) (by omega)).trans i2, own _ _ _ (Or.inl e) oA, by rw [ex m e]; exact i4, ?_, ?_, ?_, ?_, ?_, ?_⟩
        · rw [f12 _ _ (by decide) (by decide) (by omega)]; exact f0
        · rw [f12 _ _ (by decide) (by decide) (by omega), ex m e]; exact f1
        · rw [f12 _ _ (by decide) (by decide) (by omega), f2, (hd m e).2.1]
          by_cases em : m = 0
          · rw [if_pos em, if_pos em]
          · rw [if_neg em, if_neg em, setF_ne (chn m hm em i4)]
        · rw [f12 _ _ (by decide) (by decide) (by omega), (hd m e).2.2]; exact f3
        · by_cases ep : m = p
          · subst ep
            refine ((drC_12 _ _).trans tkC_4).trans ?_
            unfold szv
            rw [ex m e, hpk, if_neg (by decide), rp]
            exact congrArg vI (by omega)
          · rw [f12 _ _ (by decide) (by decide) (by omega), szv_c (ex m e) (rRm_o ρ n 0 m (by decide) (by decide)) (re m ep)]; exact f4
        · by_cases ep : m = p
          · subst ep
            refine ((drC_12 _ _).trans tkC_5).trans ?_
            rw [rRm_5, if_pos (by rw [hp, Int.toNat_natCast])]
          · rw [f12 _ _ (by decide) (by decide) (by omega), rRm_5, if_neg (by rw [hp, Int.toNat_natCast]; exact ep)]; exact f5
  · have t1 := hT m hm
    rw [rRm_1, rRm_5, rRm_o ρ n 0 m (by decide) (by decide), rRm_o ρ n 0 m (by decide) (by decide), rRm_o ρ n 0 m (by decide) (by decide)]
    by_cases e : m = n
    · rw [if_pos e]
      split <;> omega
    · rw [if_neg e]
      split <;> omega
  · rw [ex 0 (by omega)]; exact h0.1
  · rw [(hd 0 (by omega)).2.1]; exact h0.2.1
  · rw [(hd 0 (by omega)).2.2]; exact h0.2.2
  · by_cases e : m = n
    · rw [e, n0] at hmk
      exact absurd rfl hmk
    · rw [ex m e] at hmk
      rw [(hd m e).2.1, ex _ (chn m hm hm0 hmk)]
      exact hpp m hm hm0 hmk
  · have e : m ≠ n := fun z => by rw [z, n0] at hmk; exact hmk rfl
    rw [ex m e] at hmk
    obtain ⟨g1, g2⟩ := dd m hm hmk
    refine ⟨g1.1, g1.2.1, ⟨g1.2.2.1.1, fun i hi => ?_⟩, fun i hi => by rw [setF_ne (g2 i hi)]; exact g1.2.2.2 i hi⟩
    obtain ⟨b1, b2⟩ := g1.2.2.1.2 i hi
    exact ⟨dpP_o b1 (dpN_f (Or.inl (g2 i hi))), b2⟩
  · have e : m ≠ n := fun z => by rw [z, n0] at hmk; exact absurd hmk (by decide)
    rw [ex m e] at hmk
    obtain ⟨⟨g1, g2, g3, g4⟩, g5⟩ := hO m hm hmk
    refine ⟨⟨(f12 _ _ (by decide) (by decide) (by omega)).trans g1, g2, fun k hk => ?_, ?_⟩, g5⟩
    · rw [rRm_o ρ n m k (by decide) (by decide)]
      exact g3 k (by rw [rRm_o ρ n 0 m (by decide) (by decide)] at hk; exact hk)
    · cases ho : oc m with
      | none =>
        rw [ho] at g4
        exact (rRm_o ρ n 0 m (by decide) (by decide)).trans g4
      | some o =>
        rw [ho] at g4
        exact ⟨own _ _ _ (Or.inl e) g4.1, fun k => (drC_k (by decide) (by omega) (by omega)).trans (g4.2 k)⟩
  · by_cases e : m = n
    · rw [e, n0] at hmk
      exact absurd rfl hmk
    · rw [ex m e] at hmk
      obtain ⟨s, hs⟩ := hA m hm hmk
      exact ⟨s, by rw [upN_2 (fun x => rRm_o ρ n 0 x (by decide) (by decide))]; exact hs⟩
  · intro z
    obtain ⟨z1, z2⟩ := dpP_i z
    rw [drC_1] at z1
    by_cases e : m = n
    · rw [e, (dpN_t n).1] at z2
      cases z2
    · rw [ex m e] at hmk
      exact hF.1 m hm hmk x z1
  · intro z
    obtain ⟨z1, z2⟩ := dpP_i z
    rw [drC_1] at z1
    by_cases e : m = n
    · rw [e, (dpN_t n).2] at z2
      cases z2
    · rw [ex m e] at hmk
      exact hF.2 m hm hmk x z1
