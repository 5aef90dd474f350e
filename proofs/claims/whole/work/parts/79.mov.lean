/-! a node moved -/
section Rmv
variable (ρ : RS) (n p : Nat) (w : Int)
theorem rMv_2 (m : Nat) : (rMove ρ n p w).2 2 0 m = if m = n then (p : Int) else ρ.2 2 0 m := by simp [rMove, upA_g, upF_2]
theorem rMv_3 (m : Nat) : (rMove ρ n p w).2 3 0 m = if m = n then w else ρ.2 3 0 m := by simp [rMove, upA_g, upF_2]
theorem rMv_5 (m : Nat) : (rMove ρ n p w).2 5 0 m = if m = n ∨ m = p ∨ m = (ρ.2 2 0 n).toNat then ρ.1 7 + 1 else ρ.2 5 0 m := by
  simp only [rMove, upA_g, upF_2]
  by_cases e : m = n
  · simp [e]
  · by_cases e2 : m = p
    · simp [e2]
    · by_cases e3 : m = (ρ.2 2 0 n).toNat <;> simp [e, e2, e3]
theorem rMv_o {j : Nat} (r i : Nat) (h2 : j ≠ 2) (h3 : j ≠ 3) (h5 : j ≠ 5) : (rMove ρ n p w).2 j r i = ρ.2 j r i := by simp [rMove, upA_g, upF_2, h2, h3, h5]
theorem rMv_F (i : Nat) : (rMove ρ n p w).1 i = if i = 7 then ρ.1 7 + 1 else if i = 0 then 0 else ρ.1 i := by simp [rMove, upA, upF_g]
theorem rMv_d : DifN ρ (rMove ρ n p w) n := fun m hm => ⟨rMv_o ρ n p w 0 m (by decide) (by decide) (by decide), by rw [rMv_2, if_neg hm], by rw [rMv_3, if_neg hm]⟩
end Rmv
theorem upN_add (ρ : RS) : ∀ (s t : Nat) (x : Int), upN ρ (s + t) x = upN ρ t (upN ρ s x)
  | 0, t, x => by rw [Nat.zero_add]; rfl
  | s + 1, t, x => by
    rw [show s + 1 + t = (s + t) + 1 by omega]
    exact upN_add ρ s t _
theorem least {P : Nat → Prop} : ∀ t, (∀ j, j < t → ¬ P j) ∨ ∃ j, j < t ∧ P j ∧ ∀ i, i < j → ¬ P i
  | 0 => Or.inl (fun j h => absurd h (Nat.not_lt_zero _))
  | t + 1 => by
    rcases least (P := P) t with h | ⟨j, h1, h2⟩
    · by_cases e : P t
      · exact Or.inr ⟨t, by omega, e, h⟩
      · exact Or.inl (fun j hj => by
          rcases Nat.lt_or_ge j t with z | z
          · exact h j z
          · obtain rfl : j = t := by omega
            exact e)
    · exact Or.inr ⟨j, by omega, h2⟩
theorem AU_move {ρ ρ' : RS} {n p t3 : Nat} (hA : AU ρ) (hd : DifN ρ ρ' n) (k2 : ρ'.2 2 0 n = p) (hk1 : ρ'.2 1 0 n = ρ.2 1 0 n) (hs : ∀ s, s < t3 → (upN ρ s (p : Int)).toNat ≠ n) (ht : upN ρ t3 (p : Int) = 0) : AU ρ' := by
  have pp : upN ρ' t3 (p : Int) = 0 := by rw [upN_dif (fun m hm => (hd m hm).2.1) t3 _ hs, ht]
  have pn : upN ρ' (t3 + 1) (n : Int) = 0 := by
    show upN ρ' t3 (ρ'.2 2 0 (n : Int).toNat) = 0
    rw [Int.toNat_natCast, k2, pp]
  intro m hm hmk
  have hmk : ρ.2 1 0 m ≠ 0 := by
    by_cases e : m = n
    · rw [e, hk1] at hmk; rw [e]; exact hmk
    · rw [(hd m e).1] at hmk; exact hmk
  obtain ⟨t, h0⟩ := hA m hm hmk
  rcases least (P := fun j => (upN ρ j (m : Int)).toNat = n) t with h | ⟨j, h1, h2, h3⟩
  · exact ⟨t, by rw [upN_dif (fun m hm => (hd m hm).2.1) t _ h, h0]⟩
  · have e1 : upN ρ' j (m : Int) = upN ρ j (m : Int) := upN_dif (fun m hm => (hd m hm).2.1) j _ h3
    refine ⟨j + (t3 + 1), ?_⟩
    rw [upN_add, e1]
    show upN ρ' t3 (ρ'.2 2 0 (upN ρ j (m : Int)).toNat) = 0
    rw [h2, k2, pp]
section Rhc
variable {c : CS} {n p a hp t : Nat} {w T s : Int} {cs : Nat → Nat} {nx : Value}
theorem rhC_o {m f : Nat} (hn : ¬ (m = n ∧ (f = 2 ∨ f = 3 ∨ f = 5))) (h7 : f ≠ 7) (h8 : f ≠ 8) (hp5 : ¬ (m = p ∧ (f = 4 ∨ f = 5))) : (rhC c n p a hp w T t cs nx s).2.1 12 m f = c.2.1 12 m f := by
  unfold rhC enC
  rw [upC_ne (by omega), upC_ne (by omega), upC_ne (by omega), lnk_ne (Or.inr ⟨h7, h8⟩), upC_ne (by omega), upC_ne (by omega), upC_ne (by omega)]
theorem rhC_v {m f : Nat} (h5 : f ≠ 5) : (rhC c n p a hp w T t cs nx s).2.1 12 m f = (enC c n p a hp w t cs nx s).2.1 12 m f := by
  unfold rhC
  rw [upC_ne (by omega), upC_ne (by omega)]
theorem rhC_k {k i f : Nat} (hk : k ≠ 12) : (rhC c n p a hp w T t cs nx s).2.1 k i f = c.2.1 k i f := by
  unfold rhC
  rw [upC_ne (by omega), upC_ne (by omega), enC_k hk]
theorem rhC_1 : (rhC c n p a hp w T t cs nx s).1 = c.1 := enC_1 c n p a hp w t cs nx s
theorem rhC_n2 (hne : n ≠ p) : (rhC c n p a hp w T t cs nx s).2.1 12 n 2 = .ref hp := by
  rw [rhC_v (by decide)]
  unfold enC
  rw [upC_ne (by omega), lnk_ne (by omega), upC_ne (by omega), upC_ne (by omega), upC_eq]
theorem rhC_p4 : (rhC c n p a hp w T t cs nx s).2.1 12 p 4 = vI (s + 1) := by
  rw [rhC_v (by decide)]
  unfold enC
  rw [upC_eq]
theorem rhC_n5 (hne : n ≠ p) : (rhC c n p a hp w T t cs nx s).2.1 12 n 5 = vI T := by
  unfold rhC
  rw [upC_ne (by omega), upC_eq]
theorem rhC_p5 : (rhC c n p a hp w T t cs nx s).2.1 12 p 5 = vI T := upC_eq _ _ _ _ _
end Rhc
set_option maxHeartbeats 2000000 in
theorem Tr_move1 {b T0 N0 : Nat} {c : CS} {ρ : RS} {na : Nat → Option Nat} {cs ad : Nat → Nat → Nat} {qs : Nat → Nat} {oc : Nat → Option Nat} {dt : Nat → Nat → Int} (hTr : TrOk b T0 N0 c ρ na cs ad qs oc dt) (hA : AU ρ) {n p0 t : Nat} (hn1 : 1 ≤ n) (hn2 : n < 256) (hnk : ρ.2 1 0 n ≠ 0) (hp0 : ρ.2 2 0 n = p0) (ht : t < qs p0) (hc : cs p0 t = n) : ∀ m, m < 256 → ρ.2 1 0 m ≠ 0 → DirOk (tkC (upC c 1 0 2 (vI (ρ.1 7 + 1))) p0 t (cs p0) (va_rf (ptr (ad p0) (t + 1) (qs p0))) (rEnt ρ p0) (ρ.1 7 + 1)) (upA ρ 2 0 n (-1)) na ((setF cs p0 (delN (cs p0) t)) m) ((setF ad p0 (delN (ad p0) t)) m) ((setF qs p0 (qs p0 - 1)) m) m ∧ ∀ i, i < (setF qs p0 (qs p0 - 1)) m → (setF cs p0 (delN (cs p0) t)) m i ≠ n := by
  obtain ⟨hP, hT, h0, hpp, hD, hO⟩ := hTr
  have tn := hT n hn2
  have hp2 : p0 < 256 := by omega
  have hpk : ρ.2 1 0 p0 = 2 := by
    have := hpp n hn2 (by omega) hnk
    rwa [hp0, Int.toNat_natCast] at this
  have dpc := hD p0 hp2 (by rw [hpk]; decide)
  have cp : ∀ i, i < qs p0 → cs p0 i ≠ p0 := fun i hi z => by
    obtain ⟨g1, g2, g3, g4⟩ := dpc.1.1 i hi
    rw [z] at g1 g3 g4
    exact self_no hT hA g1 hp2 g3 g4
  have hd : DifN ρ (upA ρ 2 0 n (-1)) n := fun m hm => by
    rw [upA_g, upA_g, upA_g]
    exact ⟨if_neg (by omega), if_neg (by omega), if_neg (by omega)⟩
  exact Dir_del (c := upC c 1 0 2 (vI (ρ.1 7 + 1))) (c' := (tkC (upC c 1 0 2 (vI (ρ.1 7 + 1))) p0 t (cs p0) (va_rf (ptr (ad p0) (t + 1) (qs p0))) (rEnt ρ p0) (ρ.1 7 + 1))) (ρ1 := upA ρ 2 0 n (-1)) (s := (rEnt ρ p0 : Nat)) (D := fun m => ρ.2 1 0 m ≠ 0) (fun m hm hk => Dir_c (hD m hm hk) (fun i hi x hx => hx) (upC_ne (by omega)) (fun i hi => ⟨upC_ne (by omega), upC_ne (by omega)⟩)) hp2 (by rw [hpk]; decide) hd hn1 hn2 (fun m z => by have z2 := z.2; rw [upA_g, if_pos ⟨rfl, rfl, rfl⟩] at z2; omega) hnk hp0 ht hc cp (fun x y hx => by rw [tkC_1]; exact hx) (fun m => by rw [tkC_v (by decide)]) (fun m => by rw [tkC_v (by decide), lvC_3]) (fun m => by rw [tkC_v (by decide)])
set_option maxHeartbeats 2000000 in
theorem Tr_move {b T0 N0 : Nat} {c : CS} {ρ : RS} {na : Nat → Option Nat} {cs ad : Nat → Nat → Nat} {qs : Nat → Nat} {oc : Nat → Option Nat} {dt : Nat → Nat → Int} (hTr : TrOk b T0 N0 c ρ na cs ad qs oc dt) (hA : AU ρ) (hF : TF c ρ oc) {n p0 p a hp t t2 t3 : Nat} {w : Int} (hn1 : 1 ≤ n) (hn2 : n < 256) (hnk : ρ.2 1 0 n ≠ 0) (hp0 : ρ.2 2 0 n = p0) (ht : t < qs p0) (hc : cs p0 t = n) (hp2 : p < 256) (hpk : ρ.2 1 0 p = 2) (hna : na n = some a) (hpa : na p = some hp) (w1 : 1 ≤ w) (w2 : w ≤ 30000) (hne : ∀ j, j < (setF qs p0 (qs p0 - 1)) p → ρ.2 3 0 ((setF cs p0 (delN (cs p0) t)) p j) ≠ w) (ht2 : t2 ≤ (setF qs p0 (qs p0 - 1)) p) (hlt : ∀ j, j < t2 → ρ.2 3 0 ((setF cs p0 (delN (cs p0) t)) p j) < w) (hge : t2 < (setF qs p0 (qs p0 - 1)) p → w ≤ ρ.2 3 0 ((setF cs p0 (delN (cs p0) t)) p t2)) (hs : ∀ s, s < t3 → (upN ρ s (p : Int)).toNat ≠ n) (h3 : upN ρ t3 (p : Int) = 0) (t0 : 0 ≤ ρ.1 7) (tt : ρ.1 7 + 1 ≤ 100000) : TrOk b T0 N0 (rhC (tkC (upC c 1 0 2 (vI (ρ.1 7 + 1))) p0 t (cs p0) (va_rf (ptr (ad p0) (t + 1) (qs p0))) (rEnt ρ p0) (ρ.1 7 + 1)) n p a hp w (ρ.1 7 + 1) t2 ((setF cs p0 (delN (cs p0) t)) p) (va_rf (ptr ((setF ad p0 (delN (ad p0) t)) p) t2 ((setF qs p0 (qs p0 - 1)) p))) ((setF qs p0 (qs p0 - 1)) p : Nat)) (rMove ρ n p w) na (setF (setF cs p0 (delN (cs p0) t)) p (insN ((setF cs p0 (delN (cs p0) t)) p) t2 n)) (setF (setF ad p0 (delN (ad p0) t)) p (insN ((setF ad p0 (delN (ad p0) t)) p) t2 a)) (setF (setF qs p0 (qs p0 - 1)) p ((setF qs p0 (qs p0 - 1)) p + 1)) oc dt ∧ AU (rMove ρ n p w) ∧ TF (rhC (tkC (upC c 1 0 2 (vI (ρ.1 7 + 1))) p0 t (cs p0) (va_rf (ptr (ad p0) (t + 1) (qs p0))) (rEnt ρ p0) (ρ.1 7 + 1)) n p a hp w (ρ.1 7 + 1) t2 ((setF cs p0 (delN (cs p0) t)) p) (va_rf (ptr ((setF ad p0 (delN (ad p0) t)) p) t2 ((setF qs p0 (qs p0 - 1)) p))) ((setF qs p0 (qs p0 - 1)) p : Nat)) (rMove ρ n p w) oc := by
  have st1 := Tr_move1 hTr hA hn1 hn2 hnk hp0 ht hc
  have hTr0 := hTr
  obtain ⟨hP, hT, h0, hpp, hD, hO⟩ := hTr
  have hd := rMv_d ρ n p w
  have tn := hT n hn2
  have hp02 : p0 < 256 := by omega
  have hp0k : ρ.2 1 0 p0 = 2 := by
    have := hpp n hn2 (by omega) hnk
    rwa [hp0, Int.toNat_natCast] at this
  have hnp0 : n ≠ p0 := fun z => self_no hT hA hn1 hn2 hnk (by rw [hp0, z])
  have hnp : n ≠ p := fun z => by
    by_cases e : t3 = 0
    · subst e
      have h3 : (p : Int) = 0 := h3
      omega
    · exact hs 0 (by omega) (by show (p : Int).toNat = n; omega)
  have ex : ∀ m, (rMove ρ n p w).2 1 0 m = ρ.2 1 0 m := fun m => rMv_o ρ n p w 0 m (by decide) (by decide) (by decide)
  have c2f : ∀ m f, f ≠ 7 → f ≠ 8 → ¬ (m = p0 ∧ (f = 4 ∨ f = 5)) → (tkC (upC c 1 0 2 (vI (ρ.1 7 + 1))) p0 t (cs p0) (va_rf (ptr (ad p0) (t + 1) (qs p0))) (rEnt ρ p0) (ρ.1 7 + 1)).2.1 12 m f = c.2.1 12 m f := fun m f h7 h8 h5 => by rw [tkC_o h7 h8 h5, upC_ne (by omega)]
  have own : (rhC (tkC (upC c 1 0 2 (vI (ρ.1 7 + 1))) p0 t (cs p0) (va_rf (ptr (ad p0) (t + 1) (qs p0))) (rEnt ρ p0) (ρ.1 7 + 1)) n p a hp w (ρ.1 7 + 1) t2 ((setF cs p0 (delN (cs p0) t)) p) (va_rf (ptr ((setF ad p0 (delN (ad p0) t)) p) t2 ((setF qs p0 (qs p0 - 1)) p))) ((setF qs p0 (qs p0 - 1)) p : Nat)).1 = c.1 := by rw [rhC_1, tkC_1]; rfl
  have d1 : DifN (upA ρ 2 0 n (-1)) (rMove ρ n p w) n := fun m hm => by
    rw [upA_g, upA_g, upA_g, if_neg (by omega), if_neg (by omega), if_neg (by omega)]
    exact hd m hm
  obtain ⟨dP, ncP⟩ := st1 p hp2 (by rw [hpk]; decide)
  have nm1 : ∀ x, (upA ρ 2 0 n (-1)).2 3 0 x = ρ.2 3 0 x := fun x => by rw [upA_g, if_neg (by omega)]
  have kd1 : ∀ x, (upA ρ 2 0 n (-1)).2 1 0 x = ρ.2 1 0 x := fun x => by rw [upA_g, if_neg (by omega)]
  have par1 : ∀ m : Nat, ¬ ((upA ρ 2 0 n (-1)).2 1 0 n ≠ 0 ∧ (upA ρ 2 0 n (-1)).2 2 0 n = m) := fun m z => by
    have z2 := z.2
    rw [upA_g, if_pos ⟨rfl, rfl, rfl⟩] at z2
    omega
  have cpD : ∀ i, i < (setF qs p0 (qs p0 - 1)) p → (setF cs p0 (delN (cs p0) t)) p i ≠ p := fun i hi z => by
    obtain ⟨g1, g2, g3, g4⟩ := dP.1.1 i hi
    have ncz := ncP i hi
    rw [upA_g, if_neg (fun y => ncz y.2.2)] at g4
    rw [kd1] at g3
    rw [z] at g1 g3 g4
    exact self_no hT hA g1 hp2 g3 g4
  have pN2 : (rMove ρ n p w).2 2 0 n = p := by rw [rMv_2, if_pos rfl]
  have dirs : ∀ m, m < 256 → ρ.2 1 0 m ≠ 0 → DirOk (rhC (tkC (upC c 1 0 2 (vI (ρ.1 7 + 1))) p0 t (cs p0) (va_rf (ptr (ad p0) (t + 1) (qs p0))) (rEnt ρ p0) (ρ.1 7 + 1)) n p a hp w (ρ.1 7 + 1) t2 ((setF cs p0 (delN (cs p0) t)) p) (va_rf (ptr ((setF ad p0 (delN (ad p0) t)) p) t2 ((setF qs p0 (qs p0 - 1)) p))) ((setF qs p0 (qs p0 - 1)) p : Nat)) (rMove ρ n p w) na (setF (setF cs p0 (delN (cs p0) t)) p (insN ((setF cs p0 (delN (cs p0) t)) p) t2 n) m) (setF (setF ad p0 (delN (ad p0) t)) p (insN ((setF ad p0 (delN (ad p0) t)) p) t2 a) m) (setF (setF qs p0 (qs p0 - 1)) p ((setF qs p0 (qs p0 - 1)) p + 1) m) m := fun m hm hmk => by
    by_cases e : m = p
    · subst e
      rw [setF_eq, setF_eq, setF_eq]
      refine ⟨Kids_ins dP.1 d1 hn1 hn2 (by rw [ex]; exact hnk) pN2 (by rw [rMv_3, if_pos rfl]) w1 ncP ht2 (fun j hj => by rw [nm1]; exact hlt j hj) (fun z => by rw [nm1]; exact hge z) (fun j hj => by rw [nm1]; exact hne j hj), ?_, ?_, fun i hi => ?_⟩
      · rw [rEnt_ins d1 hn1 hn2 ⟨by rw [ex]; exact hnk, pN2⟩ (par1 m), dP.2.1]
      · obtain ⟨xa, hxa⟩ := na_ne hTr0 hn2 hnk
        have oA : c.1 a = some (12, n) := by
          have e1 := hxa.1
          rw [hna] at e1
          cases e1
          exact hxa.2.2.1
        refine Chn_ins (c := (tkC (upC c 1 0 2 (vI (ρ.1 7 + 1))) p0 t (cs p0) (va_rf (ptr (ad p0) (t + 1) (qs p0))) (rEnt ρ p0) (ρ.1 7 + 1))) (hp := hp) (w := w) (s := ((setF qs p0 (qs p0 - 1)) m : Nat)) dP.2.2.1 hnp ncP (Kids_inj dP.1) ht2 (by omega) (by omega) (fun x y hx => by rw [rhC_1]; exact hx) (by rw [own]; exact oA) (rhC_v (by decide)) (fun x hx => ⟨rhC_v (by decide), rhC_v (by decide)⟩) cpD (fun i hi => ?_) ?_ (fun i hi hi2 => ?_)
        · show (rMove ρ n m w).2 3 0 (insN ((setF cs p0 (delN (cs p0) t)) m) t2 n i) = (upA ρ 2 0 n (-1)).2 3 0 ((setF cs p0 (delN (cs p0) t)) m i)
          rw [ins_lt hi, rMv_3, if_neg (ncP i (by omega)), nm1]
        · show (rMove ρ n m w).2 3 0 (insN ((setF cs p0 (delN (cs p0) t)) m) t2 n t2) = w
          rw [ins_eq, rMv_3, if_pos rfl]
        · show (rMove ρ n m w).2 3 0 (insN ((setF cs p0 (delN (cs p0) t)) m) t2 n i) = (upA ρ 2 0 n (-1)).2 3 0 ((setF cs p0 (delN (cs p0) t)) m (i - 1))
          rw [ins_gt hi, rMv_3, if_neg (ncP (i - 1) (by omega)), nm1]
      · rcases Nat.lt_trichotomy i t2 with z | z | z
        · rw [ins_lt z, ins_lt z]
          exact dP.2.2.2 i (by omega)
        · subst z
          rw [ins_eq, ins_eq, hna]
        · rw [ins_gt z, ins_gt z]
          exact dP.2.2.2 (i - 1) (by omega)
    · rw [setF_ne e, setF_ne e, setF_ne e]
      obtain ⟨dm, nc⟩ := st1 m hm hmk
      have ncp : ∀ i, i < (setF qs p0 (qs p0 - 1)) m → ¬ (t2 ≠ 0 ∧ (setF cs p0 (delN (cs p0) t)) m i = (setF cs p0 (delN (cs p0) t)) p (t2 - 1)) := fun i hi z => by
        have g1 := (dm.1.1 i hi).2.2.2
        have g2 := (dP.1.1 (t2 - 1) (by omega)).2.2.2
        rw [z.2, g2] at g1
        omega
      refine ⟨Kids_same dm.1 d1 (fun z => by rw [pN2] at z; exact e (by omega)) nc, ?_, ?_, dm.2.2.2⟩
      · rw [rEnt_same d1 ⟨fun z => by rw [pN2] at z; exact absurd z.2 (by omega), fun z => absurd z (par1 m)⟩]
        exact dm.2.1
      · refine ⟨?_, fun i hi => ?_⟩
        · rw [rhC_v (by decide), enC_7, if_neg (fun z => e z.1)]
          exact dm.2.2.1.1
        · obtain ⟨b1, b2, b3, b4, b5⟩ := dm.2.2.1.2 i hi
          have n1 := nc i hi
          have pnm : (rMove ρ n p w).2 3 0 ((setF cs p0 (delN (cs p0) t)) m i) = (upA ρ 2 0 n (-1)).2 3 0 ((setF cs p0 (delN (cs p0) t)) m i) := by rw [rMv_3, if_neg n1, nm1]
          refine ⟨by rw [rhC_1]; exact b1, ?_, ?_, ?_, ?_⟩
          · show _ = vI ((rMove ρ n p w).2 3 0 ((setF cs p0 (delN (cs p0) t)) m i))
            rw [rhC_v (by decide), enC_3, if_neg n1, pnm]; exact b2
          · rw [rhC_v (by decide), enC_8, if_neg (ncp i hi), if_neg n1]; exact b3
          · show 0 ≤ (rMove ρ n p w).2 3 0 ((setF cs p0 (delN (cs p0) t)) m i)
            rw [pnm]; exact b4
          · show (rMove ρ n p w).2 3 0 ((setF cs p0 (delN (cs p0) t)) m i) ≤ 100000
            rw [pnm]; exact b5
  have f12 : ∀ m f, f ≠ 7 → f ≠ 8 → ¬ (m = p0 ∧ (f = 4 ∨ f = 5)) → ¬ (m = p ∧ (f = 4 ∨ f = 5)) → ¬ (m = n ∧ (f = 2 ∨ f = 3 ∨ f = 5)) → (rhC (tkC (upC c 1 0 2 (vI (ρ.1 7 + 1))) p0 t (cs p0) (va_rf (ptr (ad p0) (t + 1) (qs p0))) (rEnt ρ p0) (ρ.1 7 + 1)) n p a hp w (ρ.1 7 + 1) t2 ((setF cs p0 (delN (cs p0) t)) p) (va_rf (ptr ((setF ad p0 (delN (ad p0) t)) p) t2 ((setF qs p0 (qs p0 - 1)) p))) ((setF qs p0 (qs p0 - 1)) p : Nat)).2.1 12 m f = c.2.1 12 m f := fun m f h7 h8 h5 h55 hn => by rw [rhC_o hn h7 h8 h55, c2f m f h7 h8 h5]
  refine ⟨⟨⟨by rw [own]; exact hP.1, ?_, by rw [own]; exact hP.2.2.1, ?_, ?_, fun m hm => ?_⟩, fun m hm => ?_, ⟨?_, ?_, ?_⟩, fun m hm hm0 hmk => ?_, fun m hm hmk => dirs m hm (by rw [ex] at hmk; exact hmk), fun m hm hmk => ?_⟩, AU_move hA hd pN2 (ex n) hs h3, fun m hm hmk x => ?_, fun m hm hmk x => ?_⟩
  · rw [rhC_k (by decide), tkC_k (by decide), upC_ne (by omega)]; exact hP.2.1
  · rw [rhC_k (by decide), tkC_k (by decide), upC_ne (by omega), hP.2.2.2.1]
    exact congrArg (fun z : Nat => vI (z : Int)) (cnt_congr 256 0 (fun j _ _ => by rw [ex j]))
  · rw [rhC_k (by decide), tkC_k (by decide), upC_eq, rMv_F, if_pos rfl]
  · rcases hP.2.2.2.2.2 m hm with h | ⟨x, h⟩
    · left
      exact ⟨h.1, by rw [rhC_k (by decide), tkC_k (by decide), upC_ne (by omega)]; exact h.2.1, by rw [ex]; exact h.2.2⟩
    · right
      obtain ⟨i1, i2, oA, i4, f0, f1, f2, f3, f4, f5⟩ := h
      refine ⟨x, i1, by rw [rhC_k (by decide), tkC_k (by decide), upC_ne (by omega)]; exact i2, by rw [own]; exact oA, by rw [ex]; exact i4, ?_, ?_, ?_, ?_, ?_, ?_⟩
      · rw [f12 m 0 (by decide) (by decide) (by omega) (by omega) (by omega)]; exact f0
      · rw [f12 m 1 (by decide) (by decide) (by omega) (by omega) (by omega), ex]; exact f1
      · by_cases e : m = n
        · subst e
          rw [rhC_n2 hnp, if_neg (by omega), pN2, Int.toNat_natCast, hpa]
          rfl
        · rw [f12 m 2 (by decide) (by decide) (by omega) (by omega) (by omega), f2, (hd m e).2.1]
      · by_cases e : m = n
        · subst e
          rw [rhC_v (by decide), enC_3, if_pos rfl, rMv_3, if_pos rfl]
        · rw [f12 m 3 (by decide) (by decide) (by omega) (by omega) (by omega), (hd m e).2.2]; exact f3
      · have dm := dirs m hm i4
        have dm0 := hD m hm i4
        by_cases ep : m = p
        · subst ep
          rw [rhC_p4]
          unfold szv
          rw [ex, hpk, if_neg (by decide), dm.2.1, setF_eq]
          rfl
        · by_cases ep0 : m = p0
          · subst ep0
            rw [rhC_o (by omega) (by decide) (by decide) (by omega), tkC_4]
            unfold szv
            rw [ex, hp0k, if_neg (by decide), dm.2.1, setF_ne ep, setF_eq]
            have := dm0.2.1
            exact congrArg vI (by omega)
          · rw [f12 m 4 (by decide) (by decide) (by omega) (by omega) (by omega), szv_c (ex m) (rMv_o ρ n p w 0 m (by decide) (by decide) (by decide)) (by rw [dm.2.1, setF_ne ep, setF_ne ep0, dm0.2.1])]; exact f4
      · rw [rMv_5, hp0, Int.toNat_natCast]
        by_cases e : m = n
        · subst e
          rw [rhC_n5 hnp, if_pos (Or.inl rfl)]
        · by_cases ep : m = p
          · subst ep
            rw [rhC_p5, if_pos (Or.inr (Or.inl rfl))]
          · by_cases ep0 : m = p0
            · subst ep0
              rw [rhC_o (by omega) (by decide) (by decide) (by omega), tkC_5, if_pos (Or.inr (Or.inr rfl))]
            · rw [f12 m 5 (by decide) (by decide) (by omega) (by omega) (by omega), if_neg (by omega)]; exact f5
  · have t1 := hT m hm
    rw [ex, rMv_2, rMv_3, rMv_5, rMv_o ρ n p w 0 m (by decide) (by decide) (by decide)]
    by_cases e : m = n
    · rw [if_pos e, if_pos e, if_pos (Or.inl e)]
      omega
    · rw [if_neg e, if_neg e]
      split <;> omega
  · rw [ex]; exact h0.1
  · rw [(hd 0 (by omega)).2.1]; exact h0.2.1
  · rw [(hd 0 (by omega)).2.2]; exact h0.2.2
  · rw [ex] at hmk
    rw [ex]
    by_cases e : m = n
    · rw [e, pN2, Int.toNat_natCast, hpk]
    · rw [(hd m e).2.1]
      exact hpp m hm hm0 hmk
  · rw [ex] at hmk
    refine ⟨OctOk_c (hO m hm hmk).1 (f12 m 6 (by decide) (by decide) (by omega) (by omega) (by omega)) (rMv_o ρ n p w 0 m (by decide) (by decide) (by decide)) (fun k => rMv_o ρ n p w m k (by decide) (by decide) (by decide)) (fun x y hx => by rw [own]; exact hx) (fun k => by rw [rhC_k (by decide), tkC_k (by decide), upC_ne (by omega)]), (hO m hm hmk).2⟩
  · rw [own]
    rw [ex] at hmk
    exact hF.1 m hm hmk x
  · rw [own]
    rw [ex] at hmk
    exact hF.2 m hm hmk x
