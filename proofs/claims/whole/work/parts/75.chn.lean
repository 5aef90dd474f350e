/-! chains with one more, one fewer -/
def insN (f : Nat → Nat) (t x : Nat) : Nat → Nat := fun i => if i < t then f i else if i = t then x else f (i - 1)
def delN (f : Nat → Nat) (t : Nat) : Nat → Nat := fun i => if i < t then f i else f (i + 1)
theorem ins_lt {f : Nat → Nat} {t x i : Nat} (h : i < t) : insN f t x i = f i := if_pos h
theorem ins_eq (f : Nat → Nat) (t x : Nat) : insN f t x t = x := by unfold insN; rw [if_neg (Nat.lt_irrefl _), if_pos rfl]
theorem ins_gt {f : Nat → Nat} {t x i : Nat} (h : t < i) : insN f t x i = f (i - 1) := by unfold insN; rw [if_neg (by omega), if_neg (by omega)]
theorem del_lt {f : Nat → Nat} {t i : Nat} (h : i < t) : delN f t i = f i := if_pos h
theorem del_ge {f : Nat → Nat} {t i : Nat} (h : t ≤ i) : delN f t i = f (i + 1) := by unfold delN; rw [if_neg (by omega)]
/-- trees that differ at n only -/
def DifN (ρ ρ' : RS) (n : Nat) : Prop := ∀ m, m ≠ n → ρ'.2 1 0 m = ρ.2 1 0 m ∧ ρ'.2 2 0 m = ρ.2 2 0 m ∧ ρ'.2 3 0 m = ρ.2 3 0 m
theorem cnt_up {p p' : Nat → Prop} [DecidablePred p] [DecidablePred p'] {n : Nat} (h1 : ∀ j, j ≠ n → (p' j ↔ p j)) (h2 : p' n) (h3 : ¬ p n) : ∀ m k : Nat, k ≤ n → n < k + m → cnt p' k m = cnt p k m + 1
  | 0, k, h4, h5 => by omega
  | m + 1, k, h4, h5 => by
    rw [cnt_pos_s, cnt_pos_s]
    by_cases e : k = n
    · subst e
      rw [if_pos h2, if_neg h3, cnt_congr (p := p') (q := p) m (k + 1) (fun j j1 _ => h1 j (by omega))]
      omega
    · rw [cnt_up h1 h2 h3 m (k + 1) (by omega) (by omega)]
      have : (if p' k then 1 else 0) = (if p k then 1 else 0) := by
        by_cases z : p k
        · rw [if_pos z, if_pos ((h1 k e).mpr z)]
        · rw [if_neg z, if_neg (fun y => z ((h1 k e).mp y))]
      omega
theorem Kids_ins {ρ ρ' : RS} {p n q t : Nat} {cs : Nat → Nat} {w : Int} (hK : Kids ρ p cs q) (hd : DifN ρ ρ' n) (h1 : 1 ≤ n) (h2 : n < 256) (k1 : ρ'.2 1 0 n ≠ 0) (k2 : ρ'.2 2 0 n = p) (k3 : ρ'.2 3 0 n = w) (w1 : 1 ≤ w) (hnc : ∀ i, i < q → cs i ≠ n) (ht : t ≤ q) (hlt : ∀ j, j < t → ρ.2 3 0 (cs j) < w) (hge : t < q → w ≤ ρ.2 3 0 (cs t)) (hne : ∀ j, j < q → ρ.2 3 0 (cs j) ≠ w) : Kids ρ' p (insN cs t n) (q + 1) := by
  obtain ⟨a1, a2, a3, a4⟩ := hK
  have nm : ∀ i, i < q → ρ'.2 3 0 (cs i) = ρ.2 3 0 (cs i) := fun i hi => (hd _ (hnc i hi)).2.2
  have gt : ∀ i, t ≤ i → i < q → w < ρ.2 3 0 (cs i) := fun i i1 i2 => by
    have g1 := hge (by omega)
    have g2 := hne i i2
    rcases Nat.lt_or_ge t i with z | z
    · have := a2 t i z i2
      omega
    · obtain rfl : i = t := by omega
      omega
  refine ⟨fun i hi => ?_, fun i j hij hj => ?_, fun m m1 m2 m3 m4 => ?_, fun i hi => ?_⟩
  · rcases Nat.lt_trichotomy i t with z | z | z
    · rw [ins_lt z]
      have := hd _ (hnc i (by omega))
      rw [this.1, this.2.1]
      exact a1 i (by omega)
    · subst z
      rw [ins_eq]
      exact ⟨h1, h2, k1, k2⟩
    · rw [ins_gt z]
      have := hd _ (hnc (i - 1) (by omega))
      rw [this.1, this.2.1]
      exact a1 (i - 1) (by omega)
  · rcases Nat.lt_trichotomy i t with z | z | z
    · rw [ins_lt z, nm i (by omega)]
      rcases Nat.lt_trichotomy j t with y | y | y
      · rw [ins_lt y, nm j (by omega)]
        exact a2 i j hij (by omega)
      · subst y
        rw [ins_eq, k3]
        exact hlt i z
      · rw [ins_gt y, nm _ (by omega)]
        have := hlt i z
        have := gt (j - 1) (by omega) (by omega)
        omega
    · subst z
      rw [ins_eq, ins_gt hij, k3, nm _ (by omega)]
      exact gt (j - 1) (by omega) (by omega)
    · rw [ins_gt z, ins_gt (by omega), nm _ (by omega), nm _ (by omega)]
      exact a2 (i - 1) (j - 1) (by omega) (by omega)
  · by_cases e : m = n
    · exact ⟨t, by omega, by rw [ins_eq]; exact e⟩
    · have := hd m e
      rw [this.1] at m3
      rw [this.2.1] at m4
      obtain ⟨i, i1, i2⟩ := a3 m m1 m2 m3 m4
      rcases Nat.lt_or_ge i t with z | z
      · exact ⟨i, by omega, by rw [ins_lt z]; exact i2⟩
      · exact ⟨i + 1, by omega, by rw [ins_gt (by omega), Nat.add_sub_cancel]; exact i2⟩
  · rcases Nat.lt_trichotomy i t with z | z | z
    · rw [ins_lt z, nm i (by omega)]
      exact a4 i (by omega)
    · subst z
      rw [ins_eq, k3]
      exact w1
    · rw [ins_gt z, nm _ (by omega)]
      exact a4 (i - 1) (by omega)
theorem Kids_del {ρ ρ' : RS} {p n q t : Nat} {cs : Nat → Nat} (hK : Kids ρ p cs q) (hd : DifN ρ ρ' n) (hn : ¬ (ρ'.2 1 0 n ≠ 0 ∧ ρ'.2 2 0 n = p)) (ht : t < q) (hc : cs t = n) : Kids ρ' p (delN cs t) (q - 1) := by
  obtain ⟨a1, a2, a3, a4⟩ := hK
  have ne : ∀ i, i < q → i ≠ t → cs i ≠ n := fun i hi hit z => by
    rcases Nat.lt_or_ge i t with y | y
    · have := a2 i t y ht
      rw [z, hc] at this
      omega
    · have := a2 t i (by omega) hi
      rw [z, hc] at this
      omega
  have pos : ∀ i, i < q - 1 → ∃ j, j < q ∧ j ≠ t ∧ delN cs t i = cs j ∧ (j = i ∨ j = i + 1) := fun i hi => by
    rcases Nat.lt_or_ge i t with y | y
    · exact ⟨i, by omega, by omega, del_lt y, Or.inl rfl⟩
    · exact ⟨i + 1, by omega, by omega, del_ge y, Or.inr rfl⟩
  refine ⟨fun i hi => ?_, fun i j hij hj => ?_, fun m m1 m2 m3 m4 => ?_, fun i hi => ?_⟩
  · obtain ⟨j, j1, j2, j3, -⟩ := pos i hi
    have := hd _ (ne j j1 j2)
    rw [j3, this.1, this.2.1]
    exact a1 j j1
  · have o1 : ∃ x y, x < q ∧ y < q ∧ x ≠ t ∧ y ≠ t ∧ x < y ∧ delN cs t i = cs x ∧ delN cs t j = cs y := by
      rcases Nat.lt_or_ge i t with z | z
      · rcases Nat.lt_or_ge j t with y | y
        · exact ⟨i, j, by omega, by omega, by omega, by omega, hij, del_lt z, del_lt y⟩
        · exact ⟨i, j + 1, by omega, by omega, by omega, by omega, by omega, del_lt z, del_ge y⟩
      · exact ⟨i + 1, j + 1, by omega, by omega, by omega, by omega, by omega, del_ge z, del_ge (by omega)⟩
    obtain ⟨x, y, x1, y1, x2, y2, xy, x3, y3⟩ := o1
    rw [x3, y3, (hd _ (ne x x1 x2)).2.2, (hd _ (ne y y1 y2)).2.2]
    exact a2 x y xy y1
  · by_cases e : m = n
    · subst e
      exact absurd ⟨m3, m4⟩ hn
    · have := hd m e
      rw [this.1] at m3
      rw [this.2.1] at m4
      obtain ⟨i, i1, i2⟩ := a3 m m1 m2 m3 m4
      have it : i ≠ t := fun z => e (by rw [i2, z, hc])
      rcases Nat.lt_or_ge i t with z | z
      · exact ⟨i, by omega, by rw [del_lt z]; exact i2⟩
      · exact ⟨i - 1, by omega, by rw [del_ge (by omega), show i - 1 + 1 = i by omega]; exact i2⟩
  · obtain ⟨j, j1, j2, j3, -⟩ := pos i hi
    rw [j3, (hd _ (ne j j1 j2)).2.2]
    exact a4 j j1
theorem Kids_same {ρ ρ' : RS} {p n q : Nat} {cs : Nat → Nat} (hK : Kids ρ p cs q) (hd : DifN ρ ρ' n) (hn : ¬ (ρ'.2 1 0 n ≠ 0 ∧ ρ'.2 2 0 n = p)) (hnc : ∀ i, i < q → cs i ≠ n) : Kids ρ' p cs q := by
  obtain ⟨a1, a2, a3, a4⟩ := hK
  refine ⟨fun i hi => ?_, fun i j hij hj => ?_, fun m m1 m2 m3 m4 => ?_, fun i hi => ?_⟩
  · have := hd _ (hnc i hi)
    rw [this.1, this.2.1]
    exact a1 i hi
  · rw [(hd _ (hnc i (by omega))).2.2, (hd _ (hnc j hj)).2.2]
    exact a2 i j hij hj
  · by_cases e : m = n
    · subst e
      exact absurd ⟨m3, m4⟩ hn
    · have := hd m e
      rw [this.1] at m3
      rw [this.2.1] at m4
      exact a3 m m1 m2 m3 m4
  · rw [(hd _ (hnc i hi)).2.2]
    exact a4 i hi
theorem rEnt_ins {ρ ρ' : RS} {p n : Nat} (hd : DifN ρ ρ' n) (h1 : 1 ≤ n) (h2 : n < 256) (k : ρ'.2 1 0 n ≠ 0 ∧ ρ'.2 2 0 n = p) (k0 : ¬ (ρ.2 1 0 n ≠ 0 ∧ ρ.2 2 0 n = p)) : rEnt ρ' p = rEnt ρ p + 1 := cnt_up (fun j hj => by rw [(hd j hj).1, (hd j hj).2.1]) k k0 255 1 h1 (by omega)
theorem rEnt_del {ρ ρ' : RS} {p n : Nat} (hd : DifN ρ ρ' n) (h1 : 1 ≤ n) (h2 : n < 256) (k : ¬ (ρ'.2 1 0 n ≠ 0 ∧ ρ'.2 2 0 n = p)) (k0 : ρ.2 1 0 n ≠ 0 ∧ ρ.2 2 0 n = p) : rEnt ρ p = rEnt ρ' p + 1 := cnt_up (fun j hj => by rw [(hd j hj).1, (hd j hj).2.1]) k0 k 255 1 h1 (by omega)
theorem rEnt_same {ρ ρ' : RS} {p n : Nat} (hd : DifN ρ ρ' n) (k : (ρ'.2 1 0 n ≠ 0 ∧ ρ'.2 2 0 n = p) ↔ (ρ.2 1 0 n ≠ 0 ∧ ρ.2 2 0 n = p)) : rEnt ρ' p = rEnt ρ p := cnt_congr 255 1 (fun j _ _ => by
  by_cases e : j = n
  · subst e; exact k
  · rw [(hd j e).1, (hd j e).2.1])
theorem ptr_lt {ad : Nat → Nat} {i q : Nat} (h : i < q) : ptr ad i q = some (ad i) := if_pos h
theorem ptr_ge {ad : Nat → Nat} {i q : Nat} (h : q ≤ i) : ptr ad i q = none := if_neg (by omega)
theorem ptr_ins {ad : Nat → Nat} {t a q : Nat} (ht : t ≤ q) (i : Nat) : ptr (insN ad t a) i (q + 1) = if i < t then some (ad i) else if i = t then some a else ptr ad (i - 1) q := by
  rcases Nat.lt_trichotomy i t with z | z | z
  · rw [ptr_lt (by omega), ins_lt z, if_pos z]
  · subst z
    rw [ptr_lt (by omega), ins_eq, if_neg (Nat.lt_irrefl _), if_pos rfl]
  · rw [if_neg (by omega), if_neg (by omega)]
    rcases Nat.lt_or_ge i (q + 1) with y | y
    · rw [ptr_lt y, ins_gt z, ptr_lt (by omega)]
    · rw [ptr_ge y, ptr_ge (by omega)]
theorem ptr_del {ad : Nat → Nat} {t q : Nat} (ht : t < q) (i : Nat) : ptr (delN ad t) i (q - 1) = if i < t then some (ad i) else ptr ad (i + 1) q := by
  rcases Nat.lt_or_ge i t with z | z
  · rw [ptr_lt (by omega), del_lt z, if_pos z]
  · rw [if_neg (by omega)]
    rcases Nat.lt_or_ge i (q - 1) with y | y
    · rw [ptr_lt y, del_ge z, ptr_lt (by omega)]
    · rw [ptr_ge y, ptr_ge (by omega)]
theorem lnk_7 (c : CS) (p t : Nat) (cs : Nat → Nat) (v : Value) (m : Nat) : (lnk c p t cs v).2.1 12 m 7 = if m = p ∧ t = 0 then v else c.2.1 12 m 7 := by
  unfold lnk
  by_cases e : t = 0
  · rw [if_pos e]
    by_cases e2 : m = p
    · rw [if_pos ⟨e2, e⟩, e2, upC_eq]
    · rw [if_neg (fun z => e2 z.1), upC_ne (by omega)]
  · rw [if_neg e, if_neg (fun z => e z.2), upC_ne (by omega)]
theorem lnk_8 (c : CS) (p t : Nat) (cs : Nat → Nat) (v : Value) (m : Nat) : (lnk c p t cs v).2.1 12 m 8 = if t ≠ 0 ∧ m = cs (t - 1) then v else c.2.1 12 m 8 := by
  unfold lnk
  by_cases e : t = 0
  · rw [if_pos e, if_neg (fun z => z.1 e), upC_ne (by omega)]
  · rw [if_neg e]
    by_cases e2 : m = cs (t - 1)
    · rw [if_pos ⟨e, e2⟩, e2, upC_eq]
    · rw [if_neg (fun z => e2 z.2), upC_ne (by omega)]
theorem enC_3 (c : CS) (n p a hp : Nat) (w : Int) (t : Nat) (cs : Nat → Nat) (nx : Value) (s : Int) (m : Nat) : (enC c n p a hp w t cs nx s).2.1 12 m 3 = if m = n then vI w else c.2.1 12 m 3 := by
  unfold enC
  rw [upC_ne (by omega), lnk_ne (Or.inr ⟨by decide, by decide⟩), upC_ne (by omega)]
  by_cases e : m = n
  · rw [if_pos e, e, upC_eq]
  · rw [if_neg e, upC_ne (by omega), upC_ne (by omega)]
theorem enC_8 (c : CS) (n p a hp : Nat) (w : Int) (t : Nat) (cs : Nat → Nat) (nx : Value) (s : Int) (m : Nat) : (enC c n p a hp w t cs nx s).2.1 12 m 8 = if t ≠ 0 ∧ m = cs (t - 1) then .ref a else if m = n then nx else c.2.1 12 m 8 := by
  unfold enC
  rw [upC_ne (by omega), lnk_8]
  by_cases e2 : t ≠ 0 ∧ m = cs (t - 1)
  · rw [if_pos e2, if_pos e2]
  · rw [if_neg e2, if_neg e2]
    by_cases e : m = n
    · rw [if_pos e, e, upC_eq]
    · rw [if_neg e, upC_ne (by omega), upC_ne (by omega), upC_ne (by omega)]
theorem enC_7 (c : CS) (n p a hp : Nat) (w : Int) (t : Nat) (cs : Nat → Nat) (nx : Value) (s : Int) (m : Nat) : (enC c n p a hp w t cs nx s).2.1 12 m 7 = if m = p ∧ t = 0 then .ref a else c.2.1 12 m 7 := by
  unfold enC
  rw [upC_ne (by omega), lnk_7]
  by_cases e : m = p ∧ t = 0
  · rw [if_pos e, if_pos e]
  · rw [if_neg e, if_neg e, upC_ne (by omega), upC_ne (by omega), upC_ne (by omega)]
theorem Chn_ins {c c' : CS} {p n a hp q t : Nat} {cs ad : Nat → Nat} {nm nm' : Nat → Int} {w s : Int} (hC : Chn c p cs ad nm q) (hne : n ≠ p) (hnc : ∀ i, i < q → cs i ≠ n) (hij : ∀ i j, i < q → j < q → cs i = cs j → i = j) (ht : t ≤ q) (w1 : 0 ≤ w) (w2 : w ≤ 100000) (o1 : ∀ x y, c.1 x = some y → c'.1 x = some y) (oA : c'.1 a = some (12, n)) (v1 : c'.2.1 12 p 7 = (enC c n p a hp w t cs (va_rf (ptr ad t q)) s).2.1 12 p 7) (v3 : ∀ m, m ≠ p → c'.2.1 12 m 3 = (enC c n p a hp w t cs (va_rf (ptr ad t q)) s).2.1 12 m 3 ∧ c'.2.1 12 m 8 = (enC c n p a hp w t cs (va_rf (ptr ad t q)) s).2.1 12 m 8) (hcp : ∀ i, i < q → cs i ≠ p) (m1 : ∀ i, i < t → nm' i = nm i) (m2 : nm' t = w) (m3 : ∀ i, t < i → i ≤ q → nm' i = nm (i - 1)) : Chn c' p (insN cs t n) (insN ad t a) nm' (q + 1) := by
  have f7 : (enC c n p a hp w t cs (va_rf (ptr ad t q)) s).2.1 12 p 7 = if t = 0 then .ref a else c.2.1 12 p 7 := by
    unfold enC
    rw [upC_ne (by omega), lnk_7]
    by_cases e : t = 0
    · rw [if_pos ⟨rfl, e⟩, if_pos e]
    · rw [if_neg (fun z => e z.2), if_neg e, upC_ne (by omega), upC_ne (by omega), upC_ne (by omega)]
  have f3 : ∀ m, (enC c n p a hp w t cs (va_rf (ptr ad t q)) s).2.1 12 m 3 = if m = n then vI w else c.2.1 12 m 3 := fun m => by
    unfold enC
    rw [upC_ne (by omega), lnk_ne (Or.inr ⟨by decide, by decide⟩), upC_ne (by omega)]
    by_cases e : m = n
    · rw [if_pos e, e, upC_eq]
    · rw [if_neg e, upC_ne (by omega), upC_ne (by omega)]
  have f8 : ∀ m, (enC c n p a hp w t cs (va_rf (ptr ad t q)) s).2.1 12 m 8 = if t ≠ 0 ∧ m = cs (t - 1) then .ref a else if m = n then va_rf (ptr ad t q) else c.2.1 12 m 8 := fun m => by
    unfold enC
    rw [upC_ne (by omega), lnk_8]
    by_cases e2 : t ≠ 0 ∧ m = cs (t - 1)
    · rw [if_pos e2, if_pos e2]
    · rw [if_neg e2, if_neg e2]
      by_cases e : m = n
      · rw [if_pos e, e, upC_eq]
      · rw [if_neg e, upC_ne (by omega), upC_ne (by omega), upC_ne (by omega)]
  refine ⟨?_, fun i hi => ?_⟩
  · rw [v1, f7, ptr_ins ht]
    by_cases e : t = 0
    · rw [if_pos e, if_neg (by omega), if_pos e.symm]
      rfl
    · rw [if_neg e, if_pos (by omega), hC.1, ptr_lt (by omega)]
  · rw [ptr_ins ht]
    rcases Nat.lt_trichotomy i t with z | z | z
    · obtain ⟨b1, b2, b3, b4, b5⟩ := hC.2 i (by omega)
      have n1 := hnc i (by omega)
      rw [ins_lt z, ins_lt z, m1 i z]
      refine ⟨o1 _ _ b1, ?_, ?_, b4, b5⟩
      · rw [(v3 _ (hcp i (by omega))).1, f3, if_neg n1]; exact b2
      · rw [(v3 _ (hcp i (by omega))).2, f8]
        by_cases e : i + 1 = t
        · rw [if_pos ⟨by omega, by rw [show t - 1 = i by omega]⟩, if_neg (by omega), if_pos e]
          rfl
        · rw [if_neg (fun y => e (by have := hij i (t - 1) (by omega) (by omega) y.2; omega)), if_neg n1, if_pos (by omega), b3, ptr_lt (by omega)]
    · subst z
      rw [ins_eq, ins_eq, m2]
      refine ⟨oA, ?_, ?_, w1, w2⟩
      · rw [(v3 _ hne).1, f3, if_pos rfl]
      · rw [(v3 _ hne).2, f8, if_neg (fun y => hnc (i - 1) (by omega) y.2.symm), if_pos rfl, if_neg (by omega), if_neg (by omega), Nat.add_sub_cancel]
    · obtain ⟨b1, b2, b3, b4, b5⟩ := hC.2 (i - 1) (by omega)
      have n1 := hnc (i - 1) (by omega)
      rw [ins_gt z, ins_gt z, m3 i z (by omega)]
      refine ⟨o1 _ _ b1, ?_, ?_, b4, b5⟩
      · rw [(v3 _ (hcp (i - 1) (by omega))).1, f3, if_neg n1]; exact b2
      · rw [(v3 _ (hcp (i - 1) (by omega))).2, f8, if_neg (fun y => by have := hij (i - 1) (t - 1) (by omega) (by omega) y.2; omega), if_neg n1, if_neg (by omega), if_neg (by omega), b3, show i - 1 + 1 = i + 1 - 1 by omega]
theorem Chn_del {c c' : CS} {p q t : Nat} {cs ad : Nat → Nat} {nm nm' : Nat → Int} {s : Int} (hC : Chn c p cs ad nm q) (hij : ∀ i j, i < q → j < q → cs i = cs j → i = j) (ht : t < q) (o1 : ∀ x y, c.1 x = some y → c'.1 x = some y) (v1 : c'.2.1 12 p 7 = (lvC c p t cs (va_rf (ptr ad (t + 1) q)) s).2.1 12 p 7) (v3 : ∀ m, m ≠ p → c'.2.1 12 m 3 = (lvC c p t cs (va_rf (ptr ad (t + 1) q)) s).2.1 12 m 3 ∧ c'.2.1 12 m 8 = (lvC c p t cs (va_rf (ptr ad (t + 1) q)) s).2.1 12 m 8) (hcp : ∀ i, i < q → cs i ≠ p) (m1 : ∀ i, i < t → nm' i = nm i) (m3 : ∀ i, t ≤ i → i + 1 < q → nm' i = nm (i + 1)) : Chn c' p (delN cs t) (delN ad t) nm' (q - 1) := by
  have f7 : (lvC c p t cs (va_rf (ptr ad (t + 1) q)) s).2.1 12 p 7 = if t = 0 then va_rf (ptr ad (t + 1) q) else c.2.1 12 p 7 := by
    unfold lvC
    rw [upC_ne (by omega), lnk_7]
    by_cases e : t = 0
    · rw [if_pos ⟨rfl, e⟩, if_pos e]
    · rw [if_neg (fun z => e z.2), if_neg e]
  have f3 : ∀ m, (lvC c p t cs (va_rf (ptr ad (t + 1) q)) s).2.1 12 m 3 = c.2.1 12 m 3 := fun m => by
    unfold lvC
    rw [upC_ne (by omega), lnk_ne (Or.inr ⟨by decide, by decide⟩)]
  have f8 : ∀ m, (lvC c p t cs (va_rf (ptr ad (t + 1) q)) s).2.1 12 m 8 = if t ≠ 0 ∧ m = cs (t - 1) then va_rf (ptr ad (t + 1) q) else c.2.1 12 m 8 := fun m => by
    unfold lvC
    rw [upC_ne (by omega), lnk_8]
  refine ⟨?_, fun i hi => ?_⟩
  · rw [v1, f7, ptr_del ht]
    by_cases e : t = 0
    · rw [if_pos e, if_neg (by omega), e]
    · rw [if_neg e, if_pos (by omega), hC.1, ptr_lt (by omega)]
  · rw [ptr_del ht]
    rcases Nat.lt_or_ge i t with z | z
    · obtain ⟨b1, b2, b3, b4, b5⟩ := hC.2 i (by omega)
      rw [del_lt z, del_lt z, m1 i z]
      refine ⟨o1 _ _ b1, ?_, ?_, b4, b5⟩
      · rw [(v3 _ (hcp i (by omega))).1, f3]; exact b2
      · rw [(v3 _ (hcp i (by omega))).2, f8]
        by_cases e : i + 1 = t
        · rw [if_pos ⟨by omega, by rw [show t - 1 = i by omega]⟩, if_neg (by omega), ← e]
        · rw [if_neg (fun y => e (by have := hij i (t - 1) (by omega) (by omega) y.2; omega)), if_pos (by omega), b3, ptr_lt (by omega)]
    · obtain ⟨b1, b2, b3, b4, b5⟩ := hC.2 (i + 1) (by omega)
      rw [del_ge z, del_ge z, m3 i z (by omega)]
      refine ⟨o1 _ _ b1, ?_, ?_, b4, b5⟩
      · rw [(v3 _ (hcp (i + 1) (by omega))).1, f3]; exact b2
      · rw [(v3 _ (hcp (i + 1) (by omega))).2, f8, if_neg (fun y => by have := hij (i + 1) (t - 1) (by omega) (by omega) y.2; omega), if_neg (by omega), b3]
