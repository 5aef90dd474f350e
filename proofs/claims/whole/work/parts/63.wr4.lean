/-! all of a dump -/
def TrOk (b T0 N0 : Nat) (c : CS) (ρ : RS) (na : Nat → Option Nat) (cs ad : Nat → Nat → Nat) (qs : Nat → Nat) (oc : Nat → Option Nat) (dt : Nat → Nat → Int) : Prop := TP T0 N0 c ρ na ∧ TreeOk ρ ∧ (ρ.2 1 0 0 = 2 ∧ ρ.2 2 0 0 = 0 ∧ ρ.2 3 0 0 = 0) ∧ (∀ n, n < 256 → n ≠ 0 → ρ.2 1 0 n ≠ 0 → ρ.2 1 0 (ρ.2 2 0 n).toNat = 2) ∧ (∀ n, n < 256 → ρ.2 1 0 n ≠ 0 → DirOk c ρ na (cs n) (ad n) (qs n) n) ∧ (∀ n, n < 256 → ρ.2 1 0 n = 1 → OctOk c ρ (oc n) (dt n) n ∧ ∀ o, oc n = some o → o ≠ b)
def ndT (ρ : RS) (cs : Nat → Nat) (q n cc : Nat) : Nat → Int := if cc = 0 then fcT n (ρ.2 1 0 n) (ρ.2 3 0 n) (ρ.2 2 0 n) (szv ρ n) (ρ.2 5 0 n) else if ρ.2 1 0 n = 1 then ocB (fun i => ρ.2 6 n i % 256) zB 0 (64 * (cc - 1)) (min (ρ.2 4 0 n).toNat (64 * (cc - 1) + 64) - 64 * (cc - 1)) else enB (fun i => ρ.2 3 0 (cs i)) (fun i => (cs i : Int)) zB 0 (21 * (cc - 1)) (min q (21 * (cc - 1) + 21) - 21 * (cc - 1))
theorem nb_1 {ρ : RS} {n sz : Nat} (hk : ρ.2 1 0 n = 1) (hs : ρ.2 4 0 n = sz) : (nb ρ n).toNat = 1 + wN 64 sz := by
  unfold nb
  rw [if_pos hk, hs]
  unfold pts wN
  omega
theorem nb_2 {ρ : RS} {n q : Nat} (hk : ρ.2 1 0 n ≠ 1) (hs : rEnt ρ n = q) : (nb ρ n).toNat = 1 + wN 21 q := by
  unfold nb
  rw [if_neg hk, hs]
  unfold pts wN
  omega
section Cw4
variable {b L V0 : Nat} {xs : Nat → Int32} {Z : Nat → Prop} {g : Nat → Option AO} {c : CS} {nc ns cap fi : Nat} {bl : Nat → Nat → Int} {sp ls : Nat → Int} {H : AH} {ρ : RS} {na : Nat → Option Nat} {T0 N0 R0 D0 : Nat}
variable {cs ad : Nat → Nat → Nat} {qs : Nat → Nat} {oc : Nat → Option Nat} {dt : Nat → Nat → Int}
theorem Tr_num (hTr : TrOk b T0 N0 c ρ na cs ad qs oc dt) {n i : Nat} (hn : n < 256) (hk : ρ.2 1 0 n ≠ 0) (hi : i < qs n) : c.2.1 12 (cs n i) 0 = vI (cs n i) ∧ cs n i < 256 := by
  obtain ⟨hP, hT, h0, hp, hD, hO⟩ := hTr
  obtain ⟨k1, k2, k3, k4⟩ := (hD n hn hk).1
  obtain ⟨g1, g2, g3, g4⟩ := k1 i hi
  refine ⟨?_, g2⟩
  rcases hP.2.2.2.2.2 _ g2 with t | ⟨a, t⟩
  · exact absurd t.2.2 g3
  · exact t.2.2.2.2.1
theorem Tr_q0 (hTr : TrOk b T0 N0 c ρ na cs ad qs oc dt) {n : Nat} (hn : n < 256) (hk : ρ.2 1 0 n = 1) : qs n = 0 := by
  obtain ⟨hP, hT, h0, hp, hD, hO⟩ := hTr
  obtain ⟨k1, k2, k3, k4⟩ := (hD n hn (by rw [hk]; decide)).1
  rcases Nat.eq_zero_or_pos (qs n) with z | z
  · exact z
  · obtain ⟨g1, g2, g3, g4⟩ := k1 0 z
    have := hp _ g2 (by omega) g3
    rw [g4, Int.toNat_natCast, hk] at this
    exact absurd this (by decide)
theorem Tr_q (hTr : TrOk b T0 N0 c ρ na cs ad qs oc dt) {n : Nat} (hn : n < 256) (hk : ρ.2 1 0 n ≠ 0) : qs n ≤ 255 := by
  have h1 := (hTr.2.2.2.2.1 n hn hk).2.1
  have h2 : rEnt ρ n ≤ 255 := cnt_le _ _ _
  omega
theorem V_nd (d : Nat) (hd : 6 ≤ d) (oR : c.1 R0 = some (6, 0)) (r0 : c.2.1 6 0 0 = .ref T0) (r1 : c.2.1 6 0 1 = .ref V0) (hTr : TrOk b T0 N0 c ρ na cs ad qs oc dt) (hH : VH b V0 Z g c nc ns cap fi bl sp ls H) {n a : Nat} (hn2 : n < 256) (hn : NdIs c ρ na n a) (hw : wrO cap (fi + (nb ρ n).toNat) ≤ 4000) {k : Int} {Q : AH → RO → Prop} (kk : ∀ H bl', VH b V0 Z g c nc ns cap (fi + (nb ρ n).toNat) bl' sp ls H → (∀ q, q < fi → bl' q = bl q) → (∀ cc, cc < (nb ρ n).toNat → bl' (fi + cc) = ndT ρ (cs n) (qs n) n cc) → Wp b L xs d mi_54 55 [some (.ref R0), some (.ref D0), some (vI k), some (.ref a)] [] H Q) : Wp b L xs d mi_54 40 [some (.ref R0), some (.ref D0), some (vI k), some (.ref a)] [] H Q := by
  have hTr0 := hTr
  obtain ⟨hP, hT, h0, hp, hD, hO⟩ := hTr
  have t1 := hT n hn2
  have hc4 := (VH_cap hH).1
  have hr1 : n = 0 → ρ.2 2 0 n = 0 := fun z => by rw [z]; exact h0.2.1
  have hp1 : n ≠ 0 → ρ.2 1 0 (ρ.2 2 0 n).toNat ≠ 0 := fun z => by rw [hp n hn2 z hn.2.2.2.1]; decide
  have hn0 := hn
  obtain ⟨i1, i2, oA, i4, f0, f1, f2, f3, f4, f5⟩ := hn
  have dir := hD n hn2 i4
  have qn := Tr_q hTr0 hn2 i4
  have hv : ∀ i, i < qs n → c.2.1 12 (cs n i) 0 = vI (cs n i) ∧ cs n i < 256 := fun i hi => Tr_num hTr0 hn2 i4 hi
  rcases (show ρ.2 1 0 n = 1 ∨ ρ.2 1 0 n = 2 by omega) with q | q
  · obtain ⟨sz, hs⟩ : ∃ sz : Nat, ρ.2 4 0 n = sz := ⟨(ρ.2 4 0 n).toNat, by omega⟩
    have nbe := nb_1 q hs
    have q0 := Tr_q0 hTr0 hn2 q
    rw [q] at f1
    have f4b : c.2.1 12 n 4 = vI sz := by rw [f4]; unfold szv; rw [if_pos q, hs]
    rw [nbe] at hw kk
    have w1 : wrO cap (fi + 1) ≤ 4000 := Nat.le_trans (wrO_le hc4 (by omega)) hw
    have w2 : wrO cap (fi + 1 + wN 64 sz) ≤ 4000 := by rw [Nat.add_assoc]; exact hw
    have ch := dir.2.2.1
    rw [q0] at ch hv
    refine w_aload_n rfl rfl ?_
    refine w_aload_n rfl rfl ?_
    refine w_cv rfl (by decide) (by first | omega | (simp only [Int.toNat_natCast, upF_2] at *; omega)) rfl (VH_at hH oR (by decide) (by decide) (by decide)) mt_63 (Nat.le_of_ble_eq_true rfl) (Nat.le_of_ble_eq_true rfl) (V_facts hH _ (by omega) w1 oR r0 r1 hP hT hn2 hn0 hr1 hp1) ?_
    rintro _ _ ⟨rfl, hH⟩
    refine ⟨none, rfl, ?_⟩
    refine w_aload_n rfl rfl ?_
    refine w_aload_n rfl rfl ?_
    refine w_cv rfl (by decide) (by first | omega | (simp only [Int.toNat_natCast, upF_2] at *; omega)) rfl (VH_at hH oR (by decide) (by decide) (by decide)) mt_65 (Nat.le_of_ble_eq_true rfl) (Nat.le_of_ble_eq_true rfl) (V_ocs hH _ (by omega) oR r0 r1 oA f1 f4b hs (by omega) (hO n hn2 q).1 (hO n hn2 q).2 w2) ?_
    rintro _ _ ⟨rfl, hH⟩
    refine ⟨none, rfl, ?_⟩
    refine w_aload_n rfl rfl ?_
    refine w_aload_n rfl rfl ?_
    refine w_cv rfl (by decide) (by first | omega | (simp only [Int.toNat_natCast, upF_2] at *; omega)) rfl (VH_at hH oR (by decide) (by decide) (by decide)) mt_67 (Nat.le_of_ble_eq_true rfl) (Nat.le_of_ble_eq_true rfl) (V_ens hH _ (by omega) oR r0 r1 ch hv (by omega) oA w2) ?_
    rintro _ _ ⟨rfl, hH⟩
    refine ⟨none, rfl, ?_⟩
    rw [wBl_0, show wN 21 0 = 0 from rfl, Nat.add_zero, Nat.add_assoc] at hH
    refine kk _ _ hH (fun p hp => ?_) (fun cc hcc => ?_)
    · unfold wBl
      rw [if_neg (by omega), bset_ne (by omega)]
    · unfold ndT
      by_cases e : cc = 0
      · subst e
        rw [if_pos rfl]
        unfold wBl
        rw [if_neg (by omega), Nat.add_zero, bset_eq]
      · rw [if_neg e, if_pos q, hs, Int.toNat_natCast]
        unfold wBl wN at *
        rw [if_pos (by omega), show fi + cc - (fi + 1) = cc - 1 by omega]
  · have nbe := nb_2 (by rw [q]; decide) dir.2.1
    rw [q] at f1
    rw [nbe] at hw kk
    have w1 : wrO cap (fi + 1) ≤ 4000 := Nat.le_trans (wrO_le hc4 (by omega)) hw
    have w2 : wrO cap (fi + 1 + wN 21 (qs n)) ≤ 4000 := by rw [Nat.add_assoc]; exact hw
    refine w_aload_n rfl rfl ?_
    refine w_aload_n rfl rfl ?_
    refine w_cv rfl (by decide) (by first | omega | (simp only [Int.toNat_natCast, upF_2] at *; omega)) rfl (VH_at hH oR (by decide) (by decide) (by decide)) mt_63 (Nat.le_of_ble_eq_true rfl) (Nat.le_of_ble_eq_true rfl) (V_facts hH _ (by omega) w1 oR r0 r1 hP hT hn2 hn0 hr1 hp1) ?_
    rintro _ _ ⟨rfl, hH⟩
    refine ⟨none, rfl, ?_⟩
    refine w_aload_n rfl rfl ?_
    refine w_aload_n rfl rfl ?_
    refine w_cv rfl (by decide) (by first | omega | (simp only [Int.toNat_natCast, upF_2] at *; omega)) rfl (VH_at hH oR (by decide) (by decide) (by decide)) mt_65 (Nat.le_of_ble_eq_true rfl) (Nat.le_of_ble_eq_true rfl) (V_ocs2 hH _ oA f1) ?_
    rintro _ _ ⟨rfl, hH⟩
    refine ⟨none, rfl, ?_⟩
    refine w_aload_n rfl rfl ?_
    refine w_aload_n rfl rfl ?_
    refine w_cv rfl (by decide) (by first | omega | (simp only [Int.toNat_natCast, upF_2] at *; omega)) rfl (VH_at hH oR (by decide) (by decide) (by decide)) mt_67 (Nat.le_of_ble_eq_true rfl) (Nat.le_of_ble_eq_true rfl) (V_ens hH _ (by omega) oR r0 r1 dir.2.2.1 hv (by omega) oA w2) ?_
    rintro _ _ ⟨rfl, hH⟩
    refine ⟨none, rfl, ?_⟩
    rw [Nat.add_assoc] at hH
    refine kk _ _ hH (fun p hp => ?_) (fun cc hcc => ?_)
    · unfold wBl
      rw [if_neg (by omega), bset_ne (by omega)]
    · unfold ndT
      by_cases e : cc = 0
      · subst e
        rw [if_pos rfl]
        unfold wBl
        rw [if_neg (by omega), Nat.add_zero, bset_eq]
      · rw [if_neg e, if_neg (by rw [q]; decide)]
        unfold wBl wN at *
        rw [if_pos (by omega), show fi + cc - (fi + 1) = cc - 1 by omega]
theorem V_all_l (d : Nat) (hd : 6 ≤ d) (oR : c.1 R0 = some (6, 0)) (r0 : c.2.1 6 0 0 = .ref T0) (r1 : c.2.1 6 0 1 = .ref V0) (hTr : TrOk b T0 N0 c ρ na cs ad qs oc dt) {e : Nat} (oD : c.1 D0 = some (14, e)) {bs tb : Int} (hB : (c.2.1 14 e 3 = .null ∧ bs = -1 ∧ tb = -1) ∨ ∃ D1 e1 : Nat, c.2.1 14 e 3 = .ref D1 ∧ c.1 D1 = some (14, e1) ∧ c.2.1 14 e1 0 = vI e1 ∧ c.2.1 14 e1 2 = vI tb ∧ bs = e1) (t1 : -1 ≤ tb) (t2 : tb ≤ 1000000) (hw : wrO cap (fi + (sm (chS ρ tb) (nb ρ) 0 256).toNat) ≤ 4000) : ∀ (m k : Nat) (H : AH) (bl' : Nat → Nat → Int) (u3 : Option Value), k + m = 256 → VH b V0 Z g c nc ns cap (fi + (sm (chS ρ tb) (nb ρ) 0 k).toNat) bl' sp ls H → (∀ q, q < fi → bl' q = bl q) → (∀ n, n < k → chS ρ tb n → ∀ cc, cc < (nb ρ n).toNat → bl' (fi + (sm (chS ρ tb) (nb ρ) 0 n).toNat + cc) = ndT ρ (cs n) (qs n) n cc) → Wp b L xs d mi_54 16 [some (.ref R0), some (.ref D0), some (vI k), u3] [] H (fun h' o => o = .inl none ∧ ∃ bl', VH b V0 Z g c nc ns cap (fi + (sm (chS ρ tb) (nb ρ) 0 256).toNat) bl' sp ls h' ∧ (∀ q, q < fi → bl' q = bl q) ∧ ∀ n, n < 256 → chS ρ tb n → ∀ cc, cc < (nb ρ n).toNat → bl' (fi + (sm (chS ρ tb) (nb ρ) 0 n).toNat + cc) = ndT ρ (cs n) (qs n) n cc) := by
  have hP := hTr.1
  have hT := hTr.2.1
  have oT := hP.1
  intro m
  induction m with
  | zero =>
    intro k H bl' u3 hk hH h1 h2
    obtain rfl : k = 256 := hk
    refine w_iload_n rfl rfl ?_
    refine w_sipush rfl rfl ?_
    refine w_icge_t rfl (by omega) (by omega) (by omega) (by omega) (by first | omega | (simp only [Int.toNat_natCast, upF_2] at *; omega)) ?_
    refine w_return rfl rfl ?_
    exact ⟨rfl, bl', hH, h1, h2⟩
  | succ m ih =>
    intro k H bl' u3 hk hH h1 h2
    have hc4 := (VH_cap hH).1
    have q1 := sm_snoc (chS ρ tb) (nb ρ) k
    have q2 := sm_add (chS ρ tb) (nb ρ) (k + 1) 0 m
    rw [show k + 1 + m = 256 by omega] at q2
    have p1 := nb_ok hT (show k < 256 by omega)
    have s1 : 0 ≤ sm (chS ρ tb) (nb ρ) 0 k := (sm_ok (fun n hn => nb_ok hT hn) k 0 (by omega)).1
    have s2 : 0 ≤ sm (chS ρ tb) (nb ρ) (0 + (k + 1)) m := (sm_ok (fun n hn => nb_ok hT hn) m (0 + (k + 1)) (by omega)).1
    rcases V_chg (L := L) (xs := xs) hH hP hT (d - 1) (by omega) (n := k) t1 t2 (by omega) with ⟨hc, a, hn, w⟩ | ⟨hc, w⟩
    · rw [if_pos hc] at q1
      have oA := hn.2.2.1
      have wl : wrO cap (fi + (sm (chS ρ tb) (nb ρ) 0 k).toNat + (nb ρ k).toNat) ≤ 4000 := Nat.le_trans (wrO_le hc4 (by omega)) hw
      refine w_iload_n rfl rfl ?_
      refine w_sipush rfl rfl ?_
      refine w_icge_f rfl (by omega) (by omega) (by omega) (by omega) (by first | omega | (simp only [Int.toNat_natCast, upF_2] at *; omega)) ?_
      refine w_aload_n rfl rfl ?_
      refine w_getfield rfl (VH_at hH oR (by decide) (by decide) (by decide)) rfl ?_
      rw [r0]
      refine w_iload_n rfl rfl ?_
      refine w_aload_n rfl rfl ?_
      refine w_cvV rfl (by decide) (by first | omega | (simp only [Int.toNat_natCast, upF_2] at *; omega)) rfl (VH_at hH oD (by decide) (by decide) (by decide)) mt_46 (Nat.le_of_ble_eq_true rfl) (Nat.le_of_ble_eq_true rfl) (V_since hH _ oD hB) ?_
      refine w_cvV rfl (by decide) (by first | omega | (simp only [Int.toNat_natCast, upF_2] at *; omega)) rfl (VH_at hH oT (by decide) (by decide) (by decide)) mt_48 (Nat.le_of_ble_eq_true rfl) (Nat.le_of_ble_eq_true rfl) w ?_
      refine w_astore_n rfl (by decide) ?_
      refine w_aload_n rfl rfl ?_
      refine w_ifnull_r rfl ?_
      refine V_nd d hd oR r0 r1 hTr hH (by omega) hn wl (fun H bl2 hH g1 g2 => ?_)
      refine w_iinc rfl rfl (by decide) ?_
      refine w_goto rfl ?_
      refine ih (k + 1) H bl2 _ (by omega) ?_ (fun q hq => by rw [g1 q (by omega)]; exact h1 q hq) (fun n hn hcn cc hcc => ?_)
      · rw [show fi + (sm (chS ρ tb) (nb ρ) 0 (k + 1)).toNat = fi + (sm (chS ρ tb) (nb ρ) 0 k).toNat + (nb ρ k).toNat by omega]
        exact hH
      · by_cases e9 : n = k
        · subst e9
          exact g2 cc hcc
        · have r1 := sm_add (chS ρ tb) (nb ρ) (n + 1) 0 (k - n - 1)
          rw [show n + 1 + (k - n - 1) = k by omega] at r1
          have r2 := sm_snoc (chS ρ tb) (nb ρ) n
          rw [if_pos hcn] at r2
          have r3 : 0 ≤ sm (chS ρ tb) (nb ρ) (0 + (n + 1)) (k - n - 1) := (sm_ok (fun n hn => nb_ok hT hn) (k - n - 1) (0 + (n + 1)) (by omega)).1
          have r4 : 0 ≤ sm (chS ρ tb) (nb ρ) 0 n := (sm_ok (fun n hn => nb_ok hT hn) n 0 (by omega)).1
          rw [g1 _ (by omega)]
          exact h2 n (by omega) hcn cc hcc
    · rw [if_neg hc, Int.add_zero] at q1
      refine w_iload_n rfl rfl ?_
      refine w_sipush rfl rfl ?_
      refine w_icge_f rfl (by omega) (by omega) (by omega) (by omega) (by first | omega | (simp only [Int.toNat_natCast, upF_2] at *; omega)) ?_
      refine w_aload_n rfl rfl ?_
      refine w_getfield rfl (VH_at hH oR (by decide) (by decide) (by decide)) rfl ?_
      rw [r0]
      refine w_iload_n rfl rfl ?_
      refine w_aload_n rfl rfl ?_
      refine w_cvV rfl (by decide) (by first | omega | (simp only [Int.toNat_natCast, upF_2] at *; omega)) rfl (VH_at hH oD (by decide) (by decide) (by decide)) mt_46 (Nat.le_of_ble_eq_true rfl) (Nat.le_of_ble_eq_true rfl) (V_since hH _ oD hB) ?_
      refine w_cvV rfl (by decide) (by first | omega | (simp only [Int.toNat_natCast, upF_2] at *; omega)) rfl (VH_at hH oT (by decide) (by decide) (by decide)) mt_48 (Nat.le_of_ble_eq_true rfl) (Nat.le_of_ble_eq_true rfl) w ?_
      refine w_astore_nQ (x := none) rfl (by decide) ?_
      refine w_aload_nQ (x := none) rfl rfl ?_
      refine w_ifnull_n rfl ?_
      refine w_iinc rfl rfl (by decide) ?_
      refine w_goto rfl ?_
      refine ih (k + 1) H bl' _ (by omega) (by rw [q1]; exact hH) h1 (fun n hn hcn cc hcc => ?_)
      by_cases e9 : n = k
      · subst e9
        exact absurd hcn hc
      · exact h2 n (by omega) hcn cc hcc
theorem V_wall (d : Nat) (hd : 7 ≤ d) (hH : VH b V0 Z g c nc ns cap fi bl sp ls H) (oR : c.1 R0 = some (6, 0)) (r0 : c.2.1 6 0 0 = .ref T0) (r1 : c.2.1 6 0 1 = .ref V0) (hTr : TrOk b T0 N0 c ρ na cs ad qs oc dt) {e : Nat} {l t N : Int} (oD : c.1 D0 = some (14, e)) (d0 : c.2.1 14 e 0 = vI e) (d1 : c.2.1 14 e 1 = vI l) (d2 : c.2.1 14 e 2 = vI t) (d5 : c.2.1 14 e 5 = vI N) {bs tb : Int} (hB : (c.2.1 14 e 3 = .null ∧ bs = -1 ∧ tb = -1) ∨ ∃ D1 e1 : Nat, c.2.1 14 e 3 = .ref D1 ∧ c.1 D1 = some (14, e1) ∧ c.2.1 14 e1 0 = vI e1 ∧ c.2.1 14 e1 2 = vI tb ∧ bs = e1) (l1 : 0 ≤ l) (l2 : l ≤ 9) (e2 : e ≤ 100) (t1 : 0 ≤ t) (t2 : t ≤ 100000) (b2 : bs ≤ 100) (tb1 : -1 ≤ tb) (tb2 : tb ≤ 1000000) {x y : Nat → Int} (hx : ∀ k, k < 256 → chS ρ tb k → x (cnt (chS ρ tb) 0 k) = k ∧ y (cnt (chS ρ tb) 0 k) = nb ρ k) (hN : N = cnt (chS ρ tb) 0 256) (hw : wrO cap (fi + 2 + wN 31 (cnt (chS ρ tb) 0 256) + (sm (chS ρ tb) (nb ρ) 0 256).toNat) ≤ 4000) : Wp b L xs d mi_54 0 (ent (mL mi_54) [.ref R0, .ref D0]) [] H (fun h' o => o = .inl none ∧ ∃ bl', VH b V0 Z g c nc ns cap (fi + 2 + wN 31 (cnt (chS ρ tb) 0 256) + (sm (chS ρ tb) (nb ρ) 0 256).toNat) bl' sp ls h' ∧ (∀ q, q < fi → bl' q = bl q) ∧ bl' fi = hdT l e t bs N ∧ bl' (fi + 1) = mpB (fun n => ρ.2 1 0 n ≠ 0) (putK zB 0 77 1) 0 256 ∧ (∀ i, i < wN 31 (cnt (chS ρ tb) 0 256) → bl' (fi + 2 + i) = ixF x y N (31 * i) (min (cnt (chS ρ tb) 0 256) (31 * i + 31) - 31 * i)) ∧ ∀ n, n < 256 → chS ρ tb n → ∀ cc, cc < (nb ρ n).toNat → bl' (fi + 2 + wN 31 (cnt (chS ρ tb) 0 256) + (sm (chS ρ tb) (nb ρ) 0 n).toNat + cc) = ndT ρ (cs n) (qs n) n cc) := by
  have hP := hTr.1
  have hT := hTr.2.1
  have hc4 := (VH_cap hH).1
  have q3 : cnt (chS ρ tb) 0 256 ≤ 256 := cnt_le _ _ _
  have w1 : wrO cap (fi + 1) ≤ 4000 := Nat.le_trans (wrO_le hc4 (by omega)) hw
  have w2 : wrO cap (fi + 1 + 1) ≤ 4000 := Nat.le_trans (wrO_le hc4 (by omega)) hw
  have w3 : wrO cap (fi + 1 + 1 + wN 31 (cnt (chS ρ tb) 0 256)) ≤ 4000 := Nat.le_trans (wrO_le hc4 (by omega)) hw
  refine w_aload_n rfl rfl ?_
  refine w_aload_n rfl rfl ?_
  refine w_cv rfl (by decide) (by first | omega | (simp only [Int.toNat_natCast, upF_2] at *; omega)) rfl (VH_at hH oR (by decide) (by decide) (by decide)) mt_55 (Nat.le_of_ble_eq_true rfl) (Nat.le_of_ble_eq_true rfl) (V_head hH _ (by omega) w1 oR r0 r1 oD d0 d1 d2 d5 hB l1 l2 e2 t1 t2 b2 (by omega) (by omega)) ?_
  rintro _ _ ⟨rfl, hH⟩
  refine ⟨none, rfl, ?_⟩
  refine w_aload_n rfl rfl ?_
  refine w_cv rfl (by decide) (by first | omega | (simp only [Int.toNat_natCast, upF_2] at *; omega)) rfl (VH_at hH oR (by decide) (by decide) (by decide)) mt_61 (Nat.le_of_ble_eq_true rfl) (Nat.le_of_ble_eq_true rfl) (V_map hH _ (by omega) w2 hP oR r0 r1) ?_
  rintro _ _ ⟨rfl, hH⟩
  refine ⟨none, rfl, ?_⟩
  refine w_aload_n rfl rfl ?_
  refine w_aload_n rfl rfl ?_
  refine w_cv rfl (by decide) (by first | omega | (simp only [Int.toNat_natCast, upF_2] at *; omega)) rfl (VH_at hH oR (by decide) (by decide) (by decide)) mt_62 (Nat.le_of_ble_eq_true rfl) (Nat.le_of_ble_eq_true rfl) (V_ix hH _ (by omega) oR r0 r1 oD d5 hB hP hT tb1 tb2 hx hN w3) ?_
  rintro _ _ ⟨rfl, hH⟩
  refine ⟨none, rfl, ?_⟩
  refine w_iconst rfl ?_
  refine w_istore_n rfl (by decide) ?_
  refine Wp_im ?_ (V_all_l d (by omega) oR r0 r1 hTr oD hB tb1 tb2 hw 256 0 _ _ _ rfl hH (fun _ _ => rfl) (fun n hn => absurd hn (Nat.not_lt_zero _)))
  rintro h' o ⟨r1, bl', r2, r3, r4⟩
  refine ⟨r1, bl', r2, fun q hq => ?_, ?_, ?_, fun i hi => ?_, r4⟩
  · rw [r3 q (by omega)]
    unfold wBl
    rw [if_neg (by omega), bset_ne (by omega), bset_ne (by omega)]
  · rw [r3 fi (by omega)]
    unfold wBl
    rw [if_neg (by omega), bset_ne (by omega), bset_eq]
  · rw [r3 (fi + 1) (by omega)]
    unfold wBl
    rw [if_neg (by omega), bset_eq]
  · have hi2 := hi
    rw [wN_31] at hi2
    rw [r3 _ (by omega)]
    unfold wBl
    rw [if_pos (by omega), show fi + 2 + i - (fi + 2) = i by omega]
end Cw4
