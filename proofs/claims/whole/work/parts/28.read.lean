/-! the reference's readers -/
def Rg (ρ : RS) : Prop := (∀ k, -2147483648 ≤ ρ.1 k ∧ ρ.1 k ≤ 2147483647) ∧ (∀ j r i, -2147483648 ≤ ρ.2 j r i ∧ ρ.2 j r i ≤ 2147483647)
theorem rlay_r6 {r : Nat} (h : r < 256) : rlay (6 + 1 + r) = some (.byte, 512, 6, r) := by
  unfold rlay
  simp only [show ¬ 1160 ≤ 6 + 1 + r by omega, show ¬ 6 + 1 + r = 0 by omega, show ¬ 6 + 1 + r ≤ 5 by omega, show ¬ 6 + 1 + r = 6 by omega, show 6 + 1 + r ≤ 262 by omega, if_true, if_false, show 6 + 1 + r - 7 = r by omega]
theorem rlay_r15 {r : Nat} (h : r < 100) : rlay (268 + 1 + r) = some (.boolean, 256, 15, r) := by
  unfold rlay
  simp only [show ¬ 1160 ≤ 268 + 1 + r by omega, show ¬ 268 + 1 + r = 0 by omega, show ¬ 268 + 1 + r ≤ 5 by omega, show ¬ 268 + 1 + r = 6 by omega, show ¬ 268 + 1 + r ≤ 262 by omega, show ¬ 268 + 1 + r ≤ 265 by omega, show ¬ 268 + 1 + r ≤ 267 by omega, show ¬ 268 + 1 + r = 268 by omega, show 268 + 1 + r ≤ 368 by omega, if_true, if_false, show 268 + 1 + r - 269 = r by omega]
theorem rlay_r39 {r : Nat} (h : r < 256) : rlay (388 + 1 + r) = some (.byte, 512, 39, r) := by
  unfold rlay
  simp only [show ¬ 1160 ≤ 388 + 1 + r by omega, show ¬ 388 + 1 + r = 0 by omega, show ¬ 388 + 1 + r ≤ 5 by omega, show ¬ 388 + 1 + r = 6 by omega, show ¬ 388 + 1 + r ≤ 262 by omega, show ¬ 388 + 1 + r ≤ 265 by omega, show ¬ 388 + 1 + r ≤ 267 by omega, show ¬ 388 + 1 + r = 268 by omega, show ¬ 388 + 1 + r ≤ 368 by omega, show ¬ 388 + 1 + r ≤ 375 by omega, show ¬ 388 + 1 + r = 376 by omega, show ¬ 388 + 1 + r ≤ 378 by omega, show ¬ 388 + 1 + r ≤ 380 by omega, show ¬ 388 + 1 + r ≤ 386 by omega, show ¬ 388 + 1 + r = 387 by omega, show ¬ 388 + 1 + r = 388 by omega, show 388 + 1 + r ≤ 644 by omega, if_true, if_false, show 388 + 1 + r - 389 = r by omega]
theorem rlay_r40 {r : Nat} (h : r < 256) : rlay (645 + 1 + r) = some (.int, 256, 40, r) := by
  unfold rlay
  simp only [show ¬ 1160 ≤ 645 + 1 + r by omega, show ¬ 645 + 1 + r = 0 by omega, show ¬ 645 + 1 + r ≤ 5 by omega, show ¬ 645 + 1 + r = 6 by omega, show ¬ 645 + 1 + r ≤ 262 by omega, show ¬ 645 + 1 + r ≤ 265 by omega, show ¬ 645 + 1 + r ≤ 267 by omega, show ¬ 645 + 1 + r = 268 by omega, show ¬ 645 + 1 + r ≤ 368 by omega, show ¬ 645 + 1 + r ≤ 375 by omega, show ¬ 645 + 1 + r = 376 by omega, show ¬ 645 + 1 + r ≤ 378 by omega, show ¬ 645 + 1 + r ≤ 380 by omega, show ¬ 645 + 1 + r ≤ 386 by omega, show ¬ 645 + 1 + r = 387 by omega, show ¬ 645 + 1 + r = 388 by omega, show ¬ 645 + 1 + r ≤ 644 by omega, show ¬ 645 + 1 + r = 645 by omega, show 645 + 1 + r ≤ 901 by omega, if_true, if_false, show 645 + 1 + r - 646 = r by omega]
theorem rlay_r41 {r : Nat} (h : r < 256) : rlay (902 + 1 + r) = some (.int, 256, 41, r) := by
  unfold rlay
  simp only [show ¬ 1160 ≤ 902 + 1 + r by omega, show ¬ 902 + 1 + r = 0 by omega, show ¬ 902 + 1 + r ≤ 5 by omega, show ¬ 902 + 1 + r = 6 by omega, show ¬ 902 + 1 + r ≤ 262 by omega, show ¬ 902 + 1 + r ≤ 265 by omega, show ¬ 902 + 1 + r ≤ 267 by omega, show ¬ 902 + 1 + r = 268 by omega, show ¬ 902 + 1 + r ≤ 368 by omega, show ¬ 902 + 1 + r ≤ 375 by omega, show ¬ 902 + 1 + r = 376 by omega, show ¬ 902 + 1 + r ≤ 378 by omega, show ¬ 902 + 1 + r ≤ 380 by omega, show ¬ 902 + 1 + r ≤ 386 by omega, show ¬ 902 + 1 + r = 387 by omega, show ¬ 902 + 1 + r = 388 by omega, show ¬ 902 + 1 + r ≤ 644 by omega, show ¬ 902 + 1 + r = 645 by omega, show ¬ 902 + 1 + r ≤ 901 by omega, show ¬ 902 + 1 + r = 902 by omega, show 902 + 1 + r ≤ 1158 by omega, if_true, if_false, show 902 + 1 + r - 903 = r by omega]
theorem rl_1 : rlay 1 = some (.int, 256, 1, 0) := rfl
theorem rl_2 : rlay 2 = some (.int, 256, 2, 0) := rfl
theorem rl_3 : rlay 3 = some (.int, 256, 3, 0) := rfl
theorem rl_4 : rlay 4 = some (.int, 256, 4, 0) := rfl
theorem rl_5 : rlay 5 = some (.int, 256, 5, 0) := rfl
theorem rl_10 : rlay 263 = some (.int, 100, 10, 0) := rfl
theorem rl_11 : rlay 264 = some (.int, 100, 11, 0) := rfl
theorem rl_12 : rlay 265 = some (.int, 100, 12, 0) := rfl
theorem rl_13 : rlay 266 = some (.int, 101, 13, 0) := rfl
theorem rl_14 : rlay 267 = some (.int, 101, 14, 0) := rfl
theorem rl_17 : rlay 369 = some (.int, 4000, 17, 0) := rfl
theorem rl_18 : rlay 370 = some (.int, 4000, 18, 0) := rfl
theorem rl_19 : rlay 371 = some (.int, 4000, 19, 0) := rfl
theorem rl_20 : rlay 372 = some (.int, 4000, 20, 0) := rfl
theorem rl_21 : rlay 373 = some (.int, 4000, 21, 0) := rfl
theorem rl_22 : rlay 374 = some (.int, 4000, 22, 0) := rfl
theorem rl_23 : rlay 375 = some (.int, 4000, 23, 0) := rfl
theorem rl_24 : rlay 376 = some (.byte, 256000, 24, 0) := rfl
theorem rl_25 : rlay 377 = some (.int, 84000, 25, 0) := rfl
theorem rl_26 : rlay 378 = some (.int, 84000, 26, 0) := rfl
theorem rl_30 : rlay 379 = some (.boolean, 4001, 30, 0) := rfl
theorem rl_31 : rlay 380 = some (.boolean, 4001, 31, 0) := rfl
theorem rl_32 : rlay 381 = some (.int, 256, 32, 0) := rfl
theorem rl_33 : rlay 382 = some (.int, 256, 33, 0) := rfl
theorem rl_34 : rlay 383 = some (.int, 256, 34, 0) := rfl
theorem rl_35 : rlay 384 = some (.int, 256, 35, 0) := rfl
theorem rl_36 : rlay 385 = some (.int, 256, 36, 0) := rfl
theorem rl_37 : rlay 386 = some (.int, 256, 37, 0) := rfl
theorem rl_38 : rlay 387 = some (.boolean, 256, 38, 0) := rfl
theorem rl_46 : rlay 1159 = some (.int, 64, 46, 0) := rfl
/-- the first of m places from k on where p holds, or -1 -/
def fnd (p : Nat → Prop) [DecidablePred p] : Nat → Nat → Int
  | _, 0 => -1
  | k, m + 1 => if p k then k else fnd p (k + 1) m
/-- how many of m places from k on -/
def cnt (p : Nat → Prop) [DecidablePred p] : Nat → Nat → Nat
  | _, 0 => 0
  | k, m + 1 => (if p k then 1 else 0) + cnt p (k + 1) m
theorem cnt_le (p : Nat → Prop) [DecidablePred p] : ∀ k m : Nat, cnt p k m ≤ m
  | _, 0 => Nat.le_refl _
  | k, m + 1 => by
    have := cnt_le p (k + 1) m
    unfold cnt
    split <;> omega
def rNamed (ρ : RS) (dir called : Int) : Int := fnd (fun n => ρ.2 1 0 n ≠ 0 ∧ ρ.2 2 0 n = dir ∧ ρ.2 3 0 n = called) 1 255
def rEnt (ρ : RS) (n : Int) : Nat := cnt (fun k => ρ.2 1 0 k ≠ 0 ∧ ρ.2 2 0 k = n) 1 255
def pts (n each : Int) : Int := (n + each - 1) / each
section Rr1
variable {b L : Nat} {xs : Nat → Int32} {m0 : Nat} {h : AH} {ρ : RS}
theorem r_parts (d : Nat) {n each : Int} (n1 : 0 ≤ n) (n2 : n ≤ 1000000000) (e1 : 0 < each) (e2 : each ≤ 1000000000) {h : AH} : Wp b L xs d mi_124 0 (ent (mL mi_124) [vI n, vI each]) [] h (Rt h (vI (pts n each))) := by
  refine w_iload_n rfl rfl ?_
  refine w_iload_n rfl rfl ?_
  refine w_iadd rfl ?_
  refine w_iconst rfl ?_
  refine w_isub rfl ?_
  refine w_iload_n rfl rfl ?_
  refine w_idiv rfl (by first | omega | (simp only [Int.toNat_natCast, upF_2] at *; omega)) (by first | omega | (simp only [Int.toNat_natCast, upF_2] at *; omega)) (by first | omega | (simp only [Int.toNat_natCast, upF_2] at *; omega)) (by first | omega | (simp only [Int.toNat_natCast, upF_2] at *; omega)) ?_
  refine w_ireturn rfl rfl ?_
  exact ⟨rfl, rfl⟩
theorem r_all (d : Nat) (hd : 1 ≤ d) {n v : Int} (n1 : 0 ≤ n) (n2 : n ≤ 100000000) (e1 : 1 < v) (e2 : v ≤ 1000000) {h : AH} : Wp b L xs d mi_125 0 (ent (mL mi_125) [vI n, vI v]) [] h (Rt h (vI (n + pts n (v - 1)))) := by
  refine w_iload_n rfl rfl ?_
  refine w_iload_n rfl rfl ?_
  refine w_iload_n rfl rfl ?_
  refine w_iconst rfl ?_
  refine w_isub rfl ?_
  refine w_csV rfl (by decide) (by first | omega | (simp only [Int.toNat_natCast, upF_2] at *; omega)) rfl mt_124 (Nat.le_of_ble_eq_true rfl) (Nat.le_of_ble_eq_true rfl) (r_parts _ (by omega) (by omega) (by omega) (by omega)) ?_
  refine w_iadd rfl ?_
  refine w_ireturn rfl rfl ?_
  exact ⟨rfl, rfl⟩
theorem r_thrown (hb : b < m0) (hg : Rg ρ) (d : Nat)  : Wp b L xs d mi_113 0 (ent (mL mi_113) [.ref m0]) [] (RH m0 h ρ) (Rt (RH m0 h ρ) (vI (ρ.1 0))) := by
  refine w_aload_n rfl rfl ?_
  refine m_get rfl rfl ?_
  refine w_ireturn rfl rfl ?_
  exact ⟨rfl, rfl⟩
theorem r_fails (hb : b < m0) (hg : Rg ρ) (d : Nat) {z w : Int} (z1 : z = 0 ∨ z = 1) : Wp b L xs d mi_112 0 (ent (mL mi_112) [.ref m0, vI z, vI w]) [] (RH m0 h ρ) (Rt (RH m0 h (upF ρ 0 (if z = 1 then w else 0))) (vI z)) := by
  refine w_aload_n rfl rfl ?_
  refine w_iload_n rfl rfl ?_
  refine w_ifeq rfl (by first | omega | exact (hg.2 _ _ _).1 | exact (hg.1 _).1 | (simp only [Int.toNat_natCast, upF_2] at *; omega)) (by first | omega | exact (hg.2 _ _ _).2 | exact (hg.1 _).2 | (simp only [Int.toNat_natCast, upF_2] at *; omega)) (fun hz => ?_) (fun hz => ?_)
  · rw [if_neg (by omega)]
    refine w_iconst rfl ?_
    refine m_put rfl rfl rfl rfl ?_
    refine w_iload_n rfl rfl ?_
    refine w_zreturn rfl rfl (by first | omega | (simp only [Int.toNat_natCast, upF_2] at *; omega)) ?_
    exact ⟨rfl, rfl⟩
  · rw [if_pos (by omega)]
    refine w_iload_n rfl rfl ?_
    refine w_goto rfl ?_
    refine m_put rfl rfl rfl rfl ?_
    refine w_iload_n rfl rfl ?_
    refine w_zreturn rfl rfl (by first | omega | (simp only [Int.toNat_natCast, upF_2] at *; omega)) ?_
    exact ⟨rfl, rfl⟩
theorem r_is (hb : b < m0) (hg : Rg ρ) (d : Nat) {n w : Int} (n1 : -2147483648 ≤ n) (n2 : n ≤ 2147483647) (w1 : -2147483648 ≤ w) (w2 : w ≤ 2147483647) : Wp b L xs d mi_115 0 (ent (mL mi_115) [.ref m0, vI n, vI w]) [] (RH m0 h ρ) (Rt (RH m0 h ρ) (vI (if 0 ≤ n ∧ n < 256 ∧ ρ.2 1 0 n.toNat = w then 1 else 0))) := by
  refine w_iload_n rfl rfl ?_
  refine w_iflt rfl (by first | omega | exact (hg.2 _ _ _).1 | exact (hg.1 _).1 | (simp only [Int.toNat_natCast, upF_2] at *; omega)) (by first | omega | exact (hg.2 _ _ _).2 | exact (hg.1 _).2 | (simp only [Int.toNat_natCast, upF_2] at *; omega)) (fun c1 => ?_) (fun c1 => ?_)
  · refine w_iconst rfl ?_
    refine w_zreturn rfl rfl (by first | omega | (simp only [Int.toNat_natCast, upF_2] at *; omega)) ?_
    exact ⟨rfl, by rw [if_neg (fun z => absurd z.1 (by omega))]⟩
  · refine w_iload_n rfl rfl ?_
    refine w_sipush rfl rfl ?_
    refine w_icge rfl (by first | omega | exact (hg.2 _ _ _).1 | exact (hg.1 _).1 | (simp only [Int.toNat_natCast, upF_2] at *; omega)) (by first | omega | exact (hg.2 _ _ _).2 | exact (hg.1 _).2 | (simp only [Int.toNat_natCast, upF_2] at *; omega)) (by first | omega | exact (hg.2 _ _ _).1 | exact (hg.1 _).1 | (simp only [Int.toNat_natCast, upF_2] at *; omega)) (by first | omega | exact (hg.2 _ _ _).2 | exact (hg.1 _).2 | (simp only [Int.toNat_natCast, upF_2] at *; omega)) (fun c2 => ?_) (fun c2 => ?_)
    · refine w_iconst rfl ?_
      refine w_zreturn rfl rfl (by first | omega | (simp only [Int.toNat_natCast, upF_2] at *; omega)) ?_
      exact ⟨rfl, by rw [if_neg (fun z => absurd z.2.1 (by omega))]⟩
    · refine w_aload_n rfl rfl ?_
      refine m_get rfl rfl ?_
      refine w_iload_n rfl rfl ?_
      refine m_iaload rfl hb rl_1 (by first | omega | (simp only [Int.toNat_natCast, upF_2] at *; omega)) (by first | omega | (simp only [Int.toNat_natCast, upF_2] at *; omega)) ?_
      refine w_iload_n rfl rfl ?_
      refine w_icne rfl (by first | omega | exact (hg.2 _ _ _).1 | exact (hg.1 _).1 | (simp only [Int.toNat_natCast, upF_2] at *; omega)) (by first | omega | exact (hg.2 _ _ _).2 | exact (hg.1 _).2 | (simp only [Int.toNat_natCast, upF_2] at *; omega)) (by first | omega | exact (hg.2 _ _ _).1 | exact (hg.1 _).1 | (simp only [Int.toNat_natCast, upF_2] at *; omega)) (by first | omega | exact (hg.2 _ _ _).2 | exact (hg.1 _).2 | (simp only [Int.toNat_natCast, upF_2] at *; omega)) (fun c3 => ?_) (fun c3 => ?_)
      · refine w_iconst rfl ?_
        refine w_zreturn rfl rfl (by first | omega | (simp only [Int.toNat_natCast, upF_2] at *; omega)) ?_
        exact ⟨rfl, by rw [if_neg (fun z => absurd z.2.2 c3)]⟩
      · refine w_iconst rfl ?_
        refine w_goto rfl ?_
        refine w_zreturn rfl rfl (by first | omega | (simp only [Int.toNat_natCast, upF_2] at *; omega)) ?_
        exact ⟨rfl, by rw [if_pos ⟨by omega, by omega, Decidable.of_not_not c3⟩]⟩
theorem r_named_l (hb : b < m0) (hg : Rg ρ) (d : Nat) {dir called : Int} (dir1 : -2147483648 ≤ dir) (dir2 : dir ≤ 2147483647) (called1 : -2147483648 ≤ called) (called2 : called ≤ 2147483647) : ∀ m k : Nat, k + m = 256 → Wp b L xs d mi_116 2 [some (.ref m0), some (vI dir), some (vI called), some (vI k)] [] (RH m0 h ρ) (Rt (RH m0 h ρ) (vI (fnd (fun n => ρ.2 1 0 n ≠ 0 ∧ ρ.2 2 0 n = dir ∧ ρ.2 3 0 n = called) k m))) := by
  intro m
  induction m with
  | zero =>
    intro k hk
    refine w_iload_n rfl rfl ?_
    refine w_sipush rfl rfl ?_
    refine w_icge_t rfl (by first | omega | exact (hg.2 _ _ _).1 | exact (hg.1 _).1 | (simp only [Int.toNat_natCast, upF_2] at *; omega)) (by first | omega | exact (hg.2 _ _ _).2 | exact (hg.1 _).2 | (simp only [Int.toNat_natCast, upF_2] at *; omega)) (by first | omega | exact (hg.2 _ _ _).1 | exact (hg.1 _).1 | (simp only [Int.toNat_natCast, upF_2] at *; omega)) (by first | omega | exact (hg.2 _ _ _).2 | exact (hg.1 _).2 | (simp only [Int.toNat_natCast, upF_2] at *; omega)) (by first | omega | (simp only [Int.toNat_natCast, upF_2] at *; omega)) ?_
    refine w_iconst rfl ?_
    refine w_ireturn rfl rfl ?_
    exact ⟨rfl, rfl⟩
  | succ m ih =>
    intro k hk
    refine w_iload_n rfl rfl ?_
    refine w_sipush rfl rfl ?_
    refine w_icge_f rfl (by first | omega | exact (hg.2 _ _ _).1 | exact (hg.1 _).1 | (simp only [Int.toNat_natCast, upF_2] at *; omega)) (by first | omega | exact (hg.2 _ _ _).2 | exact (hg.1 _).2 | (simp only [Int.toNat_natCast, upF_2] at *; omega)) (by first | omega | exact (hg.2 _ _ _).1 | exact (hg.1 _).1 | (simp only [Int.toNat_natCast, upF_2] at *; omega)) (by first | omega | exact (hg.2 _ _ _).2 | exact (hg.1 _).2 | (simp only [Int.toNat_natCast, upF_2] at *; omega)) (by first | omega | (simp only [Int.toNat_natCast, upF_2] at *; omega)) ?_
    refine w_aload_n rfl rfl ?_
    refine m_get rfl rfl ?_
    refine w_iload_n rfl rfl ?_
    refine m_iaload rfl hb rl_1 (by first | omega | (simp only [Int.toNat_natCast, upF_2] at *; omega)) (by first | omega | (simp only [Int.toNat_natCast, upF_2] at *; omega)) ?_
    refine w_ifeq rfl (by first | omega | exact (hg.2 _ _ _).1 | exact (hg.1 _).1 | (simp only [Int.toNat_natCast, upF_2] at *; omega)) (by first | omega | exact (hg.2 _ _ _).2 | exact (hg.1 _).2 | (simp only [Int.toNat_natCast, upF_2] at *; omega)) (fun c1 => ?_) (fun c1 => ?_)
    · refine w_iinc rfl rfl (by decide) ?_
      refine w_goto rfl ?_
      rw [fnd, if_neg (by (try simp only [Int.toNat_natCast, upF_2] at *); omega)]
      exact ih (k + 1) (by omega)
    · refine w_aload_n rfl rfl ?_
      refine m_get rfl rfl ?_
      refine w_iload_n rfl rfl ?_
      refine m_iaload rfl hb rl_2 (by first | omega | (simp only [Int.toNat_natCast, upF_2] at *; omega)) (by first | omega | (simp only [Int.toNat_natCast, upF_2] at *; omega)) ?_
      refine w_iload_n rfl rfl ?_
      refine w_icne rfl (by first | omega | exact (hg.2 _ _ _).1 | exact (hg.1 _).1 | (simp only [Int.toNat_natCast, upF_2] at *; omega)) (by first | omega | exact (hg.2 _ _ _).2 | exact (hg.1 _).2 | (simp only [Int.toNat_natCast, upF_2] at *; omega)) (by first | omega | exact (hg.2 _ _ _).1 | exact (hg.1 _).1 | (simp only [Int.toNat_natCast, upF_2] at *; omega)) (by first | omega | exact (hg.2 _ _ _).2 | exact (hg.1 _).2 | (simp only [Int.toNat_natCast, upF_2] at *; omega)) (fun c2 => ?_) (fun c2 => ?_)
      · refine w_iinc rfl rfl (by decide) ?_
        refine w_goto rfl ?_
        rw [fnd, if_neg (by (try simp only [Int.toNat_natCast, upF_2] at *); omega)]
        exact ih (k + 1) (by omega)
      · refine w_aload_n rfl rfl ?_
        refine m_get rfl rfl ?_
        refine w_iload_n rfl rfl ?_
        refine m_iaload rfl hb rl_3 (by first | omega | (simp only [Int.toNat_natCast, upF_2] at *; omega)) (by first | omega | (simp only [Int.toNat_natCast, upF_2] at *; omega)) ?_
        refine w_iload_n rfl rfl ?_
        refine w_icne rfl (by first | omega | exact (hg.2 _ _ _).1 | exact (hg.1 _).1 | (simp only [Int.toNat_natCast, upF_2] at *; omega)) (by first | omega | exact (hg.2 _ _ _).2 | exact (hg.1 _).2 | (simp only [Int.toNat_natCast, upF_2] at *; omega)) (by first | omega | exact (hg.2 _ _ _).1 | exact (hg.1 _).1 | (simp only [Int.toNat_natCast, upF_2] at *; omega)) (by first | omega | exact (hg.2 _ _ _).2 | exact (hg.1 _).2 | (simp only [Int.toNat_natCast, upF_2] at *; omega)) (fun c3 => ?_) (fun c3 => ?_)
        · refine w_iinc rfl rfl (by decide) ?_
          refine w_goto rfl ?_
          rw [fnd, if_neg (by (try simp only [Int.toNat_natCast, upF_2] at *); omega)]
          exact ih (k + 1) (by omega)
        · refine w_iload_n rfl rfl ?_
          refine w_ireturn rfl rfl ?_
          exact ⟨rfl, by rw [fnd, if_pos (by (try simp only [Int.toNat_natCast, upF_2] at *); omega)]⟩
theorem r_named (hb : b < m0) (hg : Rg ρ) (d : Nat) {dir called : Int} (dir1 : -2147483648 ≤ dir) (dir2 : dir ≤ 2147483647) (called1 : -2147483648 ≤ called) (called2 : called ≤ 2147483647) : Wp b L xs d mi_116 0 (ent (mL mi_116) [.ref m0, vI dir, vI called]) [] (RH m0 h ρ) (Rt (RH m0 h ρ) (vI (rNamed ρ dir called))) := by
  refine w_iconst rfl ?_
  refine w_istore_n rfl (by decide) ?_
  exact r_named_l hb hg d dir1 dir2 called1 called2 255 1 rfl
theorem r_ent_l (hb : b < m0) (hg : Rg ρ) (d : Nat) {dir : Int} (dir1 : -2147483648 ≤ dir) (dir2 : dir ≤ 2147483647) : ∀ m k a : Nat, k + m = 256 → Wp b L xs d mi_121 4 [some (.ref m0), some (vI dir), some (vI a), some (vI k)] [] (RH m0 h ρ) (Rt (RH m0 h ρ) (vI ((a + cnt (fun n => ρ.2 1 0 n ≠ 0 ∧ ρ.2 2 0 n = dir) k m : Nat)))) := by
  intro m
  induction m with
  | zero =>
    intro k a hk
    refine w_iload_n rfl rfl ?_
    refine w_sipush rfl rfl ?_
    refine w_icge_t rfl (by first | omega | exact (hg.2 _ _ _).1 | exact (hg.1 _).1 | (simp only [Int.toNat_natCast, upF_2] at *; omega)) (by first | omega | exact (hg.2 _ _ _).2 | exact (hg.1 _).2 | (simp only [Int.toNat_natCast, upF_2] at *; omega)) (by first | omega | exact (hg.2 _ _ _).1 | exact (hg.1 _).1 | (simp only [Int.toNat_natCast, upF_2] at *; omega)) (by first | omega | exact (hg.2 _ _ _).2 | exact (hg.1 _).2 | (simp only [Int.toNat_natCast, upF_2] at *; omega)) (by first | omega | (simp only [Int.toNat_natCast, upF_2] at *; omega)) ?_
    refine w_iload_n rfl rfl ?_
    refine w_ireturn rfl rfl ?_
    exact ⟨rfl, rfl⟩
  | succ m ih =>
    intro k a hk
    refine w_iload_n rfl rfl ?_
    refine w_sipush rfl rfl ?_
    refine w_icge_f rfl (by first | omega | exact (hg.2 _ _ _).1 | exact (hg.1 _).1 | (simp only [Int.toNat_natCast, upF_2] at *; omega)) (by first | omega | exact (hg.2 _ _ _).2 | exact (hg.1 _).2 | (simp only [Int.toNat_natCast, upF_2] at *; omega)) (by first | omega | exact (hg.2 _ _ _).1 | exact (hg.1 _).1 | (simp only [Int.toNat_natCast, upF_2] at *; omega)) (by first | omega | exact (hg.2 _ _ _).2 | exact (hg.1 _).2 | (simp only [Int.toNat_natCast, upF_2] at *; omega)) (by first | omega | (simp only [Int.toNat_natCast, upF_2] at *; omega)) ?_
    refine w_aload_n rfl rfl ?_
    refine m_get rfl rfl ?_
    refine w_iload_n rfl rfl ?_
    refine m_iaload rfl hb rl_1 (by first | omega | (simp only [Int.toNat_natCast, upF_2] at *; omega)) (by first | omega | (simp only [Int.toNat_natCast, upF_2] at *; omega)) ?_
    refine w_ifeq rfl (by first | omega | exact (hg.2 _ _ _).1 | exact (hg.1 _).1 | (simp only [Int.toNat_natCast, upF_2] at *; omega)) (by first | omega | exact (hg.2 _ _ _).2 | exact (hg.1 _).2 | (simp only [Int.toNat_natCast, upF_2] at *; omega)) (fun c1 => ?_) (fun c1 => ?_)
    · refine w_iinc rfl rfl (by decide) ?_
      refine w_goto rfl ?_
      rw [cnt, if_neg (by (try simp only [Int.toNat_natCast, upF_2] at *); omega), Nat.zero_add]
      exact ih (k + 1) a (by omega)
    · refine w_aload_n rfl rfl ?_
      refine m_get rfl rfl ?_
      refine w_iload_n rfl rfl ?_
      refine m_iaload rfl hb rl_2 (by first | omega | (simp only [Int.toNat_natCast, upF_2] at *; omega)) (by first | omega | (simp only [Int.toNat_natCast, upF_2] at *; omega)) ?_
      refine w_iload_n rfl rfl ?_
      refine w_icne rfl (by first | omega | exact (hg.2 _ _ _).1 | exact (hg.1 _).1 | (simp only [Int.toNat_natCast, upF_2] at *; omega)) (by first | omega | exact (hg.2 _ _ _).2 | exact (hg.1 _).2 | (simp only [Int.toNat_natCast, upF_2] at *; omega)) (by first | omega | exact (hg.2 _ _ _).1 | exact (hg.1 _).1 | (simp only [Int.toNat_natCast, upF_2] at *; omega)) (by first | omega | exact (hg.2 _ _ _).2 | exact (hg.1 _).2 | (simp only [Int.toNat_natCast, upF_2] at *; omega)) (fun c2 => ?_) (fun c2 => ?_)
      · refine w_iinc rfl rfl (by decide) ?_
        refine w_goto rfl ?_
        rw [cnt, if_neg (by (try simp only [Int.toNat_natCast, upF_2] at *); omega), Nat.zero_add]
        exact ih (k + 1) a (by omega)
      · refine w_iinc rfl rfl (by decide) ?_
        refine w_iinc rfl rfl (by decide) ?_
        refine w_goto rfl ?_
        rw [cnt, if_pos (by (try simp only [Int.toNat_natCast, upF_2] at *); omega), ← Nat.add_assoc]
        exact ih (k + 1) (a + 1) (by omega)
theorem r_ent (hb : b < m0) (hg : Rg ρ) (d : Nat) {dir : Int} (dir1 : -2147483648 ≤ dir) (dir2 : dir ≤ 2147483647) : Wp b L xs d mi_121 0 (ent (mL mi_121) [.ref m0, vI dir]) [] (RH m0 h ρ) (Rt (RH m0 h ρ) (vI (rEnt ρ dir))) := by
  refine w_iconst rfl ?_
  refine w_istore_n rfl (by decide) ?_
  refine w_iconst rfl ?_
  refine w_istore_n rfl (by decide) ?_
  have := r_ent_l (b := b) (L := L) (xs := xs) (h := h) hb hg d dir1 dir2 255 1 0 rfl
  rw [Nat.zero_add] at this
  exact this
end Rr1
