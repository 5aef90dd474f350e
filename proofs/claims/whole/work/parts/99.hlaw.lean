/-! the law -/
theorem i32r (x : Int32) : -2147483648 ≤ x.toInt ∧ x.toInt ≤ 2147483647 := by
  have h1 := Int32.le_toInt x
  have h2 := Int32.toInt_lt x
  constructor <;> omega
section Lw
variable {L : Nat} {xs : Nat → Int32} {b m0 A0 tm nc ns : Nat} {ρ : RS} {of : Nat → Value} {H : AH}
theorem Iv_th (hI : Iv b m0 A0 tm nc ns ρ of H) (hb : b < m0) : (∃ fs, H.2.2 m0 = some (.inr (7, fs))) ∧ Wp b L xs 9 mi_113 0 (ent (mL mi_113) [.ref m0]) [] H (Rt H (vI (ρ.1 0))) ∧ H.2.2 (m0 + 1160) = some (.inl (.long, 1, of)) := by
  obtain ⟨A, c, g, na, cs, ad, qs, oc, dt, da, cn, bl, E, fa, ms, lo, Y, rfl, hI⟩ := hI
  have hX := IW_X hI
  obtain ⟨hH, hZ, hga, hgo, hSI, hTr, hTF, hAU, hHI, hRI, hRQ⟩ := hI
  have e := VH_RH hH hZ hga
  refine ⟨⟨mf m0 ρ, by rw [e]; exact RH_obj⟩, ?_, hX⟩
  rw [e]
  exact r_thrown hb hRI.1 9
theorem Iv_bd (hI : Iv b m0 A0 tm nc ns ρ of H) : H.1 ≤ nc + 8000 ∧ H.2.1 ≤ ns + 144000 := by
  obtain ⟨A, c, g, na, cs, ad, qs, oc, dt, da, cn, bl, E, fa, ms, lo, Y, rfl, hI⟩ := hI
  obtain ⟨⟨wr, W, S, ⟨h, W0, P0, len, rfl, hV, -, -, -, y3, y4⟩, -⟩, -⟩ := hI
  obtain ⟨-, -, -, -, -, -, -, -, -, -, -, -, -, a14, -⟩ := hV
  constructor
  · show h.1 ≤ _
    omega
  · show h.2.1 ≤ _
    omega
theorem Iv_more (hI : Iv b m0 A0 tm nc ns ρ of H) : Iv b m0 A0 (tm + 1) (nc + 3) (ns + 600) ρ of H := by
  obtain ⟨A, c, g, na, cs, ad, qs, oc, dt, da, cn, bl, E, fa, ms, lo, Y, e, hI⟩ := hI
  exact ⟨A, c, g, na, cs, ad, qs, oc, dt, da, cn, bl, E, fa, ms, lo, Y, e, IW_more hI (by omega) (by omega) (by omega)⟩
set_option maxRecDepth 20000 in
theorem lw_begin (hb : b < m0) (hL : L ≤ 2560) {i : Nat} (hi : i + 5 ≤ L) (htm : tm ≤ 1000) (hI : Iv b m0 A0 tm nc ns ρ of H) {Q : AH → RO → Prop} {u5 u6 u7 : Option Value} (K : ∀ ρ' of' H' w5 w6 w7, Iv b m0 A0 (tm + 1) (nc + 3) (ns + 600) ρ' of' H' → Wp b L xs 10 mi_145 1079 [some (.ref b), some (.ref A0), some (.ref m0), some (.ref (m0 + 1160)), some (vI i), w5, w6, w7] [] H' Q) : Wp b L xs 10 mi_145 108 [some (.ref b), some (.ref A0), some (.ref m0), some (.ref (m0 + 1160)), some (vI i), u5, u6, u7] [] H Q := by
  obtain ⟨x1, g1⟩ : ∃ y, (xs ((i : Int) + 1).toNat).toInt = y := ⟨_, rfl⟩
  have r1 := i32r (xs ((i : Int) + 1).toNat)
  rw [g1] at r1
  obtain ⟨x2, g2⟩ : ∃ y, (xs ((i : Int) + 2).toNat).toInt = y := ⟨_, rfl⟩
  have r2 := i32r (xs ((i : Int) + 2).toNat)
  rw [g2] at r2
  obtain ⟨x3, g3⟩ : ∃ y, (xs ((i : Int) + 3).toNat).toInt = y := ⟨_, rfl⟩
  have r3 := i32r (xs ((i : Int) + 3).toNat)
  rw [g3] at r3
  obtain ⟨x4, g4⟩ : ∃ y, (xs ((i : Int) + 4).toNat).toInt = y := ⟨_, rfl⟩
  have r4 := i32r (xs ((i : Int) + 4).toNat)
  rw [g4] at r4
  obtain ⟨k, P, k1, k2, wh, wr⟩ := J_begin (L := L) (xs := xs) hI hb r1.1 r1.2
  refine w_aload_n rfl rfl ?_
  refine w_aload_n rfl rfl ?_
  refine w_iload rfl rfl ?_
  refine w_iconst rfl ?_
  refine w_iadd rfl ?_
  refine w_ialoadS rfl (by omega) (by omega) (by omega) ?_
  rw [g1]
  refine w_cs rfl (by decide) (by decide) rfl mt_12 (Nat.le_of_ble_eq_true rfl) (Nat.le_of_ble_eq_true rfl) wh ?_
  rintro h1 _ ⟨rfl, hP⟩
  refine ⟨_, rfl, ?_⟩
  obtain ⟨⟨fs1, ho1⟩, wr⟩ := wr h1 hP
  refine w_istore rfl (by decide) ?_
  refine w_aload_n rfl rfl ?_
  refine w_aload_n rfl rfl ?_
  refine w_iload rfl rfl ?_
  refine w_iconst rfl ?_
  refine w_iadd rfl ?_
  refine w_ialoadS rfl (by omega) (by omega) (by omega) ?_
  rw [g1]
  refine w_cv rfl (by decide) (by decide) rfl ho1 mt_111 (Nat.le_of_ble_eq_true rfl) (Nat.le_of_ble_eq_true rfl) wr ?_
  rintro h2 _ ⟨rfl, ρ2, of2, hI2, e0⟩
  refine ⟨_, rfl, ?_⟩
  obtain ⟨⟨fs2, ho2⟩, wt, hX2⟩ := Iv_th (L := L) (xs := xs) hI2 hb
  refine w_aload_n rfl rfl ?_
  refine w_cvV rfl (by decide) (by decide) rfl ho2 mt_113 (Nat.le_of_ble_eq_true rfl) (Nat.le_of_ble_eq_true rfl) wt ?_
  refine w_iload rfl rfl ?_
  refine w_iceq_t rfl (by omega) (by omega) (by omega) (by omega) e0 ?_
  refine w_goto rfl ?_
  exact K _ _ _ _ _ _ hI2
set_option maxRecDepth 20000 in
theorem lw_make (hb : b < m0) (hL : L ≤ 2560) {i : Nat} (hi : i + 5 ≤ L) (htm : tm ≤ 1000) (hI : Iv b m0 A0 tm nc ns ρ of H) {Q : AH → RO → Prop} {u5 u6 u7 : Option Value} (K : ∀ ρ' of' H' w5 w6 w7, Iv b m0 A0 (tm + 1) (nc + 3) (ns + 600) ρ' of' H' → Wp b L xs 10 mi_145 1079 [some (.ref b), some (.ref A0), some (.ref m0), some (.ref (m0 + 1160)), some (vI i), w5, w6, w7] [] H' Q) : Wp b L xs 10 mi_145 144 [some (.ref b), some (.ref A0), some (.ref m0), some (.ref (m0 + 1160)), some (vI i), u5, u6, u7] [] H Q := by
  obtain ⟨x1, g1⟩ : ∃ y, (xs ((i : Int) + 1).toNat).toInt = y := ⟨_, rfl⟩
  have r1 := i32r (xs ((i : Int) + 1).toNat)
  rw [g1] at r1
  obtain ⟨x2, g2⟩ : ∃ y, (xs ((i : Int) + 2).toNat).toInt = y := ⟨_, rfl⟩
  have r2 := i32r (xs ((i : Int) + 2).toNat)
  rw [g2] at r2
  obtain ⟨x3, g3⟩ : ∃ y, (xs ((i : Int) + 3).toNat).toInt = y := ⟨_, rfl⟩
  have r3 := i32r (xs ((i : Int) + 3).toNat)
  rw [g3] at r3
  obtain ⟨x4, g4⟩ : ∃ y, (xs ((i : Int) + 4).toNat).toInt = y := ⟨_, rfl⟩
  have r4 := i32r (xs ((i : Int) + 4).toNat)
  rw [g4] at r4
  by_cases z : x3 = 0
  · obtain ⟨k, v, P, k1, k2, wh, wr⟩ := J_make (L := L) (xs := xs) (f := 0) hI hb htm r1.1 r1.2 r2.1 r2.2 (Or.inl rfl)
    refine w_aload_n rfl rfl ?_
    refine w_aload_n rfl rfl ?_
    refine w_iload rfl rfl ?_
    refine w_iconst rfl ?_
    refine w_iadd rfl ?_
    refine w_ialoadS rfl (by omega) (by omega) (by omega) ?_
    rw [g1]
    refine w_aload_n rfl rfl ?_
    refine w_iload rfl rfl ?_
    refine w_iconst rfl ?_
    refine w_iadd rfl ?_
    refine w_ialoadS rfl (by omega) (by omega) (by omega) ?_
    rw [g2]
    refine w_aload_n rfl rfl ?_
    refine w_iload rfl rfl ?_
    refine w_iconst rfl ?_
    refine w_iadd rfl ?_
    refine w_ialoadS rfl (by omega) (by omega) (by omega) ?_
    rw [g3]
    refine w_ifeq_t rfl (by omega) (by omega) z ?_
    refine w_iconst rfl ?_
    refine w_aload_n rfl rfl ?_
    refine w_cs rfl (by decide) (by decide) rfl mt_14 (Nat.le_of_ble_eq_true rfl) (Nat.le_of_ble_eq_true rfl) wh ?_
    rintro h1 _ ⟨rfl, hP⟩
    refine ⟨_, rfl, ?_⟩
    obtain ⟨⟨fs1, ho1⟩, wr⟩ := wr h1 hP
    refine w_istore rfl (by decide) ?_
    refine w_aload_n rfl rfl ?_
    refine w_aload_n rfl rfl ?_
    refine w_iload rfl rfl ?_
    refine w_iconst rfl ?_
    refine w_iadd rfl ?_
    refine w_ialoadS rfl (by omega) (by omega) (by omega) ?_
    rw [g1]
    refine w_aload_n rfl rfl ?_
    refine w_iload rfl rfl ?_
    refine w_iconst rfl ?_
    refine w_iadd rfl ?_
    refine w_ialoadS rfl (by omega) (by omega) (by omega) ?_
    rw [g2]
    refine w_aload_n rfl rfl ?_
    refine w_iload rfl rfl ?_
    refine w_iconst rfl ?_
    refine w_iadd rfl ?_
    refine w_ialoadS rfl (by omega) (by omega) (by omega) ?_
    rw [g3]
    refine w_ifeq_t rfl (by omega) (by omega) z ?_
    refine w_iconst rfl ?_
    refine w_cv rfl (by decide) (by decide) rfl ho1 mt_114 (Nat.le_of_ble_eq_true rfl) (Nat.le_of_ble_eq_true rfl) wr ?_
    rintro h2 _ ⟨rfl, ρ2, of2, hI2, e0, ev⟩
    refine ⟨_, rfl, ?_⟩
    obtain ⟨⟨fs2, ho2⟩, wt, hX2⟩ := Iv_th (L := L) (xs := xs) hI2 hb
    refine w_istore rfl (by decide) ?_
    refine w_aload_n rfl rfl ?_
    refine w_cvV rfl (by decide) (by decide) rfl ho2 mt_113 (Nat.le_of_ble_eq_true rfl) (Nat.le_of_ble_eq_true rfl) wt ?_
    refine w_iload rfl rfl ?_
    refine w_iceq_t rfl (by omega) (by omega) (by omega) (by omega) e0 ?_
    refine w_iload rfl rfl ?_
    by_cases hk : k = 0
    · refine w_ifne_f rfl (by omega) (by omega) (by omega) ?_
      refine w_aload_n rfl rfl ?_
      refine w_iconst rfl ?_
      refine w_laload rfl hX2 (by decide) (by decide) (by decide) ?_
      rw [show of2 (0 : Int).toNat = .long (Int32.ofInt v).toInt64 from ev hk]
      refine w_iload rfl rfl ?_
      refine w_i2l rfl ?_
      refine w_lcmp rfl ?_
      rw [if_neg (Int.lt_irrefl _), if_pos rfl]
      refine w_ifeq_t rfl (by decide) (by decide) rfl ?_
      refine w_goto rfl ?_
      exact K _ _ _ _ _ _ hI2
    · refine w_ifne_t rfl (by omega) (by omega) (by omega) ?_
      refine w_goto rfl ?_
      exact K _ _ _ _ _ _ hI2
  · obtain ⟨k, v, P, k1, k2, wh, wr⟩ := J_make (L := L) (xs := xs) (f := 1) hI hb htm r1.1 r1.2 r2.1 r2.2 (Or.inr rfl)
    refine w_aload_n rfl rfl ?_
    refine w_aload_n rfl rfl ?_
    refine w_iload rfl rfl ?_
    refine w_iconst rfl ?_
    refine w_iadd rfl ?_
    refine w_ialoadS rfl (by omega) (by omega) (by omega) ?_
    rw [g1]
    refine w_aload_n rfl rfl ?_
    refine w_iload rfl rfl ?_
    refine w_iconst rfl ?_
    refine w_iadd rfl ?_
    refine w_ialoadS rfl (by omega) (by omega) (by omega) ?_
    rw [g2]
    refine w_aload_n rfl rfl ?_
    refine w_iload rfl rfl ?_
    refine w_iconst rfl ?_
    refine w_iadd rfl ?_
    refine w_ialoadS rfl (by omega) (by omega) (by omega) ?_
    rw [g3]
    refine w_ifeq_f rfl (by omega) (by omega) z ?_
    refine w_iconst rfl ?_
    refine w_goto rfl ?_
    refine w_aload_n rfl rfl ?_
    refine w_cs rfl (by decide) (by decide) rfl mt_14 (Nat.le_of_ble_eq_true rfl) (Nat.le_of_ble_eq_true rfl) wh ?_
    rintro h1 _ ⟨rfl, hP⟩
    refine ⟨_, rfl, ?_⟩
    obtain ⟨⟨fs1, ho1⟩, wr⟩ := wr h1 hP
    refine w_istore rfl (by decide) ?_
    refine w_aload_n rfl rfl ?_
    refine w_aload_n rfl rfl ?_
    refine w_iload rfl rfl ?_
    refine w_iconst rfl ?_
    refine w_iadd rfl ?_
    refine w_ialoadS rfl (by omega) (by omega) (by omega) ?_
    rw [g1]
    refine w_aload_n rfl rfl ?_
    refine w_iload rfl rfl ?_
    refine w_iconst rfl ?_
    refine w_iadd rfl ?_
    refine w_ialoadS rfl (by omega) (by omega) (by omega) ?_
    rw [g2]
    refine w_aload_n rfl rfl ?_
    refine w_iload rfl rfl ?_
    refine w_iconst rfl ?_
    refine w_iadd rfl ?_
    refine w_ialoadS rfl (by omega) (by omega) (by omega) ?_
    rw [g3]
    refine w_ifeq_f rfl (by omega) (by omega) z ?_
    refine w_iconst rfl ?_
    refine w_goto rfl ?_
    refine w_cv rfl (by decide) (by decide) rfl ho1 mt_114 (Nat.le_of_ble_eq_true rfl) (Nat.le_of_ble_eq_true rfl) wr ?_
    rintro h2 _ ⟨rfl, ρ2, of2, hI2, e0, ev⟩
    refine ⟨_, rfl, ?_⟩
    obtain ⟨⟨fs2, ho2⟩, wt, hX2⟩ := Iv_th (L := L) (xs := xs) hI2 hb
    refine w_istore rfl (by decide) ?_
    refine w_aload_n rfl rfl ?_
    refine w_cvV rfl (by decide) (by decide) rfl ho2 mt_113 (Nat.le_of_ble_eq_true rfl) (Nat.le_of_ble_eq_true rfl) wt ?_
    refine w_iload rfl rfl ?_
    refine w_iceq_t rfl (by omega) (by omega) (by omega) (by omega) e0 ?_
    refine w_iload rfl rfl ?_
    by_cases hk : k = 0
    · refine w_ifne_f rfl (by omega) (by omega) (by omega) ?_
      refine w_aload_n rfl rfl ?_
      refine w_iconst rfl ?_
      refine w_laload rfl hX2 (by decide) (by decide) (by decide) ?_
      rw [show of2 (0 : Int).toNat = .long (Int32.ofInt v).toInt64 from ev hk]
      refine w_iload rfl rfl ?_
      refine w_i2l rfl ?_
      refine w_lcmp rfl ?_
      rw [if_neg (Int.lt_irrefl _), if_pos rfl]
      refine w_ifeq_t rfl (by decide) (by decide) rfl ?_
      refine w_goto rfl ?_
      exact K _ _ _ _ _ _ hI2
    · refine w_ifne_t rfl (by omega) (by omega) (by omega) ?_
      refine w_goto rfl ?_
      exact K _ _ _ _ _ _ hI2
set_option maxRecDepth 20000 in
theorem lw_write (hb : b < m0) (hL : L ≤ 2560) {i : Nat} (hi : i + 5 ≤ L) (htm : tm ≤ 1000) (hI : Iv b m0 A0 tm nc ns ρ of H) {Q : AH → RO → Prop} {u5 u6 u7 : Option Value} (K : ∀ ρ' of' H' w5 w6 w7, Iv b m0 A0 (tm + 1) (nc + 3) (ns + 600) ρ' of' H' → Wp b L xs 10 mi_145 1079 [some (.ref b), some (.ref A0), some (.ref m0), some (.ref (m0 + 1160)), some (vI i), w5, w6, w7] [] H' Q) : Wp b L xs 10 mi_145 240 [some (.ref b), some (.ref A0), some (.ref m0), some (.ref (m0 + 1160)), some (vI i), u5, u6, u7] [] H Q := by
  obtain ⟨x1, g1⟩ : ∃ y, (xs ((i : Int) + 1).toNat).toInt = y := ⟨_, rfl⟩
  have r1 := i32r (xs ((i : Int) + 1).toNat)
  rw [g1] at r1
  obtain ⟨x2, g2⟩ : ∃ y, (xs ((i : Int) + 2).toNat).toInt = y := ⟨_, rfl⟩
  have r2 := i32r (xs ((i : Int) + 2).toNat)
  rw [g2] at r2
  obtain ⟨x3, g3⟩ : ∃ y, (xs ((i : Int) + 3).toNat).toInt = y := ⟨_, rfl⟩
  have r3 := i32r (xs ((i : Int) + 3).toNat)
  rw [g3] at r3
  obtain ⟨x4, g4⟩ : ∃ y, (xs ((i : Int) + 4).toNat).toInt = y := ⟨_, rfl⟩
  have r4 := i32r (xs ((i : Int) + 4).toNat)
  rw [g4] at r4
  obtain ⟨k, v, P, k1, k2, wh, wr⟩ := J_write (L := L) (xs := xs) hI hb htm (v := ((Int32.ofInt x3).toInt64 <<< ((Int32.ofInt 32).toInt64 &&& 63)) ||| ((Int32.ofInt x4).toInt64 &&& 4294967295)) r1.1 r1.2 r2.1 r2.2
  refine w_aload_n rfl rfl ?_
  refine w_aload_n rfl rfl ?_
  refine w_iload rfl rfl ?_
  refine w_iconst rfl ?_
  refine w_iadd rfl ?_
  refine w_ialoadS rfl (by omega) (by omega) (by omega) ?_
  rw [g1]
  refine w_aload_n rfl rfl ?_
  refine w_iload rfl rfl ?_
  refine w_iconst rfl ?_
  refine w_iadd rfl ?_
  refine w_ialoadS rfl (by omega) (by omega) (by omega) ?_
  rw [g2]
  refine w_aload_n rfl rfl ?_
  refine w_iload rfl rfl ?_
  refine w_iconst rfl ?_
  refine w_iadd rfl ?_
  refine w_ialoadS rfl (by omega) (by omega) (by omega) ?_
  rw [g3]
  refine w_i2l rfl ?_
  refine w_bipush rfl rfl ?_
  refine w_lshlR rfl ?_
  refine w_aload_n rfl rfl ?_
  refine w_iload rfl rfl ?_
  refine w_iconst rfl ?_
  refine w_iadd rfl ?_
  refine w_ialoadS rfl (by omega) (by omega) (by omega) ?_
  rw [g4]
  refine w_i2l rfl ?_
  refine w_ldc2 rfl rfl ?_
  refine w_landR rfl ?_
  refine w_lorR rfl ?_
  refine w_aload_n rfl rfl ?_
  refine w_cs rfl (by decide) (by decide) rfl mt_24 (Nat.le_of_ble_eq_true rfl) (Nat.le_of_ble_eq_true rfl) wh ?_
  rintro h1 _ ⟨rfl, hP⟩
  refine ⟨_, rfl, ?_⟩
  obtain ⟨⟨fs1, ho1⟩, wr⟩ := wr h1 hP
  refine w_istore rfl (by decide) ?_
  refine w_aload_n rfl rfl ?_
  refine w_aload_n rfl rfl ?_
  refine w_iload rfl rfl ?_
  refine w_iconst rfl ?_
  refine w_iadd rfl ?_
  refine w_ialoadS rfl (by omega) (by omega) (by omega) ?_
  rw [g1]
  refine w_aload_n rfl rfl ?_
  refine w_iload rfl rfl ?_
  refine w_iconst rfl ?_
  refine w_iadd rfl ?_
  refine w_ialoadS rfl (by omega) (by omega) (by omega) ?_
  rw [g2]
  refine w_aload_n rfl rfl ?_
  refine w_iload rfl rfl ?_
  refine w_iconst rfl ?_
  refine w_iadd rfl ?_
  refine w_ialoadS rfl (by omega) (by omega) (by omega) ?_
  rw [g3]
  refine w_i2l rfl ?_
  refine w_bipush rfl rfl ?_
  refine w_lshlR rfl ?_
  refine w_aload_n rfl rfl ?_
  refine w_iload rfl rfl ?_
  refine w_iconst rfl ?_
  refine w_iadd rfl ?_
  refine w_ialoadS rfl (by omega) (by omega) (by omega) ?_
  rw [g4]
  refine w_i2l rfl ?_
  refine w_ldc2 rfl rfl ?_
  refine w_landR rfl ?_
  refine w_lorR rfl ?_
  refine w_cv rfl (by decide) (by decide) rfl ho1 mt_117 (Nat.le_of_ble_eq_true rfl) (Nat.le_of_ble_eq_true rfl) wr ?_
  rintro h2 _ ⟨rfl, ρ2, of2, hI2, e0, ev⟩
  refine ⟨_, rfl, ?_⟩
  obtain ⟨⟨fs2, ho2⟩, wt, hX2⟩ := Iv_th (L := L) (xs := xs) hI2 hb
  refine w_istore rfl (by decide) ?_
  refine w_aload_n rfl rfl ?_
  refine w_cvV rfl (by decide) (by decide) rfl ho2 mt_113 (Nat.le_of_ble_eq_true rfl) (Nat.le_of_ble_eq_true rfl) wt ?_
  refine w_iload rfl rfl ?_
  refine w_iceq_t rfl (by omega) (by omega) (by omega) (by omega) e0 ?_
  refine w_iload rfl rfl ?_
  by_cases hk : k = 0
  · refine w_ifne_f rfl (by omega) (by omega) (by omega) ?_
    refine w_aload_n rfl rfl ?_
    refine w_iconst rfl ?_
    refine w_laload rfl hX2 (by decide) (by decide) (by decide) ?_
    rw [show of2 (0 : Int).toNat = .long (Int32.ofInt v).toInt64 from ev hk]
    refine w_iload rfl rfl ?_
    refine w_i2l rfl ?_
    refine w_lcmp rfl ?_
    rw [if_neg (Int.lt_irrefl _), if_pos rfl]
    refine w_ifeq_t rfl (by decide) (by decide) rfl ?_
    refine w_goto rfl ?_
    exact K _ _ _ _ _ _ hI2
  · refine w_ifne_t rfl (by omega) (by omega) (by omega) ?_
    refine w_goto rfl ?_
    exact K _ _ _ _ _ _ hI2
set_option maxRecDepth 20000 in
theorem lw_cut (hb : b < m0) (hL : L ≤ 2560) {i : Nat} (hi : i + 5 ≤ L) (htm : tm ≤ 1000) (hI : Iv b m0 A0 tm nc ns ρ of H) {Q : AH → RO → Prop} {u5 u6 u7 : Option Value} (K : ∀ ρ' of' H' w5 w6 w7, Iv b m0 A0 (tm + 1) (nc + 3) (ns + 600) ρ' of' H' → Wp b L xs 10 mi_145 1079 [some (.ref b), some (.ref A0), some (.ref m0), some (.ref (m0 + 1160)), some (vI i), w5, w6, w7] [] H' Q) : Wp b L xs 10 mi_145 352 [some (.ref b), some (.ref A0), some (.ref m0), some (.ref (m0 + 1160)), some (vI i), u5, u6, u7] [] H Q := by
  obtain ⟨x1, g1⟩ : ∃ y, (xs ((i : Int) + 1).toNat).toInt = y := ⟨_, rfl⟩
  have r1 := i32r (xs ((i : Int) + 1).toNat)
  rw [g1] at r1
  obtain ⟨x2, g2⟩ : ∃ y, (xs ((i : Int) + 2).toNat).toInt = y := ⟨_, rfl⟩
  have r2 := i32r (xs ((i : Int) + 2).toNat)
  rw [g2] at r2
  obtain ⟨x3, g3⟩ : ∃ y, (xs ((i : Int) + 3).toNat).toInt = y := ⟨_, rfl⟩
  have r3 := i32r (xs ((i : Int) + 3).toNat)
  rw [g3] at r3
  obtain ⟨x4, g4⟩ : ∃ y, (xs ((i : Int) + 4).toNat).toInt = y := ⟨_, rfl⟩
  have r4 := i32r (xs ((i : Int) + 4).toNat)
  rw [g4] at r4
  obtain ⟨k, P, k1, k2, wh, wr⟩ := J_cut (L := L) (xs := xs) hI hb htm r1.1 r1.2 r2.1 r2.2
  refine w_aload_n rfl rfl ?_
  refine w_aload_n rfl rfl ?_
  refine w_iload rfl rfl ?_
  refine w_iconst rfl ?_
  refine w_iadd rfl ?_
  refine w_ialoadS rfl (by omega) (by omega) (by omega) ?_
  rw [g1]
  refine w_aload_n rfl rfl ?_
  refine w_iload rfl rfl ?_
  refine w_iconst rfl ?_
  refine w_iadd rfl ?_
  refine w_ialoadS rfl (by omega) (by omega) (by omega) ?_
  rw [g2]
  refine w_cs rfl (by decide) (by decide) rfl mt_29 (Nat.le_of_ble_eq_true rfl) (Nat.le_of_ble_eq_true rfl) wh ?_
  rintro h1 _ ⟨rfl, hP⟩
  refine ⟨_, rfl, ?_⟩
  obtain ⟨⟨fs1, ho1⟩, wr⟩ := wr h1 hP
  refine w_istore rfl (by decide) ?_
  refine w_aload_n rfl rfl ?_
  refine w_aload_n rfl rfl ?_
  refine w_iload rfl rfl ?_
  refine w_iconst rfl ?_
  refine w_iadd rfl ?_
  refine w_ialoadS rfl (by omega) (by omega) (by omega) ?_
  rw [g1]
  refine w_aload_n rfl rfl ?_
  refine w_iload rfl rfl ?_
  refine w_iconst rfl ?_
  refine w_iadd rfl ?_
  refine w_ialoadS rfl (by omega) (by omega) (by omega) ?_
  rw [g2]
  refine w_cv rfl (by decide) (by decide) rfl ho1 mt_118 (Nat.le_of_ble_eq_true rfl) (Nat.le_of_ble_eq_true rfl) wr ?_
  rintro h2 _ ⟨rfl, ρ2, of2, hI2, e0⟩
  refine ⟨_, rfl, ?_⟩
  obtain ⟨⟨fs2, ho2⟩, wt, hX2⟩ := Iv_th (L := L) (xs := xs) hI2 hb
  refine w_aload_n rfl rfl ?_
  refine w_cvV rfl (by decide) (by decide) rfl ho2 mt_113 (Nat.le_of_ble_eq_true rfl) (Nat.le_of_ble_eq_true rfl) wt ?_
  refine w_iload rfl rfl ?_
  refine w_iceq_t rfl (by omega) (by omega) (by omega) (by omega) e0 ?_
  refine w_goto rfl ?_
  exact K _ _ _ _ _ _ hI2
set_option maxRecDepth 20000 in
theorem lw_move (hb : b < m0) (hL : L ≤ 2560) {i : Nat} (hi : i + 5 ≤ L) (htm : tm ≤ 1000) (hI : Iv b m0 A0 tm nc ns ρ of H) {Q : AH → RO → Prop} {u5 u6 u7 : Option Value} (K : ∀ ρ' of' H' w5 w6 w7, Iv b m0 A0 (tm + 1) (nc + 3) (ns + 600) ρ' of' H' → Wp b L xs 10 mi_145 1079 [some (.ref b), some (.ref A0), some (.ref m0), some (.ref (m0 + 1160)), some (vI i), w5, w6, w7] [] H' Q) : Wp b L xs 10 mi_145 400 [some (.ref b), some (.ref A0), some (.ref m0), some (.ref (m0 + 1160)), some (vI i), u5, u6, u7] [] H Q := by
  obtain ⟨x1, g1⟩ : ∃ y, (xs ((i : Int) + 1).toNat).toInt = y := ⟨_, rfl⟩
  have r1 := i32r (xs ((i : Int) + 1).toNat)
  rw [g1] at r1
  obtain ⟨x2, g2⟩ : ∃ y, (xs ((i : Int) + 2).toNat).toInt = y := ⟨_, rfl⟩
  have r2 := i32r (xs ((i : Int) + 2).toNat)
  rw [g2] at r2
  obtain ⟨x3, g3⟩ : ∃ y, (xs ((i : Int) + 3).toNat).toInt = y := ⟨_, rfl⟩
  have r3 := i32r (xs ((i : Int) + 3).toNat)
  rw [g3] at r3
  obtain ⟨x4, g4⟩ : ∃ y, (xs ((i : Int) + 4).toNat).toInt = y := ⟨_, rfl⟩
  have r4 := i32r (xs ((i : Int) + 4).toNat)
  rw [g4] at r4
  obtain ⟨k, P, k1, k2, wh, wr⟩ := J_move (L := L) (xs := xs) hI hb htm r1.1 r1.2 r2.1 r2.2 r3.1 r3.2
  refine w_aload_n rfl rfl ?_
  refine w_aload_n rfl rfl ?_
  refine w_iload rfl rfl ?_
  refine w_iconst rfl ?_
  refine w_iadd rfl ?_
  refine w_ialoadS rfl (by omega) (by omega) (by omega) ?_
  rw [g1]
  refine w_aload_n rfl rfl ?_
  refine w_iload rfl rfl ?_
  refine w_iconst rfl ?_
  refine w_iadd rfl ?_
  refine w_ialoadS rfl (by omega) (by omega) (by omega) ?_
  rw [g2]
  refine w_aload_n rfl rfl ?_
  refine w_iload rfl rfl ?_
  refine w_iconst rfl ?_
  refine w_iadd rfl ?_
  refine w_ialoadS rfl (by omega) (by omega) (by omega) ?_
  rw [g3]
  refine w_cs rfl (by decide) (by decide) rfl mt_32 (Nat.le_of_ble_eq_true rfl) (Nat.le_of_ble_eq_true rfl) wh ?_
  rintro h1 _ ⟨rfl, hP⟩
  refine ⟨_, rfl, ?_⟩
  obtain ⟨⟨fs1, ho1⟩, wr⟩ := wr h1 hP
  refine w_istore rfl (by decide) ?_
  refine w_aload_n rfl rfl ?_
  refine w_aload_n rfl rfl ?_
  refine w_iload rfl rfl ?_
  refine w_iconst rfl ?_
  refine w_iadd rfl ?_
  refine w_ialoadS rfl (by omega) (by omega) (by omega) ?_
  rw [g1]
  refine w_aload_n rfl rfl ?_
  refine w_iload rfl rfl ?_
  refine w_iconst rfl ?_
  refine w_iadd rfl ?_
  refine w_ialoadS rfl (by omega) (by omega) (by omega) ?_
  rw [g2]
  refine w_aload_n rfl rfl ?_
  refine w_iload rfl rfl ?_
  refine w_iconst rfl ?_
  refine w_iadd rfl ?_
  refine w_ialoadS rfl (by omega) (by omega) (by omega) ?_
  rw [g3]
  refine w_cv rfl (by decide) (by decide) rfl ho1 mt_119 (Nat.le_of_ble_eq_true rfl) (Nat.le_of_ble_eq_true rfl) wr ?_
  rintro h2 _ ⟨rfl, ρ2, of2, hI2, e0⟩
  refine ⟨_, rfl, ?_⟩
  obtain ⟨⟨fs2, ho2⟩, wt, hX2⟩ := Iv_th (L := L) (xs := xs) hI2 hb
  refine w_aload_n rfl rfl ?_
  refine w_cvV rfl (by decide) (by decide) rfl ho2 mt_113 (Nat.le_of_ble_eq_true rfl) (Nat.le_of_ble_eq_true rfl) wt ?_
  refine w_iload rfl rfl ?_
  refine w_iceq_t rfl (by omega) (by omega) (by omega) (by omega) e0 ?_
  refine w_goto rfl ?_
  exact K _ _ _ _ _ _ hI2
set_option maxRecDepth 20000 in
theorem lw_remove (hb : b < m0) (hL : L ≤ 2560) {i : Nat} (hi : i + 5 ≤ L) (htm : tm ≤ 1000) (hI : Iv b m0 A0 tm nc ns ρ of H) {Q : AH → RO → Prop} {u5 u6 u7 : Option Value} (K : ∀ ρ' of' H' w5 w6 w7, Iv b m0 A0 (tm + 1) (nc + 3) (ns + 600) ρ' of' H' → Wp b L xs 10 mi_145 1079 [some (.ref b), some (.ref A0), some (.ref m0), some (.ref (m0 + 1160)), some (vI i), w5, w6, w7] [] H' Q) : Wp b L xs 10 mi_145 460 [some (.ref b), some (.ref A0), some (.ref m0), some (.ref (m0 + 1160)), some (vI i), u5, u6, u7] [] H Q := by
  obtain ⟨x1, g1⟩ : ∃ y, (xs ((i : Int) + 1).toNat).toInt = y := ⟨_, rfl⟩
  have r1 := i32r (xs ((i : Int) + 1).toNat)
  rw [g1] at r1
  obtain ⟨x2, g2⟩ : ∃ y, (xs ((i : Int) + 2).toNat).toInt = y := ⟨_, rfl⟩
  have r2 := i32r (xs ((i : Int) + 2).toNat)
  rw [g2] at r2
  obtain ⟨x3, g3⟩ : ∃ y, (xs ((i : Int) + 3).toNat).toInt = y := ⟨_, rfl⟩
  have r3 := i32r (xs ((i : Int) + 3).toNat)
  rw [g3] at r3
  obtain ⟨x4, g4⟩ : ∃ y, (xs ((i : Int) + 4).toNat).toInt = y := ⟨_, rfl⟩
  have r4 := i32r (xs ((i : Int) + 4).toNat)
  rw [g4] at r4
  obtain ⟨k, P, k1, k2, wh, wr⟩ := J_rem (L := L) (xs := xs) hI hb htm r1.1 r1.2
  refine w_aload_n rfl rfl ?_
  refine w_aload_n rfl rfl ?_
  refine w_iload rfl rfl ?_
  refine w_iconst rfl ?_
  refine w_iadd rfl ?_
  refine w_ialoadS rfl (by omega) (by omega) (by omega) ?_
  rw [g1]
  refine w_cs rfl (by decide) (by decide) rfl mt_39 (Nat.le_of_ble_eq_true rfl) (Nat.le_of_ble_eq_true rfl) wh ?_
  rintro h1 _ ⟨rfl, hP⟩
  refine ⟨_, rfl, ?_⟩
  obtain ⟨⟨fs1, ho1⟩, wr⟩ := wr h1 hP
  refine w_istore rfl (by decide) ?_
  refine w_aload_n rfl rfl ?_
  refine w_aload_n rfl rfl ?_
  refine w_iload rfl rfl ?_
  refine w_iconst rfl ?_
  refine w_iadd rfl ?_
  refine w_ialoadS rfl (by omega) (by omega) (by omega) ?_
  rw [g1]
  refine w_cv rfl (by decide) (by decide) rfl ho1 mt_120 (Nat.le_of_ble_eq_true rfl) (Nat.le_of_ble_eq_true rfl) wr ?_
  rintro h2 _ ⟨rfl, ρ2, of2, hI2, e0⟩
  refine ⟨_, rfl, ?_⟩
  obtain ⟨⟨fs2, ho2⟩, wt, hX2⟩ := Iv_th (L := L) (xs := xs) hI2 hb
  refine w_aload_n rfl rfl ?_
  refine w_cvV rfl (by decide) (by decide) rfl ho2 mt_113 (Nat.le_of_ble_eq_true rfl) (Nat.le_of_ble_eq_true rfl) wt ?_
  refine w_iload rfl rfl ?_
  refine w_iceq_t rfl (by omega) (by omega) (by omega) (by omega) e0 ?_
  refine w_goto rfl ?_
  exact K _ _ _ _ _ _ hI2
set_option maxRecDepth 20000 in
theorem lw_dump (hb : b < m0) (hL : L ≤ 2560) {i : Nat} (hi : i + 5 ≤ L) (htm : tm ≤ 1000) (hI : Iv b m0 A0 tm nc ns ρ of H) {Q : AH → RO → Prop} {u5 u6 u7 : Option Value} (K : ∀ ρ' of' H' w5 w6 w7, Iv b m0 A0 (tm + 1) (nc + 3) (ns + 600) ρ' of' H' → Wp b L xs 10 mi_145 1079 [some (.ref b), some (.ref A0), some (.ref m0), some (.ref (m0 + 1160)), some (vI i), w5, w6, w7] [] H' Q) : Wp b L xs 10 mi_145 496 [some (.ref b), some (.ref A0), some (.ref m0), some (.ref (m0 + 1160)), some (vI i), u5, u6, u7] [] H Q := by
  obtain ⟨x1, g1⟩ : ∃ y, (xs ((i : Int) + 1).toNat).toInt = y := ⟨_, rfl⟩
  have r1 := i32r (xs ((i : Int) + 1).toNat)
  rw [g1] at r1
  obtain ⟨x2, g2⟩ : ∃ y, (xs ((i : Int) + 2).toNat).toInt = y := ⟨_, rfl⟩
  have r2 := i32r (xs ((i : Int) + 2).toNat)
  rw [g2] at r2
  obtain ⟨x3, g3⟩ : ∃ y, (xs ((i : Int) + 3).toNat).toInt = y := ⟨_, rfl⟩
  have r3 := i32r (xs ((i : Int) + 3).toNat)
  rw [g3] at r3
  obtain ⟨x4, g4⟩ : ∃ y, (xs ((i : Int) + 4).toNat).toInt = y := ⟨_, rfl⟩
  have r4 := i32r (xs ((i : Int) + 4).toNat)
  rw [g4] at r4
  obtain ⟨k, v, P, k1, k2, wh, wr⟩ := J_dump (L := L) (xs := xs) hI hb htm r1.1 r1.2
  refine w_aload_n rfl rfl ?_
  refine w_aload_n rfl rfl ?_
  refine w_iload rfl rfl ?_
  refine w_iconst rfl ?_
  refine w_iadd rfl ?_
  refine w_ialoadS rfl (by omega) (by omega) (by omega) ?_
  rw [g1]
  refine w_aload_n rfl rfl ?_
  refine w_cs rfl (by decide) (by decide) rfl mt_42 (Nat.le_of_ble_eq_true rfl) (Nat.le_of_ble_eq_true rfl) wh ?_
  rintro h1 _ ⟨rfl, hP⟩
  refine ⟨_, rfl, ?_⟩
  obtain ⟨⟨fs1, ho1⟩, wr⟩ := wr h1 hP
  refine w_istore rfl (by decide) ?_
  refine w_aload_n rfl rfl ?_
  refine w_aload_n rfl rfl ?_
  refine w_iload rfl rfl ?_
  refine w_iconst rfl ?_
  refine w_iadd rfl ?_
  refine w_ialoadS rfl (by omega) (by omega) (by omega) ?_
  rw [g1]
  refine w_cv rfl (by decide) (by decide) rfl ho1 mt_122 (Nat.le_of_ble_eq_true rfl) (Nat.le_of_ble_eq_true rfl) wr ?_
  rintro h2 _ ⟨rfl, ρ2, of2, hI2, e0, ev⟩
  refine ⟨_, rfl, ?_⟩
  obtain ⟨⟨fs2, ho2⟩, wt, hX2⟩ := Iv_th (L := L) (xs := xs) hI2 hb
  refine w_istore rfl (by decide) ?_
  refine w_aload_n rfl rfl ?_
  refine w_cvV rfl (by decide) (by decide) rfl ho2 mt_113 (Nat.le_of_ble_eq_true rfl) (Nat.le_of_ble_eq_true rfl) wt ?_
  refine w_iload rfl rfl ?_
  refine w_iceq_t rfl (by omega) (by omega) (by omega) (by omega) e0 ?_
  refine w_iload rfl rfl ?_
  by_cases hk : k = 0
  · refine w_ifne_f rfl (by omega) (by omega) (by omega) ?_
    refine w_aload_n rfl rfl ?_
    refine w_iconst rfl ?_
    refine w_laload rfl hX2 (by decide) (by decide) (by decide) ?_
    rw [show of2 (0 : Int).toNat = .long (Int32.ofInt v).toInt64 from ev hk]
    refine w_iload rfl rfl ?_
    refine w_i2l rfl ?_
    refine w_lcmp rfl ?_
    rw [if_neg (Int.lt_irrefl _), if_pos rfl]
    refine w_ifeq_t rfl (by decide) (by decide) rfl ?_
    refine w_goto rfl ?_
    exact K _ _ _ _ _ _ hI2
  · refine w_ifne_t rfl (by omega) (by omega) (by omega) ?_
    refine w_goto rfl ?_
    exact K _ _ _ _ _ _ hI2
set_option maxRecDepth 20000 in
theorem lw_spoil (hb : b < m0) (hL : L ≤ 2560) {i : Nat} (hi : i + 5 ≤ L) (htm : tm ≤ 1000) (hI : Iv b m0 A0 tm nc ns ρ of H) {Q : AH → RO → Prop} {u5 u6 u7 : Option Value} (K : ∀ ρ' of' H' w5 w6 w7, Iv b m0 A0 (tm + 1) (nc + 3) (ns + 600) ρ' of' H' → Wp b L xs 10 mi_145 1079 [some (.ref b), some (.ref A0), some (.ref m0), some (.ref (m0 + 1160)), some (vI i), w5, w6, w7] [] H' Q) : Wp b L xs 10 mi_145 552 [some (.ref b), some (.ref A0), some (.ref m0), some (.ref (m0 + 1160)), some (vI i), u5, u6, u7] [] H Q := by
  obtain ⟨x1, g1⟩ : ∃ y, (xs ((i : Int) + 1).toNat).toInt = y := ⟨_, rfl⟩
  have r1 := i32r (xs ((i : Int) + 1).toNat)
  rw [g1] at r1
  obtain ⟨x2, g2⟩ : ∃ y, (xs ((i : Int) + 2).toNat).toInt = y := ⟨_, rfl⟩
  have r2 := i32r (xs ((i : Int) + 2).toNat)
  rw [g2] at r2
  obtain ⟨x3, g3⟩ : ∃ y, (xs ((i : Int) + 3).toNat).toInt = y := ⟨_, rfl⟩
  have r3 := i32r (xs ((i : Int) + 3).toNat)
  rw [g3] at r3
  obtain ⟨x4, g4⟩ : ∃ y, (xs ((i : Int) + 4).toNat).toInt = y := ⟨_, rfl⟩
  have r4 := i32r (xs ((i : Int) + 4).toNat)
  rw [g4] at r4
  obtain ⟨k, P, k1, k2, wh, wr⟩ := J_spoil (L := L) (xs := xs) hI hb r1.1 r1.2 r2.1 r2.2
  refine w_aload_n rfl rfl ?_
  refine w_aload_n rfl rfl ?_
  refine w_iload rfl rfl ?_
  refine w_iconst rfl ?_
  refine w_iadd rfl ?_
  refine w_ialoadS rfl (by omega) (by omega) (by omega) ?_
  rw [g1]
  refine w_aload_n rfl rfl ?_
  refine w_iload rfl rfl ?_
  refine w_iconst rfl ?_
  refine w_iadd rfl ?_
  refine w_ialoadS rfl (by omega) (by omega) (by omega) ?_
  rw [g2]
  refine w_cs rfl (by decide) (by decide) rfl mt_68 (Nat.le_of_ble_eq_true rfl) (Nat.le_of_ble_eq_true rfl) wh ?_
  rintro h1 _ ⟨rfl, hP⟩
  refine ⟨_, rfl, ?_⟩
  obtain ⟨⟨fs1, ho1⟩, wr⟩ := wr h1 hP
  refine w_istore rfl (by decide) ?_
  refine w_aload_n rfl rfl ?_
  refine w_aload_n rfl rfl ?_
  refine w_iload rfl rfl ?_
  refine w_iconst rfl ?_
  refine w_iadd rfl ?_
  refine w_ialoadS rfl (by omega) (by omega) (by omega) ?_
  rw [g1]
  refine w_aload_n rfl rfl ?_
  refine w_iload rfl rfl ?_
  refine w_iconst rfl ?_
  refine w_iadd rfl ?_
  refine w_ialoadS rfl (by omega) (by omega) (by omega) ?_
  rw [g2]
  refine w_cv rfl (by decide) (by decide) rfl ho1 mt_127 (Nat.le_of_ble_eq_true rfl) (Nat.le_of_ble_eq_true rfl) wr ?_
  rintro h2 _ ⟨rfl, ρ2, of2, hI2, e0⟩
  refine ⟨_, rfl, ?_⟩
  obtain ⟨⟨fs2, ho2⟩, wt, hX2⟩ := Iv_th (L := L) (xs := xs) hI2 hb
  refine w_aload_n rfl rfl ?_
  refine w_cvV rfl (by decide) (by decide) rfl ho2 mt_113 (Nat.le_of_ble_eq_true rfl) (Nat.le_of_ble_eq_true rfl) wt ?_
  refine w_iload rfl rfl ?_
  refine w_iceq_t rfl (by omega) (by omega) (by omega) (by omega) e0 ?_
  refine w_goto rfl ?_
  exact K _ _ _ _ _ _ hI2
set_option maxRecDepth 20000 in
theorem lw_tape (hb : b < m0) (hL : L ≤ 2560) {i : Nat} (hi : i + 5 ≤ L) (htm : tm ≤ 1000) (hI : Iv b m0 A0 tm nc ns ρ of H) {Q : AH → RO → Prop} {u5 u6 u7 : Option Value} (K : ∀ ρ' of' H' w5 w6 w7, Iv b m0 A0 (tm + 1) (nc + 3) (ns + 600) ρ' of' H' → Wp b L xs 10 mi_145 1079 [some (.ref b), some (.ref A0), some (.ref m0), some (.ref (m0 + 1160)), some (vI i), w5, w6, w7] [] H' Q) : Wp b L xs 10 mi_145 600 [some (.ref b), some (.ref A0), some (.ref m0), some (.ref (m0 + 1160)), some (vI i), u5, u6, u7] [] H Q := by
  obtain ⟨x1, g1⟩ : ∃ y, (xs ((i : Int) + 1).toNat).toInt = y := ⟨_, rfl⟩
  have r1 := i32r (xs ((i : Int) + 1).toNat)
  rw [g1] at r1
  obtain ⟨x2, g2⟩ : ∃ y, (xs ((i : Int) + 2).toNat).toInt = y := ⟨_, rfl⟩
  have r2 := i32r (xs ((i : Int) + 2).toNat)
  rw [g2] at r2
  obtain ⟨x3, g3⟩ : ∃ y, (xs ((i : Int) + 3).toNat).toInt = y := ⟨_, rfl⟩
  have r3 := i32r (xs ((i : Int) + 3).toNat)
  rw [g3] at r3
  obtain ⟨x4, g4⟩ : ∃ y, (xs ((i : Int) + 4).toNat).toInt = y := ⟨_, rfl⟩
  have r4 := i32r (xs ((i : Int) + 4).toNat)
  rw [g4] at r4
  obtain ⟨k, v, P, k1, k2, wh, wr⟩ := J_tape (L := L) (xs := xs) hI hb r1.1 r1.2 r2.1 r2.2 r3.1 r3.2
  refine w_aload_n rfl rfl ?_
  refine w_aload_n rfl rfl ?_
  refine w_iload rfl rfl ?_
  refine w_iconst rfl ?_
  refine w_iadd rfl ?_
  refine w_ialoadS rfl (by omega) (by omega) (by omega) ?_
  rw [g1]
  refine w_aload_n rfl rfl ?_
  refine w_iload rfl rfl ?_
  refine w_iconst rfl ?_
  refine w_iadd rfl ?_
  refine w_ialoadS rfl (by omega) (by omega) (by omega) ?_
  rw [g2]
  refine w_aload_n rfl rfl ?_
  refine w_iload rfl rfl ?_
  refine w_iconst rfl ?_
  refine w_iadd rfl ?_
  refine w_ialoadS rfl (by omega) (by omega) (by omega) ?_
  rw [g3]
  refine w_aload_n rfl rfl ?_
  refine w_cs rfl (by decide) (by decide) rfl mt_72 (Nat.le_of_ble_eq_true rfl) (Nat.le_of_ble_eq_true rfl) wh ?_
  rintro h1 _ ⟨rfl, hP⟩
  refine ⟨_, rfl, ?_⟩
  obtain ⟨⟨fs1, ho1⟩, wr⟩ := wr h1 hP
  refine w_istore rfl (by decide) ?_
  refine w_aload_n rfl rfl ?_
  refine w_aload_n rfl rfl ?_
  refine w_iload rfl rfl ?_
  refine w_iconst rfl ?_
  refine w_iadd rfl ?_
  refine w_ialoadS rfl (by omega) (by omega) (by omega) ?_
  rw [g1]
  refine w_aload_n rfl rfl ?_
  refine w_iload rfl rfl ?_
  refine w_iconst rfl ?_
  refine w_iadd rfl ?_
  refine w_ialoadS rfl (by omega) (by omega) (by omega) ?_
  rw [g2]
  refine w_aload_n rfl rfl ?_
  refine w_iload rfl rfl ?_
  refine w_iconst rfl ?_
  refine w_iadd rfl ?_
  refine w_ialoadS rfl (by omega) (by omega) (by omega) ?_
  rw [g3]
  refine w_cv rfl (by decide) (by decide) rfl ho1 mt_130 (Nat.le_of_ble_eq_true rfl) (Nat.le_of_ble_eq_true rfl) wr ?_
  rintro h2 _ ⟨rfl, ρ2, of2, hI2, e0, ev⟩
  refine ⟨_, rfl, ?_⟩
  obtain ⟨⟨fs2, ho2⟩, wt, hX2⟩ := Iv_th (L := L) (xs := xs) hI2 hb
  refine w_lstore rfl (by decide) ?_
  refine w_aload_n rfl rfl ?_
  refine w_cvV rfl (by decide) (by decide) rfl ho2 mt_113 (Nat.le_of_ble_eq_true rfl) (Nat.le_of_ble_eq_true rfl) wt ?_
  refine w_iload rfl rfl ?_
  refine w_iceq_t rfl (by omega) (by omega) (by omega) (by omega) e0 ?_
  refine w_iload rfl rfl ?_
  by_cases hk : k = 0
  · refine w_ifne_f rfl (by omega) (by omega) (by omega) ?_
    refine w_aload_n rfl rfl ?_
    refine w_iconst rfl ?_
    refine w_laload rfl hX2 (by decide) (by decide) (by decide) ?_
    rw [show of2 (0 : Int).toNat = .long v from ev hk]
    refine w_lload rfl rfl ?_
    refine w_lcmp rfl ?_
    rw [if_neg (Int.lt_irrefl _), if_pos rfl]
    refine w_ifeq_t rfl (by decide) (by decide) rfl ?_
    refine w_goto rfl ?_
    exact K _ _ _ _ _ _ hI2
  · refine w_ifne_t rfl (by omega) (by omega) (by omega) ?_
    refine w_goto rfl ?_
    exact K _ _ _ _ _ _ hI2
set_option maxRecDepth 20000 in
theorem lw_restore (hb : b < m0) (hL : L ≤ 2560) {i : Nat} (hi : i + 5 ≤ L) (htm : tm ≤ 1000) (hI : Iv b m0 A0 tm nc ns ρ of H) {Q : AH → RO → Prop} {u5 u6 u7 : Option Value} (K : ∀ ρ' of' H' w5 w6 w7, Iv b m0 A0 (tm + 1) (nc + 3) (ns + 600) ρ' of' H' → Wp b L xs 10 mi_145 1079 [some (.ref b), some (.ref A0), some (.ref m0), some (.ref (m0 + 1160)), some (vI i), w5, w6, w7] [] H' Q) : Wp b L xs 10 mi_145 679 [some (.ref b), some (.ref A0), some (.ref m0), some (.ref (m0 + 1160)), some (vI i), u5, u6, u7] [] H Q := by
  obtain ⟨x1, g1⟩ : ∃ y, (xs ((i : Int) + 1).toNat).toInt = y := ⟨_, rfl⟩
  have r1 := i32r (xs ((i : Int) + 1).toNat)
  rw [g1] at r1
  obtain ⟨x2, g2⟩ : ∃ y, (xs ((i : Int) + 2).toNat).toInt = y := ⟨_, rfl⟩
  have r2 := i32r (xs ((i : Int) + 2).toNat)
  rw [g2] at r2
  obtain ⟨x3, g3⟩ : ∃ y, (xs ((i : Int) + 3).toNat).toInt = y := ⟨_, rfl⟩
  have r3 := i32r (xs ((i : Int) + 3).toNat)
  rw [g3] at r3
  obtain ⟨x4, g4⟩ : ∃ y, (xs ((i : Int) + 4).toNat).toInt = y := ⟨_, rfl⟩
  have r4 := i32r (xs ((i : Int) + 4).toNat)
  rw [g4] at r4
  obtain ⟨k, v, P, k1, k2, wh, wr⟩ := J_rest (L := L) (xs := xs) hI hb r1.1 r1.2
  refine w_aload_n rfl rfl ?_
  refine w_aload_n rfl rfl ?_
  refine w_iload rfl rfl ?_
  refine w_iconst rfl ?_
  refine w_iadd rfl ?_
  refine w_ialoadS rfl (by omega) (by omega) (by omega) ?_
  rw [g1]
  refine w_aload_n rfl rfl ?_
  refine w_cs rfl (by decide) (by decide) rfl mt_76 (Nat.le_of_ble_eq_true rfl) (Nat.le_of_ble_eq_true rfl) wh ?_
  rintro h1 _ ⟨rfl, hP⟩
  refine ⟨_, rfl, ?_⟩
  obtain ⟨⟨fs1, ho1⟩, wr⟩ := wr h1 hP
  refine w_istore rfl (by decide) ?_
  refine w_aload_n rfl rfl ?_
  refine w_aload_n rfl rfl ?_
  refine w_iload rfl rfl ?_
  refine w_iconst rfl ?_
  refine w_iadd rfl ?_
  refine w_ialoadS rfl (by omega) (by omega) (by omega) ?_
  rw [g1]
  refine w_cv rfl (by decide) (by decide) rfl ho1 mt_137 (Nat.le_of_ble_eq_true rfl) (Nat.le_of_ble_eq_true rfl) wr ?_
  rintro h2 _ ⟨rfl, ρ2, of2, hI2, e0, ev⟩
  refine ⟨_, rfl, ?_⟩
  obtain ⟨⟨fs2, ho2⟩, wt, hX2⟩ := Iv_th (L := L) (xs := xs) hI2 hb
  refine w_istore rfl (by decide) ?_
  refine w_aload_n rfl rfl ?_
  refine w_cvV rfl (by decide) (by decide) rfl ho2 mt_113 (Nat.le_of_ble_eq_true rfl) (Nat.le_of_ble_eq_true rfl) wt ?_
  refine w_iload rfl rfl ?_
  refine w_iceq_t rfl (by omega) (by omega) (by omega) (by omega) e0 ?_
  refine w_iload rfl rfl ?_
  by_cases hk : k = 0
  · refine w_ifne_f rfl (by omega) (by omega) (by omega) ?_
    refine w_aload_n rfl rfl ?_
    refine w_iconst rfl ?_
    refine w_laload rfl hX2 (by decide) (by decide) (by decide) ?_
    rw [show of2 (0 : Int).toNat = .long (Int32.ofInt v).toInt64 from ev hk]
    refine w_iload rfl rfl ?_
    refine w_i2l rfl ?_
    refine w_lcmp rfl ?_
    rw [if_neg (Int.lt_irrefl _), if_pos rfl]
    refine w_ifeq_t rfl (by decide) (by decide) rfl ?_
    refine w_goto rfl ?_
    exact K _ _ _ _ _ _ hI2
  · refine w_ifne_t rfl (by omega) (by omega) (by omega) ?_
    refine w_goto rfl ?_
    exact K _ _ _ _ _ _ hI2
set_option maxRecDepth 20000 in
theorem lw_node (hb : b < m0) (hL : L ≤ 2560) {i : Nat} (hi : i + 5 ≤ L) (htm : tm ≤ 1000) (hI : Iv b m0 A0 tm nc ns ρ of H) {Q : AH → RO → Prop} {u5 u6 u7 : Option Value} (K : ∀ ρ' of' H' w5 w6 w7, Iv b m0 A0 (tm + 1) (nc + 3) (ns + 600) ρ' of' H' → Wp b L xs 10 mi_145 1079 [some (.ref b), some (.ref A0), some (.ref m0), some (.ref (m0 + 1160)), some (vI i), w5, w6, w7] [] H' Q) : Wp b L xs 10 mi_145 735 [some (.ref b), some (.ref A0), some (.ref m0), some (.ref (m0 + 1160)), some (vI i), u5, u6, u7] [] H Q := by
  obtain ⟨x1, g1⟩ : ∃ y, (xs ((i : Int) + 1).toNat).toInt = y := ⟨_, rfl⟩
  have r1 := i32r (xs ((i : Int) + 1).toNat)
  rw [g1] at r1
  obtain ⟨x2, g2⟩ : ∃ y, (xs ((i : Int) + 2).toNat).toInt = y := ⟨_, rfl⟩
  have r2 := i32r (xs ((i : Int) + 2).toNat)
  rw [g2] at r2
  obtain ⟨x3, g3⟩ : ∃ y, (xs ((i : Int) + 3).toNat).toInt = y := ⟨_, rfl⟩
  have r3 := i32r (xs ((i : Int) + 3).toNat)
  rw [g3] at r3
  obtain ⟨x4, g4⟩ : ∃ y, (xs ((i : Int) + 4).toNat).toInt = y := ⟨_, rfl⟩
  have r4 := i32r (xs ((i : Int) + 4).toNat)
  rw [g4] at r4
  by_cases z : x1 = 0
  · obtain ⟨k, v, P, k1, k2, wh, wr⟩ := J_node (L := L) (xs := xs) (r := 0) hI hb r2.1 r2.2 r3.1 r3.2 (Or.inl rfl)
    refine w_aload_n rfl rfl ?_
    refine w_aload_n rfl rfl ?_
    refine w_iload rfl rfl ?_
    refine w_iconst rfl ?_
    refine w_iadd rfl ?_
    refine w_ialoadS rfl (by omega) (by omega) (by omega) ?_
    rw [g1]
    refine w_ifeq_t rfl (by omega) (by omega) z ?_
    refine w_iconst rfl ?_
    refine w_aload_n rfl rfl ?_
    refine w_iload rfl rfl ?_
    refine w_iconst rfl ?_
    refine w_iadd rfl ?_
    refine w_ialoadS rfl (by omega) (by omega) (by omega) ?_
    rw [g2]
    refine w_aload_n rfl rfl ?_
    refine w_iload rfl rfl ?_
    refine w_iconst rfl ?_
    refine w_iadd rfl ?_
    refine w_ialoadS rfl (by omega) (by omega) (by omega) ?_
    rw [g3]
    refine w_aload_n rfl rfl ?_
    refine w_cs rfl (by decide) (by decide) rfl mt_91 (Nat.le_of_ble_eq_true rfl) (Nat.le_of_ble_eq_true rfl) wh ?_
    rintro h1 _ ⟨rfl, hP⟩
    refine ⟨_, rfl, ?_⟩
    obtain ⟨⟨fs1, ho1⟩, wr⟩ := wr h1 hP
    refine w_istore rfl (by decide) ?_
    refine w_aload_n rfl rfl ?_
    refine w_aload_n rfl rfl ?_
    refine w_iload rfl rfl ?_
    refine w_iconst rfl ?_
    refine w_iadd rfl ?_
    refine w_ialoadS rfl (by omega) (by omega) (by omega) ?_
    rw [g1]
    refine w_ifeq_t rfl (by omega) (by omega) z ?_
    refine w_iconst rfl ?_
    refine w_aload_n rfl rfl ?_
    refine w_iload rfl rfl ?_
    refine w_iconst rfl ?_
    refine w_iadd rfl ?_
    refine w_ialoadS rfl (by omega) (by omega) (by omega) ?_
    rw [g2]
    refine w_aload_n rfl rfl ?_
    refine w_iload rfl rfl ?_
    refine w_iconst rfl ?_
    refine w_iadd rfl ?_
    refine w_ialoadS rfl (by omega) (by omega) (by omega) ?_
    rw [g3]
    refine w_cv rfl (by decide) (by decide) rfl ho1 mt_141 (Nat.le_of_ble_eq_true rfl) (Nat.le_of_ble_eq_true rfl) wr ?_
    rintro h2 _ ⟨rfl, ρ2, of2, hI2, e0, ev⟩
    refine ⟨_, rfl, ?_⟩
    obtain ⟨⟨fs2, ho2⟩, wt, hX2⟩ := Iv_th (L := L) (xs := xs) hI2 hb
    refine w_istore rfl (by decide) ?_
    refine w_aload_n rfl rfl ?_
    refine w_cvV rfl (by decide) (by decide) rfl ho2 mt_113 (Nat.le_of_ble_eq_true rfl) (Nat.le_of_ble_eq_true rfl) wt ?_
    refine w_iload rfl rfl ?_
    refine w_iceq_t rfl (by omega) (by omega) (by omega) (by omega) e0 ?_
    refine w_iload rfl rfl ?_
    by_cases hk : k = 0
    · refine w_ifne_f rfl (by omega) (by omega) (by omega) ?_
      refine w_aload_n rfl rfl ?_
      refine w_iconst rfl ?_
      refine w_laload rfl hX2 (by decide) (by decide) (by decide) ?_
      rw [show of2 (0 : Int).toNat = .long (Int32.ofInt v).toInt64 from ev hk]
      refine w_iload rfl rfl ?_
      refine w_i2l rfl ?_
      refine w_lcmp rfl ?_
      rw [if_neg (Int.lt_irrefl _), if_pos rfl]
      refine w_ifeq_t rfl (by decide) (by decide) rfl ?_
      refine w_goto rfl ?_
      exact K _ _ _ _ _ _ hI2
    · refine w_ifne_t rfl (by omega) (by omega) (by omega) ?_
      refine w_goto rfl ?_
      exact K _ _ _ _ _ _ hI2
  · obtain ⟨k, v, P, k1, k2, wh, wr⟩ := J_node (L := L) (xs := xs) (r := 1) hI hb r2.1 r2.2 r3.1 r3.2 (Or.inr rfl)
    refine w_aload_n rfl rfl ?_
    refine w_aload_n rfl rfl ?_
    refine w_iload rfl rfl ?_
    refine w_iconst rfl ?_
    refine w_iadd rfl ?_
    refine w_ialoadS rfl (by omega) (by omega) (by omega) ?_
    rw [g1]
    refine w_ifeq_f rfl (by omega) (by omega) z ?_
    refine w_iconst rfl ?_
    refine w_goto rfl ?_
    refine w_aload_n rfl rfl ?_
    refine w_iload rfl rfl ?_
    refine w_iconst rfl ?_
    refine w_iadd rfl ?_
    refine w_ialoadS rfl (by omega) (by omega) (by omega) ?_
    rw [g2]
    refine w_aload_n rfl rfl ?_
    refine w_iload rfl rfl ?_
    refine w_iconst rfl ?_
    refine w_iadd rfl ?_
    refine w_ialoadS rfl (by omega) (by omega) (by omega) ?_
    rw [g3]
    refine w_aload_n rfl rfl ?_
    refine w_cs rfl (by decide) (by decide) rfl mt_91 (Nat.le_of_ble_eq_true rfl) (Nat.le_of_ble_eq_true rfl) wh ?_
    rintro h1 _ ⟨rfl, hP⟩
    refine ⟨_, rfl, ?_⟩
    obtain ⟨⟨fs1, ho1⟩, wr⟩ := wr h1 hP
    refine w_istore rfl (by decide) ?_
    refine w_aload_n rfl rfl ?_
    refine w_aload_n rfl rfl ?_
    refine w_iload rfl rfl ?_
    refine w_iconst rfl ?_
    refine w_iadd rfl ?_
    refine w_ialoadS rfl (by omega) (by omega) (by omega) ?_
    rw [g1]
    refine w_ifeq_f rfl (by omega) (by omega) z ?_
    refine w_iconst rfl ?_
    refine w_goto rfl ?_
    refine w_aload_n rfl rfl ?_
    refine w_iload rfl rfl ?_
    refine w_iconst rfl ?_
    refine w_iadd rfl ?_
    refine w_ialoadS rfl (by omega) (by omega) (by omega) ?_
    rw [g2]
    refine w_aload_n rfl rfl ?_
    refine w_iload rfl rfl ?_
    refine w_iconst rfl ?_
    refine w_iadd rfl ?_
    refine w_ialoadS rfl (by omega) (by omega) (by omega) ?_
    rw [g3]
    refine w_cv rfl (by decide) (by decide) rfl ho1 mt_141 (Nat.le_of_ble_eq_true rfl) (Nat.le_of_ble_eq_true rfl) wr ?_
    rintro h2 _ ⟨rfl, ρ2, of2, hI2, e0, ev⟩
    refine ⟨_, rfl, ?_⟩
    obtain ⟨⟨fs2, ho2⟩, wt, hX2⟩ := Iv_th (L := L) (xs := xs) hI2 hb
    refine w_istore rfl (by decide) ?_
    refine w_aload_n rfl rfl ?_
    refine w_cvV rfl (by decide) (by decide) rfl ho2 mt_113 (Nat.le_of_ble_eq_true rfl) (Nat.le_of_ble_eq_true rfl) wt ?_
    refine w_iload rfl rfl ?_
    refine w_iceq_t rfl (by omega) (by omega) (by omega) (by omega) e0 ?_
    refine w_iload rfl rfl ?_
    by_cases hk : k = 0
    · refine w_ifne_f rfl (by omega) (by omega) (by omega) ?_
      refine w_aload_n rfl rfl ?_
      refine w_iconst rfl ?_
      refine w_laload rfl hX2 (by decide) (by decide) (by decide) ?_
      rw [show of2 (0 : Int).toNat = .long (Int32.ofInt v).toInt64 from ev hk]
      refine w_iload rfl rfl ?_
      refine w_i2l rfl ?_
      refine w_lcmp rfl ?_
      rw [if_neg (Int.lt_irrefl _), if_pos rfl]
      refine w_ifeq_t rfl (by decide) (by decide) rfl ?_
      refine w_goto rfl ?_
      exact K _ _ _ _ _ _ hI2
    · refine w_ifne_t rfl (by omega) (by omega) (by omega) ?_
      refine w_goto rfl ?_
      exact K _ _ _ _ _ _ hI2
set_option maxRecDepth 20000 in
theorem lw_octet (hb : b < m0) (hL : L ≤ 2560) {i : Nat} (hi : i + 5 ≤ L) (htm : tm ≤ 1000) (hI : Iv b m0 A0 tm nc ns ρ of H) {Q : AH → RO → Prop} {u5 u6 u7 : Option Value} (K : ∀ ρ' of' H' w5 w6 w7, Iv b m0 A0 (tm + 1) (nc + 3) (ns + 600) ρ' of' H' → Wp b L xs 10 mi_145 1079 [some (.ref b), some (.ref A0), some (.ref m0), some (.ref (m0 + 1160)), some (vI i), w5, w6, w7] [] H' Q) : Wp b L xs 10 mi_145 831 [some (.ref b), some (.ref A0), some (.ref m0), some (.ref (m0 + 1160)), some (vI i), u5, u6, u7] [] H Q := by
  obtain ⟨x1, g1⟩ : ∃ y, (xs ((i : Int) + 1).toNat).toInt = y := ⟨_, rfl⟩
  have r1 := i32r (xs ((i : Int) + 1).toNat)
  rw [g1] at r1
  obtain ⟨x2, g2⟩ : ∃ y, (xs ((i : Int) + 2).toNat).toInt = y := ⟨_, rfl⟩
  have r2 := i32r (xs ((i : Int) + 2).toNat)
  rw [g2] at r2
  obtain ⟨x3, g3⟩ : ∃ y, (xs ((i : Int) + 3).toNat).toInt = y := ⟨_, rfl⟩
  have r3 := i32r (xs ((i : Int) + 3).toNat)
  rw [g3] at r3
  obtain ⟨x4, g4⟩ : ∃ y, (xs ((i : Int) + 4).toNat).toInt = y := ⟨_, rfl⟩
  have r4 := i32r (xs ((i : Int) + 4).toNat)
  rw [g4] at r4
  by_cases z : x1 = 0
  · obtain ⟨k, v, P, k1, k2, wh, wr⟩ := J_octet (L := L) (xs := xs) (r := 0) hI hb r2.1 r2.2 r3.1 r3.2 (Or.inl rfl)
    refine w_aload_n rfl rfl ?_
    refine w_aload_n rfl rfl ?_
    refine w_iload rfl rfl ?_
    refine w_iconst rfl ?_
    refine w_iadd rfl ?_
    refine w_ialoadS rfl (by omega) (by omega) (by omega) ?_
    rw [g1]
    refine w_ifeq_t rfl (by omega) (by omega) z ?_
    refine w_iconst rfl ?_
    refine w_aload_n rfl rfl ?_
    refine w_iload rfl rfl ?_
    refine w_iconst rfl ?_
    refine w_iadd rfl ?_
    refine w_ialoadS rfl (by omega) (by omega) (by omega) ?_
    rw [g2]
    refine w_aload_n rfl rfl ?_
    refine w_iload rfl rfl ?_
    refine w_iconst rfl ?_
    refine w_iadd rfl ?_
    refine w_ialoadS rfl (by omega) (by omega) (by omega) ?_
    rw [g3]
    refine w_aload_n rfl rfl ?_
    refine w_cs rfl (by decide) (by decide) rfl mt_98 (Nat.le_of_ble_eq_true rfl) (Nat.le_of_ble_eq_true rfl) wh ?_
    rintro h1 _ ⟨rfl, hP⟩
    refine ⟨_, rfl, ?_⟩
    obtain ⟨⟨fs1, ho1⟩, wr⟩ := wr h1 hP
    refine w_istore rfl (by decide) ?_
    refine w_aload_n rfl rfl ?_
    refine w_aload_n rfl rfl ?_
    refine w_iload rfl rfl ?_
    refine w_iconst rfl ?_
    refine w_iadd rfl ?_
    refine w_ialoadS rfl (by omega) (by omega) (by omega) ?_
    rw [g1]
    refine w_ifeq_t rfl (by omega) (by omega) z ?_
    refine w_iconst rfl ?_
    refine w_aload_n rfl rfl ?_
    refine w_iload rfl rfl ?_
    refine w_iconst rfl ?_
    refine w_iadd rfl ?_
    refine w_ialoadS rfl (by omega) (by omega) (by omega) ?_
    rw [g2]
    refine w_aload_n rfl rfl ?_
    refine w_iload rfl rfl ?_
    refine w_iconst rfl ?_
    refine w_iadd rfl ?_
    refine w_ialoadS rfl (by omega) (by omega) (by omega) ?_
    rw [g3]
    refine w_cv rfl (by decide) (by decide) rfl ho1 mt_142 (Nat.le_of_ble_eq_true rfl) (Nat.le_of_ble_eq_true rfl) wr ?_
    rintro h2 _ ⟨rfl, ρ2, of2, hI2, e0, ev⟩
    refine ⟨_, rfl, ?_⟩
    obtain ⟨⟨fs2, ho2⟩, wt, hX2⟩ := Iv_th (L := L) (xs := xs) hI2 hb
    refine w_istore rfl (by decide) ?_
    refine w_aload_n rfl rfl ?_
    refine w_cvV rfl (by decide) (by decide) rfl ho2 mt_113 (Nat.le_of_ble_eq_true rfl) (Nat.le_of_ble_eq_true rfl) wt ?_
    refine w_iload rfl rfl ?_
    refine w_iceq_t rfl (by omega) (by omega) (by omega) (by omega) e0 ?_
    refine w_iload rfl rfl ?_
    by_cases hk : k = 0
    · refine w_ifne_f rfl (by omega) (by omega) (by omega) ?_
      refine w_aload_n rfl rfl ?_
      refine w_iconst rfl ?_
      refine w_laload rfl hX2 (by decide) (by decide) (by decide) ?_
      rw [show of2 (0 : Int).toNat = .long (Int32.ofInt v).toInt64 from ev hk]
      refine w_iload rfl rfl ?_
      refine w_i2l rfl ?_
      refine w_lcmp rfl ?_
      rw [if_neg (Int.lt_irrefl _), if_pos rfl]
      refine w_ifeq_t rfl (by decide) (by decide) rfl ?_
      refine w_goto rfl ?_
      exact K _ _ _ _ _ _ hI2
    · refine w_ifne_t rfl (by omega) (by omega) (by omega) ?_
      refine w_goto rfl ?_
      exact K _ _ _ _ _ _ hI2
  · obtain ⟨k, v, P, k1, k2, wh, wr⟩ := J_octet (L := L) (xs := xs) (r := 1) hI hb r2.1 r2.2 r3.1 r3.2 (Or.inr rfl)
    refine w_aload_n rfl rfl ?_
    refine w_aload_n rfl rfl ?_
    refine w_iload rfl rfl ?_
    refine w_iconst rfl ?_
    refine w_iadd rfl ?_
    refine w_ialoadS rfl (by omega) (by omega) (by omega) ?_
    rw [g1]
    refine w_ifeq_f rfl (by omega) (by omega) z ?_
    refine w_iconst rfl ?_
    refine w_goto rfl ?_
    refine w_aload_n rfl rfl ?_
    refine w_iload rfl rfl ?_
    refine w_iconst rfl ?_
    refine w_iadd rfl ?_
    refine w_ialoadS rfl (by omega) (by omega) (by omega) ?_
    rw [g2]
    refine w_aload_n rfl rfl ?_
    refine w_iload rfl rfl ?_
    refine w_iconst rfl ?_
    refine w_iadd rfl ?_
    refine w_ialoadS rfl (by omega) (by omega) (by omega) ?_
    rw [g3]
    refine w_aload_n rfl rfl ?_
    refine w_cs rfl (by decide) (by decide) rfl mt_98 (Nat.le_of_ble_eq_true rfl) (Nat.le_of_ble_eq_true rfl) wh ?_
    rintro h1 _ ⟨rfl, hP⟩
    refine ⟨_, rfl, ?_⟩
    obtain ⟨⟨fs1, ho1⟩, wr⟩ := wr h1 hP
    refine w_istore rfl (by decide) ?_
    refine w_aload_n rfl rfl ?_
    refine w_aload_n rfl rfl ?_
    refine w_iload rfl rfl ?_
    refine w_iconst rfl ?_
    refine w_iadd rfl ?_
    refine w_ialoadS rfl (by omega) (by omega) (by omega) ?_
    rw [g1]
    refine w_ifeq_f rfl (by omega) (by omega) z ?_
    refine w_iconst rfl ?_
    refine w_goto rfl ?_
    refine w_aload_n rfl rfl ?_
    refine w_iload rfl rfl ?_
    refine w_iconst rfl ?_
    refine w_iadd rfl ?_
    refine w_ialoadS rfl (by omega) (by omega) (by omega) ?_
    rw [g2]
    refine w_aload_n rfl rfl ?_
    refine w_iload rfl rfl ?_
    refine w_iconst rfl ?_
    refine w_iadd rfl ?_
    refine w_ialoadS rfl (by omega) (by omega) (by omega) ?_
    rw [g3]
    refine w_cv rfl (by decide) (by decide) rfl ho1 mt_142 (Nat.le_of_ble_eq_true rfl) (Nat.le_of_ble_eq_true rfl) wr ?_
    rintro h2 _ ⟨rfl, ρ2, of2, hI2, e0, ev⟩
    refine ⟨_, rfl, ?_⟩
    obtain ⟨⟨fs2, ho2⟩, wt, hX2⟩ := Iv_th (L := L) (xs := xs) hI2 hb
    refine w_istore rfl (by decide) ?_
    refine w_aload_n rfl rfl ?_
    refine w_cvV rfl (by decide) (by decide) rfl ho2 mt_113 (Nat.le_of_ble_eq_true rfl) (Nat.le_of_ble_eq_true rfl) wt ?_
    refine w_iload rfl rfl ?_
    refine w_iceq_t rfl (by omega) (by omega) (by omega) (by omega) e0 ?_
    refine w_iload rfl rfl ?_
    by_cases hk : k = 0
    · refine w_ifne_f rfl (by omega) (by omega) (by omega) ?_
      refine w_aload_n rfl rfl ?_
      refine w_iconst rfl ?_
      refine w_laload rfl hX2 (by decide) (by decide) (by decide) ?_
      rw [show of2 (0 : Int).toNat = .long (Int32.ofInt v).toInt64 from ev hk]
      refine w_iload rfl rfl ?_
      refine w_i2l rfl ?_
      refine w_lcmp rfl ?_
      rw [if_neg (Int.lt_irrefl _), if_pos rfl]
      refine w_ifeq_t rfl (by decide) (by decide) rfl ?_
      refine w_goto rfl ?_
      exact K _ _ _ _ _ _ hI2
    · refine w_ifne_t rfl (by omega) (by omega) (by omega) ?_
      refine w_goto rfl ?_
      exact K _ _ _ _ _ _ hI2
set_option maxRecDepth 20000 in
theorem lw_find (hb : b < m0) (hL : L ≤ 2560) {i : Nat} (hi : i + 5 ≤ L) (htm : tm ≤ 1000) (hI : Iv b m0 A0 tm nc ns ρ of H) {Q : AH → RO → Prop} {u5 u6 u7 : Option Value} (K : ∀ ρ' of' H' w5 w6 w7, Iv b m0 A0 (tm + 1) (nc + 3) (ns + 600) ρ' of' H' → Wp b L xs 10 mi_145 1079 [some (.ref b), some (.ref A0), some (.ref m0), some (.ref (m0 + 1160)), some (vI i), w5, w6, w7] [] H' Q) : Wp b L xs 10 mi_145 927 [some (.ref b), some (.ref A0), some (.ref m0), some (.ref (m0 + 1160)), some (vI i), u5, u6, u7] [] H Q := by
  obtain ⟨x1, g1⟩ : ∃ y, (xs ((i : Int) + 1).toNat).toInt = y := ⟨_, rfl⟩
  have r1 := i32r (xs ((i : Int) + 1).toNat)
  rw [g1] at r1
  obtain ⟨x2, g2⟩ : ∃ y, (xs ((i : Int) + 2).toNat).toInt = y := ⟨_, rfl⟩
  have r2 := i32r (xs ((i : Int) + 2).toNat)
  rw [g2] at r2
  obtain ⟨x3, g3⟩ : ∃ y, (xs ((i : Int) + 3).toNat).toInt = y := ⟨_, rfl⟩
  have r3 := i32r (xs ((i : Int) + 3).toNat)
  rw [g3] at r3
  obtain ⟨x4, g4⟩ : ∃ y, (xs ((i : Int) + 4).toNat).toInt = y := ⟨_, rfl⟩
  have r4 := i32r (xs ((i : Int) + 4).toNat)
  rw [g4] at r4
  by_cases z : x1 = 0
  · obtain ⟨k, v, P, k1, k2, wh, wr⟩ := J_find (L := L) (xs := xs) (r := 0) hI hb r2.1 r2.2 r3.1 r3.2 (Or.inl rfl)
    refine w_aload_n rfl rfl ?_
    refine w_aload_n rfl rfl ?_
    refine w_iload rfl rfl ?_
    refine w_iconst rfl ?_
    refine w_iadd rfl ?_
    refine w_ialoadS rfl (by omega) (by omega) (by omega) ?_
    rw [g1]
    refine w_ifeq_t rfl (by omega) (by omega) z ?_
    refine w_iconst rfl ?_
    refine w_aload_n rfl rfl ?_
    refine w_iload rfl rfl ?_
    refine w_iconst rfl ?_
    refine w_iadd rfl ?_
    refine w_ialoadS rfl (by omega) (by omega) (by omega) ?_
    rw [g2]
    refine w_aload_n rfl rfl ?_
    refine w_iload rfl rfl ?_
    refine w_iconst rfl ?_
    refine w_iadd rfl ?_
    refine w_ialoadS rfl (by omega) (by omega) (by omega) ?_
    rw [g3]
    refine w_aload_n rfl rfl ?_
    refine w_cs rfl (by decide) (by decide) rfl mt_103 (Nat.le_of_ble_eq_true rfl) (Nat.le_of_ble_eq_true rfl) wh ?_
    rintro h1 _ ⟨rfl, hP⟩
    refine ⟨_, rfl, ?_⟩
    obtain ⟨⟨fs1, ho1⟩, wr⟩ := wr h1 hP
    refine w_istore rfl (by decide) ?_
    refine w_aload_n rfl rfl ?_
    refine w_aload_n rfl rfl ?_
    refine w_iload rfl rfl ?_
    refine w_iconst rfl ?_
    refine w_iadd rfl ?_
    refine w_ialoadS rfl (by omega) (by omega) (by omega) ?_
    rw [g1]
    refine w_ifeq_t rfl (by omega) (by omega) z ?_
    refine w_iconst rfl ?_
    refine w_aload_n rfl rfl ?_
    refine w_iload rfl rfl ?_
    refine w_iconst rfl ?_
    refine w_iadd rfl ?_
    refine w_ialoadS rfl (by omega) (by omega) (by omega) ?_
    rw [g2]
    refine w_aload_n rfl rfl ?_
    refine w_iload rfl rfl ?_
    refine w_iconst rfl ?_
    refine w_iadd rfl ?_
    refine w_ialoadS rfl (by omega) (by omega) (by omega) ?_
    rw [g3]
    refine w_cv rfl (by decide) (by decide) rfl ho1 mt_143 (Nat.le_of_ble_eq_true rfl) (Nat.le_of_ble_eq_true rfl) wr ?_
    rintro h2 _ ⟨rfl, ρ2, of2, hI2, e0, ev⟩
    refine ⟨_, rfl, ?_⟩
    obtain ⟨⟨fs2, ho2⟩, wt, hX2⟩ := Iv_th (L := L) (xs := xs) hI2 hb
    refine w_istore rfl (by decide) ?_
    refine w_aload_n rfl rfl ?_
    refine w_cvV rfl (by decide) (by decide) rfl ho2 mt_113 (Nat.le_of_ble_eq_true rfl) (Nat.le_of_ble_eq_true rfl) wt ?_
    refine w_iload rfl rfl ?_
    refine w_iceq_t rfl (by omega) (by omega) (by omega) (by omega) e0 ?_
    refine w_iload rfl rfl ?_
    by_cases hk : k = 0
    · refine w_ifne_f rfl (by omega) (by omega) (by omega) ?_
      refine w_aload_n rfl rfl ?_
      refine w_iconst rfl ?_
      refine w_laload rfl hX2 (by decide) (by decide) (by decide) ?_
      rw [show of2 (0 : Int).toNat = .long (Int32.ofInt v).toInt64 from ev hk]
      refine w_iload rfl rfl ?_
      refine w_i2l rfl ?_
      refine w_lcmp rfl ?_
      rw [if_neg (Int.lt_irrefl _), if_pos rfl]
      refine w_ifeq_t rfl (by decide) (by decide) rfl ?_
      refine w_goto rfl ?_
      exact K _ _ _ _ _ _ hI2
    · refine w_ifne_t rfl (by omega) (by omega) (by omega) ?_
      refine w_goto rfl ?_
      exact K _ _ _ _ _ _ hI2
  · obtain ⟨k, v, P, k1, k2, wh, wr⟩ := J_find (L := L) (xs := xs) (r := 1) hI hb r2.1 r2.2 r3.1 r3.2 (Or.inr rfl)
    refine w_aload_n rfl rfl ?_
    refine w_aload_n rfl rfl ?_
    refine w_iload rfl rfl ?_
    refine w_iconst rfl ?_
    refine w_iadd rfl ?_
    refine w_ialoadS rfl (by omega) (by omega) (by omega) ?_
    rw [g1]
    refine w_ifeq_f rfl (by omega) (by omega) z ?_
    refine w_iconst rfl ?_
    refine w_goto rfl ?_
    refine w_aload_n rfl rfl ?_
    refine w_iload rfl rfl ?_
    refine w_iconst rfl ?_
    refine w_iadd rfl ?_
    refine w_ialoadS rfl (by omega) (by omega) (by omega) ?_
    rw [g2]
    refine w_aload_n rfl rfl ?_
    refine w_iload rfl rfl ?_
    refine w_iconst rfl ?_
    refine w_iadd rfl ?_
    refine w_ialoadS rfl (by omega) (by omega) (by omega) ?_
    rw [g3]
    refine w_aload_n rfl rfl ?_
    refine w_cs rfl (by decide) (by decide) rfl mt_103 (Nat.le_of_ble_eq_true rfl) (Nat.le_of_ble_eq_true rfl) wh ?_
    rintro h1 _ ⟨rfl, hP⟩
    refine ⟨_, rfl, ?_⟩
    obtain ⟨⟨fs1, ho1⟩, wr⟩ := wr h1 hP
    refine w_istore rfl (by decide) ?_
    refine w_aload_n rfl rfl ?_
    refine w_aload_n rfl rfl ?_
    refine w_iload rfl rfl ?_
    refine w_iconst rfl ?_
    refine w_iadd rfl ?_
    refine w_ialoadS rfl (by omega) (by omega) (by omega) ?_
    rw [g1]
    refine w_ifeq_f rfl (by omega) (by omega) z ?_
    refine w_iconst rfl ?_
    refine w_goto rfl ?_
    refine w_aload_n rfl rfl ?_
    refine w_iload rfl rfl ?_
    refine w_iconst rfl ?_
    refine w_iadd rfl ?_
    refine w_ialoadS rfl (by omega) (by omega) (by omega) ?_
    rw [g2]
    refine w_aload_n rfl rfl ?_
    refine w_iload rfl rfl ?_
    refine w_iconst rfl ?_
    refine w_iadd rfl ?_
    refine w_ialoadS rfl (by omega) (by omega) (by omega) ?_
    rw [g3]
    refine w_cv rfl (by decide) (by decide) rfl ho1 mt_143 (Nat.le_of_ble_eq_true rfl) (Nat.le_of_ble_eq_true rfl) wr ?_
    rintro h2 _ ⟨rfl, ρ2, of2, hI2, e0, ev⟩
    refine ⟨_, rfl, ?_⟩
    obtain ⟨⟨fs2, ho2⟩, wt, hX2⟩ := Iv_th (L := L) (xs := xs) hI2 hb
    refine w_istore rfl (by decide) ?_
    refine w_aload_n rfl rfl ?_
    refine w_cvV rfl (by decide) (by decide) rfl ho2 mt_113 (Nat.le_of_ble_eq_true rfl) (Nat.le_of_ble_eq_true rfl) wt ?_
    refine w_iload rfl rfl ?_
    refine w_iceq_t rfl (by omega) (by omega) (by omega) (by omega) e0 ?_
    refine w_iload rfl rfl ?_
    by_cases hk : k = 0
    · refine w_ifne_f rfl (by omega) (by omega) (by omega) ?_
      refine w_aload_n rfl rfl ?_
      refine w_iconst rfl ?_
      refine w_laload rfl hX2 (by decide) (by decide) (by decide) ?_
      rw [show of2 (0 : Int).toNat = .long (Int32.ofInt v).toInt64 from ev hk]
      refine w_iload rfl rfl ?_
      refine w_i2l rfl ?_
      refine w_lcmp rfl ?_
      rw [if_neg (Int.lt_irrefl _), if_pos rfl]
      refine w_ifeq_t rfl (by decide) (by decide) rfl ?_
      refine w_goto rfl ?_
      exact K _ _ _ _ _ _ hI2
    · refine w_ifne_t rfl (by omega) (by omega) (by omega) ?_
      refine w_goto rfl ?_
      exact K _ _ _ _ _ _ hI2
set_option maxRecDepth 20000 in
theorem lw_count (hb : b < m0) (hL : L ≤ 2560) {i : Nat} (hi : i + 5 ≤ L) (htm : tm ≤ 1000) (hI : Iv b m0 A0 tm nc ns ρ of H) {Q : AH → RO → Prop} {u5 u6 u7 : Option Value} (K : ∀ ρ' of' H' w5 w6 w7, Iv b m0 A0 (tm + 1) (nc + 3) (ns + 600) ρ' of' H' → Wp b L xs 10 mi_145 1079 [some (.ref b), some (.ref A0), some (.ref m0), some (.ref (m0 + 1160)), some (vI i), w5, w6, w7] [] H' Q) : Wp b L xs 10 mi_145 1023 [some (.ref b), some (.ref A0), some (.ref m0), some (.ref (m0 + 1160)), some (vI i), u5, u6, u7] [] H Q := by
  obtain ⟨x1, g1⟩ : ∃ y, (xs ((i : Int) + 1).toNat).toInt = y := ⟨_, rfl⟩
  have r1 := i32r (xs ((i : Int) + 1).toNat)
  rw [g1] at r1
  obtain ⟨x2, g2⟩ : ∃ y, (xs ((i : Int) + 2).toNat).toInt = y := ⟨_, rfl⟩
  have r2 := i32r (xs ((i : Int) + 2).toNat)
  rw [g2] at r2
  obtain ⟨x3, g3⟩ : ∃ y, (xs ((i : Int) + 3).toNat).toInt = y := ⟨_, rfl⟩
  have r3 := i32r (xs ((i : Int) + 3).toNat)
  rw [g3] at r3
  obtain ⟨x4, g4⟩ : ∃ y, (xs ((i : Int) + 4).toNat).toInt = y := ⟨_, rfl⟩
  have r4 := i32r (xs ((i : Int) + 4).toNat)
  rw [g4] at r4
  obtain ⟨k, v, P, k1, k2, wh, wr⟩ := J_count (L := L) (xs := xs) hI hb r1.1 r1.2
  refine w_aload_n rfl rfl ?_
  refine w_aload_n rfl rfl ?_
  refine w_iload rfl rfl ?_
  refine w_iconst rfl ?_
  refine w_iadd rfl ?_
  refine w_ialoadS rfl (by omega) (by omega) (by omega) ?_
  rw [g1]
  refine w_aload_n rfl rfl ?_
  refine w_cs rfl (by decide) (by decide) rfl mt_107 (Nat.le_of_ble_eq_true rfl) (Nat.le_of_ble_eq_true rfl) wh ?_
  rintro h1 _ ⟨rfl, hP⟩
  refine ⟨_, rfl, ?_⟩
  obtain ⟨⟨fs1, ho1⟩, wr⟩ := wr h1 hP
  refine w_istore rfl (by decide) ?_
  refine w_aload_n rfl rfl ?_
  refine w_aload_n rfl rfl ?_
  refine w_iload rfl rfl ?_
  refine w_iconst rfl ?_
  refine w_iadd rfl ?_
  refine w_ialoadS rfl (by omega) (by omega) (by omega) ?_
  rw [g1]
  refine w_cv rfl (by decide) (by decide) rfl ho1 mt_144 (Nat.le_of_ble_eq_true rfl) (Nat.le_of_ble_eq_true rfl) wr ?_
  rintro h2 _ ⟨rfl, ρ2, of2, hI2, e0, ev⟩
  refine ⟨_, rfl, ?_⟩
  obtain ⟨⟨fs2, ho2⟩, wt, hX2⟩ := Iv_th (L := L) (xs := xs) hI2 hb
  refine w_istore rfl (by decide) ?_
  refine w_aload_n rfl rfl ?_
  refine w_cvV rfl (by decide) (by decide) rfl ho2 mt_113 (Nat.le_of_ble_eq_true rfl) (Nat.le_of_ble_eq_true rfl) wt ?_
  refine w_iload rfl rfl ?_
  refine w_iceq_t rfl (by omega) (by omega) (by omega) (by omega) e0 ?_
  refine w_iload rfl rfl ?_
  by_cases hk : k = 0
  · refine w_ifne_f rfl (by omega) (by omega) (by omega) ?_
    refine w_aload_n rfl rfl ?_
    refine w_iconst rfl ?_
    refine w_laload rfl hX2 (by decide) (by decide) (by decide) ?_
    rw [show of2 (0 : Int).toNat = .long (Int32.ofInt v).toInt64 from ev hk]
    refine w_iload rfl rfl ?_
    refine w_i2l rfl ?_
    refine w_lcmp rfl ?_
    rw [if_neg (Int.lt_irrefl _), if_pos rfl]
    refine w_ifeq_t rfl (by decide) (by decide) rfl ?_
    refine w_goto rfl ?_
    exact K _ _ _ _ _ _ hI2
  · refine w_ifne_t rfl (by omega) (by omega) (by omega) ?_
    refine w_goto rfl ?_
    exact K _ _ _ _ _ _ hI2
set_option maxRecDepth 20000 in
theorem law_loop (hb : b < m0) (hL : L ≤ 2560) : ∀ (m i tm nc ns : Nat) (ρ : RS) (of : Nat → Value) (H : AH) (u5 u6 u7 : Option Value), L < i + 5 * m + 5 → i ≤ 3000 → tm + m ≤ 900 → Iv b m0 A0 tm nc ns ρ of H → Wp b L xs 10 mi_145 23 [some (.ref b), some (.ref A0), some (.ref m0), some (.ref (m0 + 1160)), some (vI i), u5, u6, u7] [] H (fun h' o => o = .inl (some (.int 1)) ∧ h'.1 ≤ nc + 3 * m + 8000 ∧ h'.2.1 ≤ ns + 600 * m + 144000) := by
  intro m
  induction m with
  | zero =>
    intro i tm nc ns ρ of H u5 u6 u7 h1 h2 h3 hI
    have bd := Iv_bd hI
    refine w_iload rfl rfl ?_
    refine w_aload_n rfl rfl ?_
    refine w_alenS rfl ?_
    refine w_iconst rfl ?_
    refine w_isub rfl ?_
    refine w_icgt_t rfl (by omega) (by omega) (by omega) (by omega) (by omega) ?_
    refine w_iconst rfl ?_
    refine w_zreturn rfl rfl (Or.inr rfl) ?_
    exact ⟨rfl, by omega, by omega⟩
  | succ m ih =>
    intro i tm nc ns ρ of H u5 u6 u7 h1 h2 h3 hI
    by_cases hi : i + 5 ≤ L
    · refine w_iload rfl rfl ?_
      refine w_aload_n rfl rfl ?_
      refine w_alenS rfl ?_
      refine w_iconst rfl ?_
      refine w_isub rfl ?_
      refine w_icgt_f rfl (by omega) (by omega) (by omega) (by omega) (by omega) ?_
      refine w_aload_n rfl rfl ?_
      refine w_iload rfl rfl ?_
      refine w_ialoadS rfl (by omega) (by omega) (by omega) ?_
      refine w_bipush rfl rfl ?_
      refine w_and15 rfl ?_
      have K : ∀ (ρ' : RS) (of' : Nat → Value) (H' : AH) (w5 w6 w7 : Option Value), Iv b m0 A0 (tm + 1) (nc + 3) (ns + 600) ρ' of' H' → Wp b L xs 10 mi_145 1079 [some (.ref b), some (.ref A0), some (.ref m0), some (.ref (m0 + 1160)), some (vI i), w5, w6, w7] [] H' (fun h' o => o = .inl (some (.int 1)) ∧ h'.1 ≤ nc + 3 * (m + 1) + 8000 ∧ h'.2.1 ≤ ns + 600 * (m + 1) + 144000) := by
        intro ρ' of' H' w5 w6 w7 hI'
        refine w_iinc rfl rfl (by decide) ?_
        refine w_goto rfl ?_
        refine Wp_im (fun h' o z => ⟨z.1, by omega, by omega⟩) (ih (i + 5) (tm + 1) (nc + 3) (ns + 600) ρ' of' H' w5 w6 w7 (by omega) (by omega) (by omega) hI')
      obtain ⟨r, hr⟩ : ∃ r, (xs (i : Int).toNat).toInt % 16 = r := ⟨_, rfl⟩
      have r1 : 0 ≤ r ∧ r < 16 := by omega
      rw [hr]
      by_cases q14 : 14 ≤ r
      · refine w_tswd rfl (by omega) (by omega) (Or.inr (by omega)) ?_
        exact K _ _ _ _ _ _ (Iv_more hI)
      by_cases q0 : r = 0
      · subst q0
        refine w_tsw (t := 108) rfl (by omega) (by omega) (by omega) (by omega) rfl ?_
        exact lw_begin hb hL hi (by omega) hI K
      by_cases q1 : r = 1
      · subst q1
        refine w_tsw (t := 144) rfl (by omega) (by omega) (by omega) (by omega) rfl ?_
        exact lw_make hb hL hi (by omega) hI K
      by_cases q2 : r = 2
      · subst q2
        refine w_tsw (t := 240) rfl (by omega) (by omega) (by omega) (by omega) rfl ?_
        exact lw_write hb hL hi (by omega) hI K
      by_cases q3 : r = 3
      · subst q3
        refine w_tsw (t := 352) rfl (by omega) (by omega) (by omega) (by omega) rfl ?_
        exact lw_cut hb hL hi (by omega) hI K
      by_cases q4 : r = 4
      · subst q4
        refine w_tsw (t := 400) rfl (by omega) (by omega) (by omega) (by omega) rfl ?_
        exact lw_move hb hL hi (by omega) hI K
      by_cases q5 : r = 5
      · subst q5
        refine w_tsw (t := 460) rfl (by omega) (by omega) (by omega) (by omega) rfl ?_
        exact lw_remove hb hL hi (by omega) hI K
      by_cases q6 : r = 6
      · subst q6
        refine w_tsw (t := 496) rfl (by omega) (by omega) (by omega) (by omega) rfl ?_
        exact lw_dump hb hL hi (by omega) hI K
      by_cases q7 : r = 7
      · subst q7
        refine w_tsw (t := 552) rfl (by omega) (by omega) (by omega) (by omega) rfl ?_
        exact lw_spoil hb hL hi (by omega) hI K
      by_cases q8 : r = 8
      · subst q8
        refine w_tsw (t := 600) rfl (by omega) (by omega) (by omega) (by omega) rfl ?_
        exact lw_tape hb hL hi (by omega) hI K
      by_cases q9 : r = 9
      · subst q9
        refine w_tsw (t := 679) rfl (by omega) (by omega) (by omega) (by omega) rfl ?_
        exact lw_restore hb hL hi (by omega) hI K
      by_cases q10 : r = 10
      · subst q10
        refine w_tsw (t := 735) rfl (by omega) (by omega) (by omega) (by omega) rfl ?_
        exact lw_node hb hL hi (by omega) hI K
      by_cases q11 : r = 11
      · subst q11
        refine w_tsw (t := 831) rfl (by omega) (by omega) (by omega) (by omega) rfl ?_
        exact lw_octet hb hL hi (by omega) hI K
      by_cases q12 : r = 12
      · subst q12
        refine w_tsw (t := 927) rfl (by omega) (by omega) (by omega) (by omega) rfl ?_
        exact lw_find hb hL hi (by omega) hI K
      by_cases q13 : r = 13
      · subst q13
        refine w_tsw (t := 1023) rfl (by omega) (by omega) (by omega) (by omega) rfl ?_
        exact lw_count hb hL hi (by omega) hI K
      omega
    · have bd := Iv_bd hI
      refine w_iload rfl rfl ?_
      refine w_aload_n rfl rfl ?_
      refine w_alenS rfl ?_
      refine w_iconst rfl ?_
      refine w_isub rfl ?_
      refine w_icgt_t rfl (by omega) (by omega) (by omega) (by omega) (by omega) ?_
      refine w_iconst rfl ?_
      refine w_zreturn rfl rfl (Or.inr rfl) ?_
      exact ⟨rfl, by omega, by omega⟩
end Lw
