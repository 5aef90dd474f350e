/-! calls -/
theorem mt_0 : mt[0]? = some mi_0 := rfl
theorem mt_1 : mt[1]? = some mi_1 := rfl
theorem mt_2 : mt[2]? = some mi_2 := rfl
theorem mt_3 : mt[3]? = some mi_3 := rfl
theorem mt_4 : mt[4]? = some mi_4 := rfl
theorem mt_5 : mt[5]? = some mi_5 := rfl
theorem mt_6 : mt[6]? = some mi_6 := rfl
theorem mt_7 : mt[7]? = some mi_7 := rfl
theorem mt_8 : mt[8]? = some mi_8 := rfl
theorem mt_9 : mt[9]? = some mi_9 := rfl
theorem mt_10 : mt[10]? = some mi_10 := rfl
theorem mt_11 : mt[11]? = some mi_11 := rfl
theorem mt_12 : mt[12]? = some mi_12 := rfl
theorem mt_13 : mt[13]? = some mi_13 := rfl
theorem mt_14 : mt[14]? = some mi_14 := rfl
theorem mt_15 : mt[15]? = some mi_15 := rfl
theorem mt_16 : mt[16]? = some mi_16 := rfl
theorem mt_17 : mt[17]? = some mi_17 := rfl
theorem mt_18 : mt[18]? = some mi_18 := rfl
theorem mt_19 : mt[19]? = some mi_19 := rfl
theorem mt_20 : mt[20]? = some mi_20 := rfl
theorem mt_21 : mt[21]? = some mi_21 := rfl
theorem mt_22 : mt[22]? = some mi_22 := rfl
theorem mt_23 : mt[23]? = some mi_23 := rfl
theorem mt_24 : mt[24]? = some mi_24 := rfl
theorem mt_25 : mt[25]? = some mi_25 := rfl
theorem mt_26 : mt[26]? = some mi_26 := rfl
theorem mt_27 : mt[27]? = some mi_27 := rfl
theorem mt_28 : mt[28]? = some mi_28 := rfl
theorem mt_29 : mt[29]? = some mi_29 := rfl
theorem mt_30 : mt[30]? = some mi_30 := rfl
theorem mt_31 : mt[31]? = some mi_31 := rfl
theorem mt_32 : mt[32]? = some mi_32 := rfl
theorem mt_33 : mt[33]? = some mi_33 := rfl
theorem mt_34 : mt[34]? = some mi_34 := rfl
theorem mt_35 : mt[35]? = some mi_35 := rfl
theorem mt_36 : mt[36]? = some mi_36 := rfl
theorem mt_37 : mt[37]? = some mi_37 := rfl
theorem mt_38 : mt[38]? = some mi_38 := rfl
theorem mt_39 : mt[39]? = some mi_39 := rfl
theorem mt_40 : mt[40]? = some mi_40 := rfl
theorem mt_41 : mt[41]? = some mi_41 := rfl
theorem mt_42 : mt[42]? = some mi_42 := rfl
theorem mt_43 : mt[43]? = some mi_43 := rfl
theorem mt_44 : mt[44]? = some mi_44 := rfl
theorem mt_45 : mt[45]? = some mi_45 := rfl
theorem mt_46 : mt[46]? = some mi_46 := rfl
theorem mt_47 : mt[47]? = some mi_47 := rfl
theorem mt_48 : mt[48]? = some mi_48 := rfl
theorem mt_49 : mt[49]? = some mi_49 := rfl
theorem mt_50 : mt[50]? = some mi_50 := rfl
theorem mt_51 : mt[51]? = some mi_51 := rfl
theorem mt_52 : mt[52]? = some mi_52 := rfl
theorem mt_53 : mt[53]? = some mi_53 := rfl
theorem mt_54 : mt[54]? = some mi_54 := rfl
theorem mt_55 : mt[55]? = some mi_55 := rfl
theorem mt_56 : mt[56]? = some mi_56 := rfl
theorem mt_57 : mt[57]? = some mi_57 := rfl
theorem mt_58 : mt[58]? = some mi_58 := rfl
theorem mt_59 : mt[59]? = some mi_59 := rfl
theorem mt_60 : mt[60]? = some mi_60 := rfl
theorem mt_61 : mt[61]? = some mi_61 := rfl
theorem mt_62 : mt[62]? = some mi_62 := rfl
theorem mt_63 : mt[63]? = some mi_63 := rfl
theorem mt_64 : mt[64]? = some mi_64 := rfl
theorem mt_65 : mt[65]? = some mi_65 := rfl
theorem mt_66 : mt[66]? = some mi_66 := rfl
theorem mt_67 : mt[67]? = some mi_67 := rfl
theorem mt_68 : mt[68]? = some mi_68 := rfl
theorem mt_69 : mt[69]? = some mi_69 := rfl
theorem mt_70 : mt[70]? = some mi_70 := rfl
theorem mt_71 : mt[71]? = some mi_71 := rfl
theorem mt_72 : mt[72]? = some mi_72 := rfl
theorem mt_73 : mt[73]? = some mi_73 := rfl
theorem mt_74 : mt[74]? = some mi_74 := rfl
theorem mt_75 : mt[75]? = some mi_75 := rfl
theorem mt_76 : mt[76]? = some mi_76 := rfl
theorem mt_77 : mt[77]? = some mi_77 := rfl
theorem mt_78 : mt[78]? = some mi_78 := rfl
theorem mt_79 : mt[79]? = some mi_79 := rfl
theorem mt_80 : mt[80]? = some mi_80 := rfl
theorem mt_81 : mt[81]? = some mi_81 := rfl
theorem mt_82 : mt[82]? = some mi_82 := rfl
theorem mt_83 : mt[83]? = some mi_83 := rfl
theorem mt_84 : mt[84]? = some mi_84 := rfl
theorem mt_85 : mt[85]? = some mi_85 := rfl
theorem mt_86 : mt[86]? = some mi_86 := rfl
theorem mt_87 : mt[87]? = some mi_87 := rfl
theorem mt_88 : mt[88]? = some mi_88 := rfl
theorem mt_89 : mt[89]? = some mi_89 := rfl
theorem mt_90 : mt[90]? = some mi_90 := rfl
theorem mt_91 : mt[91]? = some mi_91 := rfl
theorem mt_92 : mt[92]? = some mi_92 := rfl
theorem mt_93 : mt[93]? = some mi_93 := rfl
theorem mt_94 : mt[94]? = some mi_94 := rfl
theorem mt_95 : mt[95]? = some mi_95 := rfl
theorem mt_96 : mt[96]? = some mi_96 := rfl
theorem mt_97 : mt[97]? = some mi_97 := rfl
theorem mt_98 : mt[98]? = some mi_98 := rfl
theorem mt_99 : mt[99]? = some mi_99 := rfl
theorem mt_100 : mt[100]? = some mi_100 := rfl
theorem mt_101 : mt[101]? = some mi_101 := rfl
theorem mt_102 : mt[102]? = some mi_102 := rfl
theorem mt_103 : mt[103]? = some mi_103 := rfl
theorem mt_104 : mt[104]? = some mi_104 := rfl
theorem mt_105 : mt[105]? = some mi_105 := rfl
theorem mt_106 : mt[106]? = some mi_106 := rfl
theorem mt_107 : mt[107]? = some mi_107 := rfl
theorem mt_108 : mt[108]? = some mi_108 := rfl
theorem mt_109 : mt[109]? = some mi_109 := rfl
theorem mt_110 : mt[110]? = some mi_110 := rfl
theorem mt_111 : mt[111]? = some mi_111 := rfl
theorem mt_112 : mt[112]? = some mi_112 := rfl
theorem mt_113 : mt[113]? = some mi_113 := rfl
theorem mt_114 : mt[114]? = some mi_114 := rfl
theorem mt_115 : mt[115]? = some mi_115 := rfl
theorem mt_116 : mt[116]? = some mi_116 := rfl
theorem mt_117 : mt[117]? = some mi_117 := rfl
theorem mt_118 : mt[118]? = some mi_118 := rfl
theorem mt_119 : mt[119]? = some mi_119 := rfl
theorem mt_120 : mt[120]? = some mi_120 := rfl
theorem mt_121 : mt[121]? = some mi_121 := rfl
theorem mt_122 : mt[122]? = some mi_122 := rfl
theorem mt_123 : mt[123]? = some mi_123 := rfl
theorem mt_124 : mt[124]? = some mi_124 := rfl
theorem mt_125 : mt[125]? = some mi_125 := rfl
theorem mt_126 : mt[126]? = some mi_126 := rfl
theorem mt_127 : mt[127]? = some mi_127 := rfl
theorem mt_128 : mt[128]? = some mi_128 := rfl
theorem mt_129 : mt[129]? = some mi_129 := rfl
theorem mt_130 : mt[130]? = some mi_130 := rfl
theorem mt_131 : mt[131]? = some mi_131 := rfl
theorem mt_132 : mt[132]? = some mi_132 := rfl
theorem mt_133 : mt[133]? = some mi_133 := rfl
theorem mt_134 : mt[134]? = some mi_134 := rfl
theorem mt_135 : mt[135]? = some mi_135 := rfl
theorem mt_136 : mt[136]? = some mi_136 := rfl
theorem mt_137 : mt[137]? = some mi_137 := rfl
theorem mt_138 : mt[138]? = some mi_138 := rfl
theorem mt_139 : mt[139]? = some mi_139 := rfl
theorem mt_140 : mt[140]? = some mi_140 := rfl
theorem mt_141 : mt[141]? = some mi_141 := rfl
theorem mt_142 : mt[142]? = some mi_142 := rfl
theorem mt_143 : mt[143]? = some mi_143 := rfl
theorem mt_144 : mt[144]? = some mi_144 := rfl
/-- a functional end -/
def Rt (h1 : AH) (v : Value) : AH → RO → Prop := fun h' o => h' = h1 ∧ o = .inl (some v)
def Rn (h1 : AH) : AH → RO → Prop := fun h' o => h' = h1 ∧ o = .inl none
section Wcs
variable {b L : Nat} {xs : Nat → Int32} {d : Nat} {M : MI} {pc nx : Nat} {ri : List Nat} {lv : List (Option Value)} {st : List Value} {h : AH} {Q : AH → RO → Prop}
theorem W_call {ins : Instr} {kd na k : Nat} {t : List Nat} {z : List Value × List Value} {y : Nat × List Value × List Value} {M' : MI} {Q1 : AH → RO → Prop} (q : fet (mE M) pc = some (ins, nx, kd :: na :: k :: t)) (hd : ∀ rc : RF, dpF b L xs rc d M pc ins nx (kd :: na :: k :: t) lv st h = cdF rc d M pc nx kd na k t lv st h) (h1 : 1 ≤ d) (hp : popN na st = some z) (ht : tgtM kd k t z.2 h = some y) (hm : mt[y.1]? = some M') (hl : ((y.2.1 ++ z.1).flatMap ent1).length ≤ mL M') (hw : wsum y.2.2 ≤ 8) (c : Wp b L xs (d - 1) M' 0 (ent (mL M') (y.2.1 ++ z.1)) [] h Q1) (kk : ∀ h1 o, Q1 h1 o → ∃ v, o = .inl v ∧ Wp b L xs d M nx lv (v.toList ++ y.2.2) h1 Q) : Wp b L xs d M pc lv st h Q := by
  obtain ⟨n, h2, o, e, hq⟩ := c
  obtain ⟨v, rfl, n2, h3, o3, e3, hq3⟩ := kk _ _ hq
  obtain ⟨d', rfl⟩ : ∃ d', d = d' + 1 := ⟨d - 1, by omega⟩
  refine ⟨max n n2 + 1, h3, o3, ?_, hq3⟩
  show (match fet (mE M) pc with | none => none | some q => dpF b L xs (rnF b L xs (max n n2)) (d' + 1) M pc q.1 q.2.1 q.2.2 lv st h) = some (h3, o3)
  rw [q]
  show dpF b L xs (rnF b L xs (max n n2)) (d' + 1) M pc ins nx (kd :: na :: k :: t) lv st h = some (h3, o3)
  rw [hd]
  unfold cdF
  rw [hp]
  dsimp only
  rw [ht]
  dsimp only
  rw [hm]
  dsimp only
  have e9 : rnF b L xs (max n n2) d' M' 0 (ent (mL M') (y.2.1 ++ z.1)) [] h = some (h2, .inl v) := rnF_mono (Nat.le_max_left n n2) _ _ _ _ _ _ _ e
  rw [if_pos ⟨hl, hw⟩, e9]
  exact rnF_mono (Nat.le_max_right n n2) _ _ _ _ _ _ _ e3
/-- a static call -/
theorem w_cs {i kd na k : Nat} {t : List Nat} {as rest : List Value} {M' : MI} {Q1 : AH → RO → Prop} (q : fet (mE M) pc = some (.invokestatic i, nx, kd :: na :: k :: t)) (hk : kd = 0 ∨ kd = 1 ∨ kd = 8) (h1 : 1 ≤ d) (hp : popN na st = some (as, rest)) (hm : mt[k]? = some M') (hl : (as.flatMap ent1).length ≤ mL M') (hw : wsum rest ≤ 8) (c : Wp b L xs (d - 1) M' 0 (ent (mL M') as) [] h Q1) (kk : ∀ h1 o, Q1 h1 o → ∃ v, o = .inl v ∧ Wp b L xs d M nx lv (v.toList ++ rest) h1 Q) : Wp b L xs d M pc lv st h Q := by
  refine W_call (y := (k, [], rest)) q ?_ h1 hp ?_ hm hl hw c kk
  · rcases hk with rfl | rfl | rfl <;> exact fun _ => rfl
  · rcases hk with rfl | rfl | rfl <;> rfl
theorem w_csV {i kd na k : Nat} {t : List Nat} {as rest : List Value} {M' : MI} {h1 : AH} {v : Value} (q : fet (mE M) pc = some (.invokestatic i, nx, kd :: na :: k :: t)) (hk : kd = 0 ∨ kd = 1 ∨ kd = 8) (hd : 1 ≤ d) (hp : popN na st = some (as, rest)) (hm : mt[k]? = some M') (hl : (as.flatMap ent1).length ≤ mL M') (hw : wsum rest ≤ 8) (c : Wp b L xs (d - 1) M' 0 (ent (mL M') as) [] h (Rt h1 v)) (kk : Wp b L xs d M nx lv (v :: rest) h1 Q) : Wp b L xs d M pc lv st h Q :=
  w_cs q hk hd hp hm hl hw c (fun _ _ ⟨e1, e2⟩ => ⟨some v, e2, by rw [e1]; exact kk⟩)
/-- a constructor's -/
theorem w_ci {i kd na k a : Nat} {t : List Nat} {as rest : List Value} {M' : MI} {Q1 : AH → RO → Prop} (q : fet (mE M) pc = some (.invokespecial i, nx, kd :: na :: k :: t)) (hk : kd = 4 ∨ kd = 5) (h1 : 1 ≤ d) (hp : popN na st = some (as, .ref a :: rest)) (hm : mt[k]? = some M') (hl : ((.ref a :: as).flatMap ent1).length ≤ mL M') (hw : wsum rest ≤ 8) (c : Wp b L xs (d - 1) M' 0 (ent (mL M') (.ref a :: as)) [] h Q1) (kk : ∀ h1 o, Q1 h1 o → ∃ v, o = .inl v ∧ Wp b L xs d M nx lv (v.toList ++ rest) h1 Q) : Wp b L xs d M pc lv st h Q := by
  refine W_call (y := (k, [.ref a], rest)) q ?_ h1 hp ?_ hm hl hw c kk
  · rcases hk with rfl | rfl <;> exact fun _ => rfl
  · rcases hk with rfl | rfl <;> rfl
theorem w_ciN {i kd na k a : Nat} {t : List Nat} {as rest : List Value} {M' : MI} {h1 : AH} (q : fet (mE M) pc = some (.invokespecial i, nx, kd :: na :: k :: t)) (hk : kd = 4 ∨ kd = 5) (hd : 1 ≤ d) (hp : popN na st = some (as, .ref a :: rest)) (hm : mt[k]? = some M') (hl : ((.ref a :: as).flatMap ent1).length ≤ mL M') (hw : wsum rest ≤ 8) (c : Wp b L xs (d - 1) M' 0 (ent (mL M') (.ref a :: as)) [] h (Rn h1)) (kk : Wp b L xs d M nx lv rest h1 Q) : Wp b L xs d M pc lv st h Q :=
  w_ci q hk hd hp hm hl hw c (fun _ _ ⟨e1, e2⟩ => ⟨none, e2, by rw [e1]; exact kk⟩)
/-- Object.<init> -/
theorem w_obj {i a : Nat} {t : List Nat} {rest : List Value} (q : fet (mE M) pc = some (.invokespecial i, nx, 10 :: t)) (h1 : 1 ≤ d) (hw : wsum rest ≤ 8) (kk : Wp b L xs d M nx lv rest h Q) : Wp b L xs d M pc lv (.ref a :: rest) h Q := by
  obtain ⟨n, h2, o, e, hq⟩ := kk
  refine ⟨n + 1, h2, o, ?_, hq⟩
  show (match fet (mE M) pc with | none => none | some q => dpF b L xs (rnF b L xs n) d M pc q.1 q.2.1 q.2.2 lv (.ref a :: rest) h) = some (h2, o)
  rw [q]
  show (if 1 ≤ d ∧ wsum rest ≤ 8 then rnF b L xs n d M nx lv rest h else none) = _
  rw [if_pos ⟨h1, hw⟩]
  exact e
/-- a virtual call on the class's own -/
theorem w_cv {i kd na k ci a : Nat} {t : List Nat} {as rest fs : List Value} {M' : MI} {Q1 : AH → RO → Prop} (q : fet (mE M) pc = some (.invokevirtual i, nx, kd :: na :: k :: ci :: t)) (hk : kd = 2 ∨ kd = 9) (h1 : 1 ≤ d) (hp : popN na st = some (as, .ref a :: rest)) (ho : h.2.2 a = some (.inr (ci, fs))) (hm : mt[k]? = some M') (hl : ((.ref a :: as).flatMap ent1).length ≤ mL M') (hw : wsum rest ≤ 8) (c : Wp b L xs (d - 1) M' 0 (ent (mL M') (.ref a :: as)) [] h Q1) (kk : ∀ h1 o, Q1 h1 o → ∃ v, o = .inl v ∧ Wp b L xs d M nx lv (v.toList ++ rest) h1 Q) : Wp b L xs d M pc lv st h Q := by
  refine W_call (y := (k, [.ref a], rest)) q ?_ h1 hp ?_ hm hl hw c kk
  · rcases hk with rfl | rfl <;> exact fun _ => rfl
  · rcases hk with rfl | rfl
    · rw [tgtM_2]
      dsimp only
      rw [ho]
      dsimp only
      rw [if_pos rfl]
    · rw [tgtM_9]
      dsimp only
      rw [ho]
      dsimp only
      rw [if_pos rfl]
theorem w_cvV {i kd na k ci a : Nat} {t : List Nat} {as rest fs : List Value} {M' : MI} {h1 : AH} {v : Value} (q : fet (mE M) pc = some (.invokevirtual i, nx, kd :: na :: k :: ci :: t)) (hk : kd = 2 ∨ kd = 9) (hd : 1 ≤ d) (hp : popN na st = some (as, .ref a :: rest)) (ho : h.2.2 a = some (.inr (ci, fs))) (hm : mt[k]? = some M') (hl : ((.ref a :: as).flatMap ent1).length ≤ mL M') (hw : wsum rest ≤ 8) (c : Wp b L xs (d - 1) M' 0 (ent (mL M') (.ref a :: as)) [] h (Rt h1 v)) (kk : Wp b L xs d M nx lv (v :: rest) h1 Q) : Wp b L xs d M pc lv st h Q :=
  w_cv q hk hd hp ho hm hl hw c (fun _ _ ⟨e1, e2⟩ => ⟨some v, e2, by rw [e1]; exact kk⟩)
theorem w_cvN {i kd na k ci a : Nat} {t : List Nat} {as rest fs : List Value} {M' : MI} {h1 : AH} (q : fet (mE M) pc = some (.invokevirtual i, nx, kd :: na :: k :: ci :: t)) (hk : kd = 2 ∨ kd = 9) (hd : 1 ≤ d) (hp : popN na st = some (as, .ref a :: rest)) (ho : h.2.2 a = some (.inr (ci, fs))) (hm : mt[k]? = some M') (hl : ((.ref a :: as).flatMap ent1).length ≤ mL M') (hw : wsum rest ≤ 8) (c : Wp b L xs (d - 1) M' 0 (ent (mL M') (.ref a :: as)) [] h (Rn h1)) (kk : Wp b L xs d M nx lv rest h1 Q) : Wp b L xs d M pc lv st h Q :=
  w_cv q hk hd hp ho hm hl hw c (fun _ _ ⟨e1, e2⟩ => ⟨none, e2, by rw [e1]; exact kk⟩)
/-- a call of the view's, on a tree or on what was restored -/
theorem w_ca1 {i na k k2 a : Nat} {t : List Nat} {as rest fs : List Value} {M' : MI} {Q1 : AH → RO → Prop} (q : fet (mE M) pc = some (.invokevirtual i, nx, 6 :: na :: k :: k2 :: t)) (h1 : 1 ≤ d) (hp : popN na st = some (as, .ref a :: rest)) (ho : h.2.2 a = some (.inr (1, fs))) (hm : mt[k]? = some M') (hl : ((.ref a :: as).flatMap ent1).length ≤ mL M') (hw : wsum rest ≤ 8) (c : Wp b L xs (d - 1) M' 0 (ent (mL M') (.ref a :: as)) [] h Q1) (kk : ∀ h1 o, Q1 h1 o → ∃ v, o = .inl v ∧ Wp b L xs d M nx lv (v.toList ++ rest) h1 Q) : Wp b L xs d M pc lv st h Q := by
  refine W_call (y := (k, [.ref a], rest)) q (fun _ => rfl) h1 hp ?_ hm hl hw c kk
  rw [tgtM_6]
  dsimp only
  rw [ho]
  rfl
theorem w_ca4 {i na k k2 a : Nat} {t : List Nat} {as rest fs : List Value} {M' : MI} {Q1 : AH → RO → Prop} (q : fet (mE M) pc = some (.invokevirtual i, nx, 6 :: na :: k :: k2 :: t)) (h1 : 1 ≤ d) (hp : popN na st = some (as, .ref a :: rest)) (ho : h.2.2 a = some (.inr (4, fs))) (hm : mt[k2]? = some M') (hl : ((.ref a :: as).flatMap ent1).length ≤ mL M') (hw : wsum rest ≤ 8) (c : Wp b L xs (d - 1) M' 0 (ent (mL M') (.ref a :: as)) [] h Q1) (kk : ∀ h1 o, Q1 h1 o → ∃ v, o = .inl v ∧ Wp b L xs d M nx lv (v.toList ++ rest) h1 Q) : Wp b L xs d M pc lv st h Q := by
  refine W_call (y := (k2, [.ref a], rest)) q (fun _ => rfl) h1 hp ?_ hm hl hw c kk
  rw [tgtM_6]
  dsimp only
  rw [ho]
  rfl
theorem w_max {i : Nat} {t : List Nat} {x y : Int} (q : fet (mE M) pc = some (.invokestatic i, nx, 11 :: t)) (h1 : 1 ≤ d) (hw : wsum st ≤ 8) (x1 : -2147483648 ≤ x) (x2 : x ≤ 2147483647) (y1 : -2147483648 ≤ y) (y2 : y ≤ 2147483647) (kk : Wp b L xs d M nx lv (vI (max x y) :: st) h Q) : Wp b L xs d M pc lv (vI y :: vI x :: st) h Q := by
  obtain ⟨n, h2, o, e, hq⟩ := kk
  refine ⟨n + 1, h2, o, ?_, hq⟩
  show (match fet (mE M) pc with | none => none | some q => dpF b L xs (rnF b L xs n) d M pc q.1 q.2.1 q.2.2 lv (vI y :: vI x :: st) h) = some (h2, o)
  rw [q]
  show (if 1 ≤ d ∧ wsum st ≤ 8 then rnF b L xs n d M nx lv (.int (if Int32.ofInt x < Int32.ofInt y then Int32.ofInt y else Int32.ofInt x) :: st) h else none) = _
  rw [if_pos ⟨h1, hw⟩, ← e]
  congr 2
  by_cases hc : x < y
  · rw [if_pos ((i_lt x1 x2 y1 y2).mpr hc), vI, Int.max_eq_right (by omega)]
  · rw [if_neg (fun z => hc ((i_lt x1 x2 y1 y2).mp z)), vI, Int.max_eq_left (by omega)]
theorem w_min {i : Nat} {t : List Nat} {x y : Int} (q : fet (mE M) pc = some (.invokestatic i, nx, 12 :: t)) (h1 : 1 ≤ d) (hw : wsum st ≤ 8) (x1 : -2147483648 ≤ x) (x2 : x ≤ 2147483647) (y1 : -2147483648 ≤ y) (y2 : y ≤ 2147483647) (kk : Wp b L xs d M nx lv (vI (min x y) :: st) h Q) : Wp b L xs d M pc lv (vI y :: vI x :: st) h Q := by
  obtain ⟨n, h2, o, e, hq⟩ := kk
  refine ⟨n + 1, h2, o, ?_, hq⟩
  show (match fet (mE M) pc with | none => none | some q => dpF b L xs (rnF b L xs n) d M pc q.1 q.2.1 q.2.2 lv (vI y :: vI x :: st) h) = some (h2, o)
  rw [q]
  show (if 1 ≤ d ∧ wsum st ≤ 8 then rnF b L xs n d M nx lv (.int (if Int32.ofInt y < Int32.ofInt x then Int32.ofInt y else Int32.ofInt x) :: st) h else none) = _
  rw [if_pos ⟨h1, hw⟩, ← e]
  congr 2
  by_cases hc : y < x
  · rw [if_pos ((i_lt y1 y2 x1 x2).mpr hc), vI, Int.min_eq_right (by omega)]
  · rw [if_neg (fun z => hc ((i_lt y1 y2 x1 x2).mp z)), vI, Int.min_eq_left (by omega)]
/-- an array of arrays -/
theorem w_multi {i j t w : Nat} {n k : Int} {ty : FieldType} (q : fet (mE M) pc = some (.multianewarray i j, nx, t :: w :: ri)) (ht : muT t = some ty) (hc : mchk M pc i nx w ty = true) (n1 : 0 ≤ n) (n2 : n ≤ 100000) (k1 : 0 ≤ k) (k2 : k ≤ 100000) (kk : Wp b L xs d M nx lv (.ref h.1 :: st) (hmul h ty n.toNat k.toNat) Q) : Wp b L xs d M pc lv (vI k :: vI n :: st) h Q := by
  obtain ⟨m, h2, o, e, hq⟩ := kk
  refine ⟨m + 1, h2, o, ?_, hq⟩
  show (match fet (mE M) pc with | none => none | some q => dpF b L xs (rnF b L xs m) d M pc q.1 q.2.1 q.2.2 lv (vI k :: vI n :: st) h) = some (h2, o)
  rw [q]
  show (match muT t with | some ty => muG (rnF b L xs m) d M pc i nx ty w lv (vI k :: vI n :: st) h | none => none) = _
  rw [ht]
  show (if _ then _ else none) = _
  rw [if_pos ⟨hc, by rw [i_zero, i_lt (by omega) (by omega) (by omega) (by omega)]; omega, by rw [i_zero, i_lt (by omega) (by omega) (by omega) (by omega)]; omega, by rw [i_clamp n1 (by omega)]; omega, by rw [i_clamp k1 (by omega)]; omega⟩, i_clamp n1 (by omega), i_clamp k1 (by omega)]
  exact e
/-- a throw -/
theorem w_throw {i E ic w : Nat} (q : fet (mE M) pc = some (.new i, nx, [50, E, ic, w])) (h1 : 5 < d) (hw : wsum st ≤ 8) (kk : Q (hskip h 6) (.inr E)) : Wp b L xs d M pc lv st h Q := by
  refine ⟨1, _, _, ?_, kk⟩
  show (match fet (mE M) pc with | none => none | some q => dpF b L xs (rnF b L xs 0) d M pc q.1 q.2.1 q.2.2 lv st h) = _
  rw [q]
  show (if 5 < d ∧ wsum st ≤ 8 then some (hskip h 6, (Sum.inr E : RO)) else none) = _
  rw [if_pos ⟨h1, hw⟩]
/-- a call whose callee throws, in a helper of the law: the handler stores what was thrown into the place p -/
theorem w_catch {i na k ci a E hp p nx2 : Nat} {t ri2 : List Nat} {ins2 : Instr} {as rest fs : List Value} {M' : MI} {h1 : AH} (q : fet (mE M) pc = some (.invokevirtual i, nx, 9 :: na :: k :: ci :: t)) (hd : 1 ≤ d) (hpo : popN na st = some (as, .ref a :: rest)) (ho : h.2.2 a = some (.inr (ci, fs))) (hm : mt[k]? = some M') (hl : ((.ref a :: as).flatMap ent1).length ≤ mL M') (hw : wsum rest ≤ 8) (c : Wp b L xs (d - 1) M' 0 (ent (mL M') (.ref a :: as)) [] h (fun h' o => h' = h1 ∧ o = .inr E))
    (hcl : (mY M).cls = "TapeVaultLaw") (hfh : fh (mH M) pc E = some hp) (hf : fet (mE M) hp = some (.astore p, nx2, ri2)) (hpL : p < mL M) (kk : Wp b L xs d M nx2 ((lv1 lv p .null).set p none) [] h1 Q) : Wp b L xs d M pc lv st h Q := by
  obtain ⟨n, h2, o, e, e1, e2⟩ := c
  subst e1 e2
  obtain ⟨n2, h3, o3, e3, hq3⟩ := kk
  obtain ⟨d', rfl⟩ : ∃ d', d = d' + 1 := ⟨d - 1, by omega⟩
  refine ⟨max n n2 + 1, h3, o3, ?_, hq3⟩
  show (match fet (mE M) pc with | none => none | some q => dpF b L xs (rnF b L xs (max n n2)) (d' + 1) M pc q.1 q.2.1 q.2.2 lv st h) = some (h3, o3)
  rw [q]
  show cdF (rnF b L xs (max n n2)) (d' + 1) M pc nx 9 na k (ci :: t) lv st h = some (h3, o3)
  unfold cdF
  rw [hpo]
  dsimp only
  rw [tgtM_9]
  dsimp only
  rw [ho]
  dsimp only
  rw [if_pos rfl]
  dsimp only
  rw [hm]
  dsimp only
  have e9 : rnF b L xs (max n n2) d' M' 0 (ent (mL M') ([.ref a] ++ as)) [] h = some (h2, .inr E) := rnF_mono (Nat.le_max_left n n2) _ _ _ _ _ _ _ e
  rw [if_pos ⟨hl, hw⟩, e9]
  dsimp only
  rw [if_pos rfl]
  unfold ctF
  rw [if_pos hcl, hfh]
  dsimp only
  rw [hf]
  dsimp only
  rw [if_pos hpL]
  exact rnF_mono (Nat.le_max_right n n2) _ _ _ _ _ _ _ e3
end Wcs
