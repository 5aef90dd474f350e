/-! the run of a method's frame: steps, calls, returns, throws -/
abbrev RO : Type := Option Value ⊕ Nat
def mY (M : MI) : MethodName := M.1
def mB (M : MI) : ByteArray := M.2.1
def mL (M : MI) : Nat := M.2.2.1
def mR (M : MI) : Option FieldType := M.2.2.2.1
def mH (M : MI) : List (Nat × Nat × Nat × Nat) := M.2.2.2.2.1
def mE (M : MI) : List EN := M.2.2.2.2.2
def fet (E : List EN) (pc : Nat) : Option (Instr × Nat × List Nat) := match E with
  | [] => none
  | e :: t => bif Nat.beq e.1 pc then some e.2 else fet t pc
def popN : Nat → List Value → Option (List Value × List Value)
  | 0, st => some ([], st)
  | n + 1, st => match st with
    | v :: r => match popN n r with
      | some q => some (q.1 ++ [v], q.2)
      | none => none
    | [] => none
def ent1 (v : Value) : List (Option Value) := match v with
  | .long x => [some (.long x), none]
  | .double x => [some (.double x), none]
  | v => [some v]
def ent (nL : Nat) (vs : List Value) : List (Option Value) := vs.flatMap ent1 ++ List.replicate (nL - (vs.flatMap ent1).length) none
def wsum (st : List Value) : Nat := (st.map fun v => v.category).sum
def retV (rt : Option FieldType) (ins : Instr) (st : List Value) : Option (Option Value) := match ins, st, rt with
  | .ireturn, [.int v], some .int => some (some (.int v))
  | .ireturn, [.int v], some .boolean => if v = 0 ∨ v = 1 then some (some (.int v)) else none
  | .lreturn, [.long v], some .long => some (some (.long v))
  | .areturn, [.ref a], some (.object _) => some (some (.ref a))
  | .areturn, [.null], some (.object _) => some (some .null)
  | .areturn, [.ref a], some (.array _) => some (some (.ref a))
  | .return_, [], none => some none
  | _, _, _ => none
/-- the classes that the law's handlers name -/
def hcl : List (Nat × Nat) := [(13, 0), (19, 1), (21, 2), (35, 3)]
def fh (hh : List (Nat × Nat × Nat × Nat)) (pc E : Nat) : Option Nat := match hh with
  | [] => none
  | q :: t => if q.1 ≤ pc ∧ pc < q.2.1 then (match hcl.lookup q.2.2.2 with
      | some F => if F = E then some q.2.2.1 else fh t pc E
      | none => none)
    else fh t pc E
/-- the method that a call comes to, its receiver, what is left on the stack -/
def tgtM (kd k : Nat) (t : List Nat) (r : List Value) (h : AH) : Option (Nat × List Value × List Value) := match kd with
  | 0 => some (k, [], r)
  | 1 => some (k, [], r)
  | 8 => some (k, [], r)
  | 4 => match r with
    | .ref a :: r => some (k, [.ref a], r)
    | _ => none
  | 5 => match r with
    | .ref a :: r => some (k, [.ref a], r)
    | _ => none
  | 6 => match r, t with
    | .ref a :: r, k2 :: _ => match h.2.2 a with
      | some (.inr (1, _)) => some (k, [.ref a], r)
      | some (.inr (4, _)) => some (k2, [.ref a], r)
      | _ => none
    | _, _ => none
  | 2 => match r, t with
    | .ref a :: r, ci :: _ => match h.2.2 a with
      | some (.inr (cj, _)) => if cj = ci then some (k, [.ref a], r) else none
      | _ => none
    | _, _ => none
  | 9 => match r, t with
    | .ref a :: r, ci :: _ => match h.2.2 a with
      | some (.inr (cj, _)) => if cj = ci then some (k, [.ref a], r) else none
      | _ => none
    | _, _ => none
  | _ => none
def cpV (f g : Nat → Value) (sp dp n : Nat) : Nat → Value := fun k => if dp ≤ k ∧ k < dp + n then f (sp + (k - dp)) else g k
/-- System.arraycopy between two arrays of one type -/
def acp (st : List Value) (h : AH) : Option (List Value × AH) := match st with
  | .int n :: .int dp :: .ref a :: .int sp :: .ref a0 :: r => match h.2.2 a0, h.2.2 a with
    | some (.inl (.long, n0, f)), some (.inl (.long, n1, g)) => if ¬ sp < 0 ∧ ¬ dp < 0 ∧ ¬ n < 0 ∧ sp.toNatClampNeg + n.toNatClampNeg ≤ n0 ∧ dp.toNatClampNeg + n.toNatClampNeg ≤ n1 then some (r, hput h a (.inl (.long, n1, cpV f g sp.toNatClampNeg dp.toNatClampNeg n.toNatClampNeg))) else none
    | some (.inl (.byte, n0, f)), some (.inl (.byte, n1, g)) => if ¬ sp < 0 ∧ ¬ dp < 0 ∧ ¬ n < 0 ∧ sp.toNatClampNeg + n.toNatClampNeg ≤ n0 ∧ dp.toNatClampNeg + n.toNatClampNeg ≤ n1 then some (r, hput h a (.inl (.byte, n1, cpV f g sp.toNatClampNeg dp.toNatClampNeg n.toNatClampNeg))) else none
    | _, _ => none
  | _ => none
def runF (sb sL : Nat) (sx : Nat → Int32) : Nat → Nat → MI → Nat → List (Option Value) → List Value → AH → Option (AH × RO)
  | 0, _, _, _, _, _, _ => none
  | n + 1, d, M, pc, lv, st, h => match fet (mE M) pc with
    | none => none
    | some (ins, nx, ri) =>
      let step := match stp sb sL sx (mL M) ins nx ri lv st h with
        | some z => runF sb sL sx n d M z.1 z.2.1 z.2.2.1 z.2.2.2
        | none => none
      let fin := match retV (mR M) ins st with
        | some v => some (h, (.inl v : RO))
        | none => none
      let call := match ri with
        | 10 :: _ => match st with
          | .ref _ :: r => if 1 ≤ d ∧ wsum r ≤ 8 then runF sb sL sx n d M nx lv r h else none
          | _ => none
        | 7 :: _ => match acp st h with
          | some z => if 2 ≤ d ∧ wsum z.1 ≤ 8 then runF sb sL sx n d M nx lv z.1 z.2 else none
          | none => none
        | 11 :: _ => match st with
          | .int y :: .int x :: r => if 1 ≤ d ∧ wsum r ≤ 8 then runF sb sL sx n d M nx lv (.int (if x < y then y else x) :: r) h else none
          | _ => none
        | 12 :: _ => match st with
          | .int y :: .int x :: r => if 1 ≤ d ∧ wsum r ≤ 8 then runF sb sL sx n d M nx lv (.int (if y < x then y else x) :: r) h else none
          | _ => none
        | kd :: na :: k :: t => match d with
          | 0 => none
          | d' + 1 => match popN na st with
            | none => none
            | some z => match tgtM kd k t z.2 h with
              | none => none
              | some (k', rc, r) => match mt[k']? with
                | none => none
                | some M' => if ((rc ++ z.1).flatMap ent1).length ≤ mL M' ∧ wsum r ≤ 8 then (match runF sb sL sx n d' M' 0 (ent (mL M') (rc ++ z.1)) [] h with
                    | none => none
                    | some (h', .inl v) => runF sb sL sx n (d' + 1) M nx lv (v.toList ++ r) h'
                    | some (h', .inr E) => if kd = 9 then (match fh (mH M) pc E with
                      | none => none
                      | some hp => match fet (mE M) hp with
                        | some (.astore_n q, nx2, _) => if (q : Nat) < mL M then runF sb sL sx n (d' + 1) M nx2 ((lv1 lv q .null).set q none) [] h' else none
                        | some (.astore q, nx2, _) => if q < mL M then runF sb sL sx n (d' + 1) M nx2 ((lv1 lv q .null).set q none) [] h' else none
                        | _ => none) else none)
                  else none
        | _ => none
      match ins with
      | .ireturn => fin
      | .lreturn => fin
      | .areturn => fin
      | .return_ => fin
      | .invokevirtual _ => call
      | .invokespecial _ => call
      | .invokestatic _ => call
      | .new _ => match ri with
        | 50 :: E :: _ => if 5 < d ∧ wsum st ≤ 8 then some (hskip h 6, .inr E) else none
        | _ => step
      | _ => step
/-! what is checked of the calls -/
def cwd (M : MI) : Cond := match mH M with
  | [] => .code (mY M) (mB M) (mL M) (mR M)
  | hh => .codeWith (mY M) (mB M) (mL M) (mR M) hh
set_option maxRecDepth 20000 in
theorem cw_0 : lw_tbl[62]? = some (cwd mi_0) := rfl
set_option maxRecDepth 20000 in
theorem cw_1 : lw_tbl[70]? = some (cwd mi_1) := rfl
set_option maxRecDepth 20000 in
theorem cw_2 : lw_tbl[73]? = some (cwd mi_2) := rfl
set_option maxRecDepth 20000 in
theorem cw_3 : lw_tbl[93]? = some (cwd mi_3) := rfl
set_option maxRecDepth 20000 in
theorem cw_4 : lw_tbl[119]? = some (cwd mi_4) := rfl
set_option maxRecDepth 20000 in
theorem cw_5 : lw_tbl[132]? = some (cwd mi_5) := rfl
set_option maxRecDepth 20000 in
theorem cw_6 : lw_tbl[169]? = some (cwd mi_6) := rfl
set_option maxRecDepth 20000 in
theorem cw_7 : lw_tbl[173]? = some (cwd mi_7) := rfl
set_option maxRecDepth 20000 in
theorem cw_8 : lw_tbl[177]? = some (cwd mi_8) := rfl
set_option maxRecDepth 20000 in
theorem cw_9 : lw_tbl[224]? = some (cwd mi_9) := rfl
set_option maxRecDepth 20000 in
theorem cw_10 : lw_tbl[231]? = some (cwd mi_10) := rfl
set_option maxRecDepth 20000 in
theorem cw_11 : lw_tbl[235]? = some (cwd mi_11) := rfl
set_option maxRecDepth 20000 in
theorem cw_12 : lw_tbl[257]? = some (cwd mi_12) := rfl
set_option maxRecDepth 20000 in
theorem cw_13 : lw_tbl[262]? = some (cwd mi_13) := rfl
set_option maxRecDepth 20000 in
theorem cw_14 : lw_tbl[329]? = some (cwd mi_14) := rfl
set_option maxRecDepth 20000 in
theorem cw_15 : lw_tbl[335]? = some (cwd mi_15) := rfl
set_option maxRecDepth 20000 in
theorem cw_16 : lw_tbl[339]? = some (cwd mi_16) := rfl
set_option maxRecDepth 20000 in
theorem cw_17 : lw_tbl[343]? = some (cwd mi_17) := rfl
set_option maxRecDepth 20000 in
theorem cw_18 : lw_tbl[346]? = some (cwd mi_18) := rfl
set_option maxRecDepth 20000 in
theorem cw_19 : lw_tbl[349]? = some (cwd mi_19) := rfl
set_option maxRecDepth 20000 in
theorem cw_20 : lw_tbl[353]? = some (cwd mi_20) := rfl
set_option maxRecDepth 20000 in
theorem cw_21 : lw_tbl[372]? = some (cwd mi_21) := rfl
set_option maxRecDepth 20000 in
theorem cw_22 : lw_tbl[391]? = some (cwd mi_22) := rfl
set_option maxRecDepth 20000 in
theorem cw_23 : lw_tbl[395]? = some (cwd mi_23) := rfl
set_option maxRecDepth 20000 in
theorem cw_24 : lw_tbl[398]? = some (cwd mi_24) := rfl
set_option maxRecDepth 20000 in
theorem cw_25 : lw_tbl[402]? = some (cwd mi_25) := rfl
set_option maxRecDepth 20000 in
theorem cw_26 : lw_tbl[406]? = some (cwd mi_26) := rfl
set_option maxRecDepth 20000 in
theorem cw_27 : lw_tbl[410]? = some (cwd mi_27) := rfl
set_option maxRecDepth 20000 in
theorem cw_28 : lw_tbl[414]? = some (cwd mi_28) := rfl
set_option maxRecDepth 20000 in
theorem cw_29 : lw_tbl[418]? = some (cwd mi_29) := rfl
set_option maxRecDepth 20000 in
theorem cw_30 : lw_tbl[422]? = some (cwd mi_30) := rfl
set_option maxRecDepth 20000 in
theorem cw_31 : lw_tbl[426]? = some (cwd mi_31) := rfl
set_option maxRecDepth 20000 in
theorem cw_32 : lw_tbl[429]? = some (cwd mi_32) := rfl
set_option maxRecDepth 20000 in
theorem cw_33 : lw_tbl[434]? = some (cwd mi_33) := rfl
set_option maxRecDepth 20000 in
theorem cw_34 : lw_tbl[439]? = some (cwd mi_34) := rfl
set_option maxRecDepth 20000 in
theorem cw_35 : lw_tbl[443]? = some (cwd mi_35) := rfl
set_option maxRecDepth 20000 in
theorem cw_36 : lw_tbl[462]? = some (cwd mi_36) := rfl
set_option maxRecDepth 20000 in
theorem cw_37 : lw_tbl[466]? = some (cwd mi_37) := rfl
set_option maxRecDepth 20000 in
theorem cw_38 : lw_tbl[470]? = some (cwd mi_38) := rfl
set_option maxRecDepth 20000 in
theorem cw_39 : lw_tbl[473]? = some (cwd mi_39) := rfl
set_option maxRecDepth 20000 in
theorem cw_40 : lw_tbl[477]? = some (cwd mi_40) := rfl
set_option maxRecDepth 20000 in
theorem cw_41 : lw_tbl[481]? = some (cwd mi_41) := rfl
set_option maxRecDepth 20000 in
theorem cw_42 : lw_tbl[484]? = some (cwd mi_42) := rfl
set_option maxRecDepth 20000 in
theorem cw_43 : lw_tbl[488]? = some (cwd mi_43) := rfl
set_option maxRecDepth 20000 in
theorem cw_44 : lw_tbl[493]? = some (cwd mi_44) := rfl
set_option maxRecDepth 20000 in
theorem cw_45 : lw_tbl[496]? = some (cwd mi_45) := rfl
set_option maxRecDepth 20000 in
theorem cw_46 : lw_tbl[539]? = some (cwd mi_46) := rfl
set_option maxRecDepth 20000 in
theorem cw_47 : lw_tbl[543]? = some (cwd mi_47) := rfl
set_option maxRecDepth 20000 in
theorem cw_48 : lw_tbl[547]? = some (cwd mi_48) := rfl
set_option maxRecDepth 20000 in
theorem cw_49 : lw_tbl[551]? = some (cwd mi_49) := rfl
set_option maxRecDepth 20000 in
theorem cw_50 : lw_tbl[554]? = some (cwd mi_50) := rfl
set_option maxRecDepth 20000 in
theorem cw_51 : lw_tbl[558]? = some (cwd mi_51) := rfl
set_option maxRecDepth 20000 in
theorem cw_52 : lw_tbl[562]? = some (cwd mi_52) := rfl
set_option maxRecDepth 20000 in
theorem cw_53 : lw_tbl[567]? = some (cwd mi_53) := rfl
set_option maxRecDepth 20000 in
theorem cw_54 : lw_tbl[572]? = some (cwd mi_54) := rfl
set_option maxRecDepth 20000 in
theorem cw_55 : lw_tbl[576]? = some (cwd mi_55) := rfl
set_option maxRecDepth 20000 in
theorem cw_56 : lw_tbl[580]? = some (cwd mi_56) := rfl
set_option maxRecDepth 20000 in
theorem cw_57 : lw_tbl[584]? = some (cwd mi_57) := rfl
set_option maxRecDepth 20000 in
theorem cw_58 : lw_tbl[587]? = some (cwd mi_58) := rfl
set_option maxRecDepth 20000 in
theorem cw_59 : lw_tbl[603]? = some (cwd mi_59) := rfl
set_option maxRecDepth 20000 in
theorem cw_60 : lw_tbl[612]? = some (cwd mi_60) := rfl
set_option maxRecDepth 20000 in
theorem cw_61 : lw_tbl[617]? = some (cwd mi_61) := rfl
set_option maxRecDepth 20000 in
theorem cw_62 : lw_tbl[622]? = some (cwd mi_62) := rfl
set_option maxRecDepth 20000 in
theorem cw_63 : lw_tbl[630]? = some (cwd mi_63) := rfl
set_option maxRecDepth 20000 in
theorem cw_64 : lw_tbl[634]? = some (cwd mi_64) := rfl
set_option maxRecDepth 20000 in
theorem cw_65 : lw_tbl[638]? = some (cwd mi_65) := rfl
set_option maxRecDepth 20000 in
theorem cw_66 : lw_tbl[642]? = some (cwd mi_66) := rfl
set_option maxRecDepth 20000 in
theorem cw_67 : lw_tbl[646]? = some (cwd mi_67) := rfl
set_option maxRecDepth 20000 in
theorem cw_68 : lw_tbl[649]? = some (cwd mi_68) := rfl
set_option maxRecDepth 20000 in
theorem cw_69 : lw_tbl[653]? = some (cwd mi_69) := rfl
set_option maxRecDepth 20000 in
theorem cw_70 : lw_tbl[657]? = some (cwd mi_70) := rfl
set_option maxRecDepth 20000 in
theorem cw_71 : lw_tbl[661]? = some (cwd mi_71) := rfl
set_option maxRecDepth 20000 in
theorem cw_72 : lw_tbl[664]? = some (cwd mi_72) := rfl
set_option maxRecDepth 20000 in
theorem cw_73 : lw_tbl[668]? = some (cwd mi_73) := rfl
set_option maxRecDepth 20000 in
theorem cw_74 : lw_tbl[672]? = some (cwd mi_74) := rfl
set_option maxRecDepth 20000 in
theorem cw_75 : lw_tbl[676]? = some (cwd mi_75) := rfl
set_option maxRecDepth 20000 in
theorem cw_76 : lw_tbl[679]? = some (cwd mi_76) := rfl
set_option maxRecDepth 20000 in
theorem cw_77 : lw_tbl[683]? = some (cwd mi_77) := rfl
set_option maxRecDepth 20000 in
theorem cw_78 : lw_tbl[687]? = some (cwd mi_78) := rfl
set_option maxRecDepth 20000 in
theorem cw_79 : lw_tbl[692]? = some (cwd mi_79) := rfl
set_option maxRecDepth 20000 in
theorem cw_80 : lw_tbl[696]? = some (cwd mi_80) := rfl
set_option maxRecDepth 20000 in
theorem cw_81 : lw_tbl[701]? = some (cwd mi_81) := rfl
set_option maxRecDepth 20000 in
theorem cw_82 : lw_tbl[705]? = some (cwd mi_82) := rfl
set_option maxRecDepth 20000 in
theorem cw_83 : lw_tbl[710]? = some (cwd mi_83) := rfl
set_option maxRecDepth 20000 in
theorem cw_84 : lw_tbl[714]? = some (cwd mi_84) := rfl
set_option maxRecDepth 20000 in
theorem cw_85 : lw_tbl[718]? = some (cwd mi_85) := rfl
set_option maxRecDepth 20000 in
theorem cw_86 : lw_tbl[724]? = some (cwd mi_86) := rfl
set_option maxRecDepth 20000 in
theorem cw_87 : lw_tbl[728]? = some (cwd mi_87) := rfl
set_option maxRecDepth 20000 in
theorem cw_88 : lw_tbl[732]? = some (cwd mi_88) := rfl
set_option maxRecDepth 20000 in
theorem cw_89 : lw_tbl[737]? = some (cwd mi_89) := rfl
set_option maxRecDepth 20000 in
theorem cw_90 : lw_tbl[741]? = some (cwd mi_90) := rfl
set_option maxRecDepth 20000 in
theorem cw_91 : lw_tbl[744]? = some (cwd mi_91) := rfl
set_option maxRecDepth 20000 in
theorem cw_92 : lw_tbl[748]? = some (cwd mi_92) := rfl
set_option maxRecDepth 20000 in
theorem cw_93 : lw_tbl[752]? = some (cwd mi_93) := rfl
set_option maxRecDepth 20000 in
theorem cw_94 : lw_tbl[758]? = some (cwd mi_94) := rfl
set_option maxRecDepth 20000 in
theorem cw_95 : lw_tbl[761]? = some (cwd mi_95) := rfl
set_option maxRecDepth 20000 in
theorem cw_96 : lw_tbl[768]? = some (cwd mi_96) := rfl
set_option maxRecDepth 20000 in
theorem cw_97 : lw_tbl[771]? = some (cwd mi_97) := rfl
set_option maxRecDepth 20000 in
theorem cw_98 : lw_tbl[775]? = some (cwd mi_98) := rfl
set_option maxRecDepth 20000 in
theorem cw_99 : lw_tbl[779]? = some (cwd mi_99) := rfl
set_option maxRecDepth 20000 in
theorem cw_100 : lw_tbl[785]? = some (cwd mi_100) := rfl
set_option maxRecDepth 20000 in
theorem cw_101 : lw_tbl[789]? = some (cwd mi_101) := rfl
set_option maxRecDepth 20000 in
theorem cw_102 : lw_tbl[792]? = some (cwd mi_102) := rfl
set_option maxRecDepth 20000 in
theorem cw_103 : lw_tbl[797]? = some (cwd mi_103) := rfl
set_option maxRecDepth 20000 in
theorem cw_104 : lw_tbl[801]? = some (cwd mi_104) := rfl
set_option maxRecDepth 20000 in
theorem cw_105 : lw_tbl[807]? = some (cwd mi_105) := rfl
set_option maxRecDepth 20000 in
theorem cw_106 : lw_tbl[811]? = some (cwd mi_106) := rfl
set_option maxRecDepth 20000 in
theorem cw_107 : lw_tbl[816]? = some (cwd mi_107) := rfl
set_option maxRecDepth 20000 in
theorem cw_108 : lw_tbl[820]? = some (cwd mi_108) := rfl
set_option maxRecDepth 20000 in
theorem cw_109 : lw_tbl[824]? = some (cwd mi_109) := rfl
set_option maxRecDepth 20000 in
theorem cw_110 : lw_tbl[829]? = some (cwd mi_110) := rfl
set_option maxRecDepth 20000 in
theorem cw_111 : lw_tbl[842]? = some (cwd mi_111) := rfl
set_option maxRecDepth 20000 in
theorem cw_112 : lw_tbl[846]? = some (cwd mi_112) := rfl
set_option maxRecDepth 20000 in
theorem cw_113 : lw_tbl[995]? = some (cwd mi_113) := rfl
set_option maxRecDepth 20000 in
theorem cw_114 : lw_tbl[1000]? = some (cwd mi_114) := rfl
set_option maxRecDepth 20000 in
theorem cw_115 : lw_tbl[1004]? = some (cwd mi_115) := rfl
set_option maxRecDepth 20000 in
theorem cw_116 : lw_tbl[1008]? = some (cwd mi_116) := rfl
set_option maxRecDepth 20000 in
theorem cw_117 : lw_tbl[1012]? = some (cwd mi_117) := rfl
set_option maxRecDepth 20000 in
theorem cw_118 : lw_tbl[1017]? = some (cwd mi_118) := rfl
set_option maxRecDepth 20000 in
theorem cw_119 : lw_tbl[1021]? = some (cwd mi_119) := rfl
set_option maxRecDepth 20000 in
theorem cw_120 : lw_tbl[1025]? = some (cwd mi_120) := rfl
set_option maxRecDepth 20000 in
theorem cw_121 : lw_tbl[1029]? = some (cwd mi_121) := rfl
set_option maxRecDepth 20000 in
theorem cw_122 : lw_tbl[1033]? = some (cwd mi_122) := rfl
set_option maxRecDepth 20000 in
theorem cw_123 : lw_tbl[1037]? = some (cwd mi_123) := rfl
set_option maxRecDepth 20000 in
theorem cw_124 : lw_tbl[1040]? = some (cwd mi_124) := rfl
set_option maxRecDepth 20000 in
theorem cw_125 : lw_tbl[1043]? = some (cwd mi_125) := rfl
set_option maxRecDepth 20000 in
theorem cw_126 : lw_tbl[1047]? = some (cwd mi_126) := rfl
set_option maxRecDepth 20000 in
theorem cw_127 : lw_tbl[1051]? = some (cwd mi_127) := rfl
set_option maxRecDepth 20000 in
theorem cw_128 : lw_tbl[1055]? = some (cwd mi_128) := rfl
set_option maxRecDepth 20000 in
theorem cw_129 : lw_tbl[1059]? = some (cwd mi_129) := rfl
set_option maxRecDepth 20000 in
theorem cw_130 : lw_tbl[1063]? = some (cwd mi_130) := rfl
set_option maxRecDepth 20000 in
theorem cw_131 : lw_tbl[1067]? = some (cwd mi_131) := rfl
set_option maxRecDepth 20000 in
theorem cw_132 : lw_tbl[1071]? = some (cwd mi_132) := rfl
set_option maxRecDepth 20000 in
theorem cw_133 : lw_tbl[1075]? = some (cwd mi_133) := rfl
set_option maxRecDepth 20000 in
theorem cw_134 : lw_tbl[1079]? = some (cwd mi_134) := rfl
set_option maxRecDepth 20000 in
theorem cw_135 : lw_tbl[1084]? = some (cwd mi_135) := rfl
set_option maxRecDepth 20000 in
theorem cw_136 : lw_tbl[1088]? = some (cwd mi_136) := rfl
set_option maxRecDepth 20000 in
theorem cw_137 : lw_tbl[1092]? = some (cwd mi_137) := rfl
set_option maxRecDepth 20000 in
theorem cw_138 : lw_tbl[1096]? = some (cwd mi_138) := rfl
set_option maxRecDepth 20000 in
theorem cw_139 : lw_tbl[1100]? = some (cwd mi_139) := rfl
set_option maxRecDepth 20000 in
theorem cw_140 : lw_tbl[1104]? = some (cwd mi_140) := rfl
set_option maxRecDepth 20000 in
theorem cw_141 : lw_tbl[1108]? = some (cwd mi_141) := rfl
set_option maxRecDepth 20000 in
theorem cw_142 : lw_tbl[1112]? = some (cwd mi_142) := rfl
set_option maxRecDepth 20000 in
theorem cw_143 : lw_tbl[1116]? = some (cwd mi_143) := rfl
set_option maxRecDepth 20000 in
theorem cw_144 : lw_tbl[1120]? = some (cwd mi_144) := rfl
theorem cw_all : ∀ M ∈ mt, cwd M ∈ lw_tbl := by
  unfold mt
  refine List.forall_mem_cons.mpr ⟨List.mem_of_getElem? cw_0, ?_⟩
  refine List.forall_mem_cons.mpr ⟨List.mem_of_getElem? cw_1, ?_⟩
  refine List.forall_mem_cons.mpr ⟨List.mem_of_getElem? cw_2, ?_⟩
  refine List.forall_mem_cons.mpr ⟨List.mem_of_getElem? cw_3, ?_⟩
  refine List.forall_mem_cons.mpr ⟨List.mem_of_getElem? cw_4, ?_⟩
  refine List.forall_mem_cons.mpr ⟨List.mem_of_getElem? cw_5, ?_⟩
  refine List.forall_mem_cons.mpr ⟨List.mem_of_getElem? cw_6, ?_⟩
  refine List.forall_mem_cons.mpr ⟨List.mem_of_getElem? cw_7, ?_⟩
  refine List.forall_mem_cons.mpr ⟨List.mem_of_getElem? cw_8, ?_⟩
  refine List.forall_mem_cons.mpr ⟨List.mem_of_getElem? cw_9, ?_⟩
  refine List.forall_mem_cons.mpr ⟨List.mem_of_getElem? cw_10, ?_⟩
  refine List.forall_mem_cons.mpr ⟨List.mem_of_getElem? cw_11, ?_⟩
  refine List.forall_mem_cons.mpr ⟨List.mem_of_getElem? cw_12, ?_⟩
  refine List.forall_mem_cons.mpr ⟨List.mem_of_getElem? cw_13, ?_⟩
  refine List.forall_mem_cons.mpr ⟨List.mem_of_getElem? cw_14, ?_⟩
  refine List.forall_mem_cons.mpr ⟨List.mem_of_getElem? cw_15, ?_⟩
  refine List.forall_mem_cons.mpr ⟨List.mem_of_getElem? cw_16, ?_⟩
  refine List.forall_mem_cons.mpr ⟨List.mem_of_getElem? cw_17, ?_⟩
  refine List.forall_mem_cons.mpr ⟨List.mem_of_getElem? cw_18, ?_⟩
  refine List.forall_mem_cons.mpr ⟨List.mem_of_getElem? cw_19, ?_⟩
  refine List.forall_mem_cons.mpr ⟨List.mem_of_getElem? cw_20, ?_⟩
  refine List.forall_mem_cons.mpr ⟨List.mem_of_getElem? cw_21, ?_⟩
  refine List.forall_mem_cons.mpr ⟨List.mem_of_getElem? cw_22, ?_⟩
  refine List.forall_mem_cons.mpr ⟨List.mem_of_getElem? cw_23, ?_⟩
  refine List.forall_mem_cons.mpr ⟨List.mem_of_getElem? cw_24, ?_⟩
  refine List.forall_mem_cons.mpr ⟨List.mem_of_getElem? cw_25, ?_⟩
  refine List.forall_mem_cons.mpr ⟨List.mem_of_getElem? cw_26, ?_⟩
  refine List.forall_mem_cons.mpr ⟨List.mem_of_getElem? cw_27, ?_⟩
  refine List.forall_mem_cons.mpr ⟨List.mem_of_getElem? cw_28, ?_⟩
  refine List.forall_mem_cons.mpr ⟨List.mem_of_getElem? cw_29, ?_⟩
  refine List.forall_mem_cons.mpr ⟨List.mem_of_getElem? cw_30, ?_⟩
  refine List.forall_mem_cons.mpr ⟨List.mem_of_getElem? cw_31, ?_⟩
  refine List.forall_mem_cons.mpr ⟨List.mem_of_getElem? cw_32, ?_⟩
  refine List.forall_mem_cons.mpr ⟨List.mem_of_getElem? cw_33, ?_⟩
  refine List.forall_mem_cons.mpr ⟨List.mem_of_getElem? cw_34, ?_⟩
  refine List.forall_mem_cons.mpr ⟨List.mem_of_getElem? cw_35, ?_⟩
  refine List.forall_mem_cons.mpr ⟨List.mem_of_getElem? cw_36, ?_⟩
  refine List.forall_mem_cons.mpr ⟨List.mem_of_getElem? cw_37, ?_⟩
  refine List.forall_mem_cons.mpr ⟨List.mem_of_getElem? cw_38, ?_⟩
  refine List.forall_mem_cons.mpr ⟨List.mem_of_getElem? cw_39, ?_⟩
  refine List.forall_mem_cons.mpr ⟨List.mem_of_getElem? cw_40, ?_⟩
  refine List.forall_mem_cons.mpr ⟨List.mem_of_getElem? cw_41, ?_⟩
  refine List.forall_mem_cons.mpr ⟨List.mem_of_getElem? cw_42, ?_⟩
  refine List.forall_mem_cons.mpr ⟨List.mem_of_getElem? cw_43, ?_⟩
  refine List.forall_mem_cons.mpr ⟨List.mem_of_getElem? cw_44, ?_⟩
  refine List.forall_mem_cons.mpr ⟨List.mem_of_getElem? cw_45, ?_⟩
  refine List.forall_mem_cons.mpr ⟨List.mem_of_getElem? cw_46, ?_⟩
  refine List.forall_mem_cons.mpr ⟨List.mem_of_getElem? cw_47, ?_⟩
  refine List.forall_mem_cons.mpr ⟨List.mem_of_getElem? cw_48, ?_⟩
  refine List.forall_mem_cons.mpr ⟨List.mem_of_getElem? cw_49, ?_⟩
  refine List.forall_mem_cons.mpr ⟨List.mem_of_getElem? cw_50, ?_⟩
  refine List.forall_mem_cons.mpr ⟨List.mem_of_getElem? cw_51, ?_⟩
  refine List.forall_mem_cons.mpr ⟨List.mem_of_getElem? cw_52, ?_⟩
  refine List.forall_mem_cons.mpr ⟨List.mem_of_getElem? cw_53, ?_⟩
  refine List.forall_mem_cons.mpr ⟨List.mem_of_getElem? cw_54, ?_⟩
  refine List.forall_mem_cons.mpr ⟨List.mem_of_getElem? cw_55, ?_⟩
  refine List.forall_mem_cons.mpr ⟨List.mem_of_getElem? cw_56, ?_⟩
  refine List.forall_mem_cons.mpr ⟨List.mem_of_getElem? cw_57, ?_⟩
  refine List.forall_mem_cons.mpr ⟨List.mem_of_getElem? cw_58, ?_⟩
  refine List.forall_mem_cons.mpr ⟨List.mem_of_getElem? cw_59, ?_⟩
  refine List.forall_mem_cons.mpr ⟨List.mem_of_getElem? cw_60, ?_⟩
  refine List.forall_mem_cons.mpr ⟨List.mem_of_getElem? cw_61, ?_⟩
  refine List.forall_mem_cons.mpr ⟨List.mem_of_getElem? cw_62, ?_⟩
  refine List.forall_mem_cons.mpr ⟨List.mem_of_getElem? cw_63, ?_⟩
  refine List.forall_mem_cons.mpr ⟨List.mem_of_getElem? cw_64, ?_⟩
  refine List.forall_mem_cons.mpr ⟨List.mem_of_getElem? cw_65, ?_⟩
  refine List.forall_mem_cons.mpr ⟨List.mem_of_getElem? cw_66, ?_⟩
  refine List.forall_mem_cons.mpr ⟨List.mem_of_getElem? cw_67, ?_⟩
  refine List.forall_mem_cons.mpr ⟨List.mem_of_getElem? cw_68, ?_⟩
  refine List.forall_mem_cons.mpr ⟨List.mem_of_getElem? cw_69, ?_⟩
  refine List.forall_mem_cons.mpr ⟨List.mem_of_getElem? cw_70, ?_⟩
  refine List.forall_mem_cons.mpr ⟨List.mem_of_getElem? cw_71, ?_⟩
  refine List.forall_mem_cons.mpr ⟨List.mem_of_getElem? cw_72, ?_⟩
  refine List.forall_mem_cons.mpr ⟨List.mem_of_getElem? cw_73, ?_⟩
  refine List.forall_mem_cons.mpr ⟨List.mem_of_getElem? cw_74, ?_⟩
  refine List.forall_mem_cons.mpr ⟨List.mem_of_getElem? cw_75, ?_⟩
  refine List.forall_mem_cons.mpr ⟨List.mem_of_getElem? cw_76, ?_⟩
  refine List.forall_mem_cons.mpr ⟨List.mem_of_getElem? cw_77, ?_⟩
  refine List.forall_mem_cons.mpr ⟨List.mem_of_getElem? cw_78, ?_⟩
  refine List.forall_mem_cons.mpr ⟨List.mem_of_getElem? cw_79, ?_⟩
  refine List.forall_mem_cons.mpr ⟨List.mem_of_getElem? cw_80, ?_⟩
  refine List.forall_mem_cons.mpr ⟨List.mem_of_getElem? cw_81, ?_⟩
  refine List.forall_mem_cons.mpr ⟨List.mem_of_getElem? cw_82, ?_⟩
  refine List.forall_mem_cons.mpr ⟨List.mem_of_getElem? cw_83, ?_⟩
  refine List.forall_mem_cons.mpr ⟨List.mem_of_getElem? cw_84, ?_⟩
  refine List.forall_mem_cons.mpr ⟨List.mem_of_getElem? cw_85, ?_⟩
  refine List.forall_mem_cons.mpr ⟨List.mem_of_getElem? cw_86, ?_⟩
  refine List.forall_mem_cons.mpr ⟨List.mem_of_getElem? cw_87, ?_⟩
  refine List.forall_mem_cons.mpr ⟨List.mem_of_getElem? cw_88, ?_⟩
  refine List.forall_mem_cons.mpr ⟨List.mem_of_getElem? cw_89, ?_⟩
  refine List.forall_mem_cons.mpr ⟨List.mem_of_getElem? cw_90, ?_⟩
  refine List.forall_mem_cons.mpr ⟨List.mem_of_getElem? cw_91, ?_⟩
  refine List.forall_mem_cons.mpr ⟨List.mem_of_getElem? cw_92, ?_⟩
  refine List.forall_mem_cons.mpr ⟨List.mem_of_getElem? cw_93, ?_⟩
  refine List.forall_mem_cons.mpr ⟨List.mem_of_getElem? cw_94, ?_⟩
  refine List.forall_mem_cons.mpr ⟨List.mem_of_getElem? cw_95, ?_⟩
  refine List.forall_mem_cons.mpr ⟨List.mem_of_getElem? cw_96, ?_⟩
  refine List.forall_mem_cons.mpr ⟨List.mem_of_getElem? cw_97, ?_⟩
  refine List.forall_mem_cons.mpr ⟨List.mem_of_getElem? cw_98, ?_⟩
  refine List.forall_mem_cons.mpr ⟨List.mem_of_getElem? cw_99, ?_⟩
  refine List.forall_mem_cons.mpr ⟨List.mem_of_getElem? cw_100, ?_⟩
  refine List.forall_mem_cons.mpr ⟨List.mem_of_getElem? cw_101, ?_⟩
  refine List.forall_mem_cons.mpr ⟨List.mem_of_getElem? cw_102, ?_⟩
  refine List.forall_mem_cons.mpr ⟨List.mem_of_getElem? cw_103, ?_⟩
  refine List.forall_mem_cons.mpr ⟨List.mem_of_getElem? cw_104, ?_⟩
  refine List.forall_mem_cons.mpr ⟨List.mem_of_getElem? cw_105, ?_⟩
  refine List.forall_mem_cons.mpr ⟨List.mem_of_getElem? cw_106, ?_⟩
  refine List.forall_mem_cons.mpr ⟨List.mem_of_getElem? cw_107, ?_⟩
  refine List.forall_mem_cons.mpr ⟨List.mem_of_getElem? cw_108, ?_⟩
  refine List.forall_mem_cons.mpr ⟨List.mem_of_getElem? cw_109, ?_⟩
  refine List.forall_mem_cons.mpr ⟨List.mem_of_getElem? cw_110, ?_⟩
  refine List.forall_mem_cons.mpr ⟨List.mem_of_getElem? cw_111, ?_⟩
  refine List.forall_mem_cons.mpr ⟨List.mem_of_getElem? cw_112, ?_⟩
  refine List.forall_mem_cons.mpr ⟨List.mem_of_getElem? cw_113, ?_⟩
  refine List.forall_mem_cons.mpr ⟨List.mem_of_getElem? cw_114, ?_⟩
  refine List.forall_mem_cons.mpr ⟨List.mem_of_getElem? cw_115, ?_⟩
  refine List.forall_mem_cons.mpr ⟨List.mem_of_getElem? cw_116, ?_⟩
  refine List.forall_mem_cons.mpr ⟨List.mem_of_getElem? cw_117, ?_⟩
  refine List.forall_mem_cons.mpr ⟨List.mem_of_getElem? cw_118, ?_⟩
  refine List.forall_mem_cons.mpr ⟨List.mem_of_getElem? cw_119, ?_⟩
  refine List.forall_mem_cons.mpr ⟨List.mem_of_getElem? cw_120, ?_⟩
  refine List.forall_mem_cons.mpr ⟨List.mem_of_getElem? cw_121, ?_⟩
  refine List.forall_mem_cons.mpr ⟨List.mem_of_getElem? cw_122, ?_⟩
  refine List.forall_mem_cons.mpr ⟨List.mem_of_getElem? cw_123, ?_⟩
  refine List.forall_mem_cons.mpr ⟨List.mem_of_getElem? cw_124, ?_⟩
  refine List.forall_mem_cons.mpr ⟨List.mem_of_getElem? cw_125, ?_⟩
  refine List.forall_mem_cons.mpr ⟨List.mem_of_getElem? cw_126, ?_⟩
  refine List.forall_mem_cons.mpr ⟨List.mem_of_getElem? cw_127, ?_⟩
  refine List.forall_mem_cons.mpr ⟨List.mem_of_getElem? cw_128, ?_⟩
  refine List.forall_mem_cons.mpr ⟨List.mem_of_getElem? cw_129, ?_⟩
  refine List.forall_mem_cons.mpr ⟨List.mem_of_getElem? cw_130, ?_⟩
  refine List.forall_mem_cons.mpr ⟨List.mem_of_getElem? cw_131, ?_⟩
  refine List.forall_mem_cons.mpr ⟨List.mem_of_getElem? cw_132, ?_⟩
  refine List.forall_mem_cons.mpr ⟨List.mem_of_getElem? cw_133, ?_⟩
  refine List.forall_mem_cons.mpr ⟨List.mem_of_getElem? cw_134, ?_⟩
  refine List.forall_mem_cons.mpr ⟨List.mem_of_getElem? cw_135, ?_⟩
  refine List.forall_mem_cons.mpr ⟨List.mem_of_getElem? cw_136, ?_⟩
  refine List.forall_mem_cons.mpr ⟨List.mem_of_getElem? cw_137, ?_⟩
  refine List.forall_mem_cons.mpr ⟨List.mem_of_getElem? cw_138, ?_⟩
  refine List.forall_mem_cons.mpr ⟨List.mem_of_getElem? cw_139, ?_⟩
  refine List.forall_mem_cons.mpr ⟨List.mem_of_getElem? cw_140, ?_⟩
  refine List.forall_mem_cons.mpr ⟨List.mem_of_getElem? cw_141, ?_⟩
  refine List.forall_mem_cons.mpr ⟨List.mem_of_getElem? cw_142, ?_⟩
  refine List.forall_mem_cons.mpr ⟨List.mem_of_getElem? cw_143, ?_⟩
  refine List.forall_mem_cons.mpr ⟨List.mem_of_getElem? cw_144, ?_⟩
  exact fun _ h => absurd h List.not_mem_nil
theorem mL_all : ∀ M ∈ mt, mL M ≤ 9 := by decide +kernel
def yok (y : MethodName) (na : Nat) : Bool := decide (y.cls ≠ "java/lang/invoke/MethodHandle") && decide (y.cls ≠ "java/lang/invoke/VarHandle") && decide ((parseMethodDescriptor y.desc).map (fun d => d.parameters.length) = some na) && plainName y.cls
def wis (i : Nat) (w : Cond) : Bool := decide (lw_tbl[i]? = some w)
def cokS (own : String) (idx : Nat) (nest : Bool) (hx : Bool) (na k w1 w2 w3 : Nat) : Bool := (mt[k]?).any fun M => yok (mY M) na && (bif nest then wis w1 (.methodLinkNest own idx (mY M) "TapeVault") else wis w1 (.methodLink own idx (mY M))) && wis w2 (.static (mY M)) && wis w3 (.initialized (mY M).cls) && (mH M).isEmpty == !hx
def cokI (own : String) (idx : Nat) (nest : Bool) (na k w1 w2 w3 : Nat) : Bool := (mt[k]?).any fun M => yok (mY M) na && (bif nest then wis w1 (.methodLinkNest own idx (mY M) "TapeVault") else wis w1 (.methodLink own idx (mY M))) && wis w2 (.instanceMethod (mY M)) && wis w3 (.initialized (mY M).cls) && (mH M).isEmpty && decide ((mY M).name = "<init>") && decide (mR M = none)
def cokV (own : String) (idx na k ci w1 w2 w3 w4 : Nat) : Bool := (mt[k]?).any fun M => yok (mY M) na && wis w1 (.methodLink own idx (mY M)) && wis w2 (.instanceMethod (mY M)) && wis w3 (.selects (mY M).cls (mY M) (mY M)) && wis w4 (.initialized (mY M).cls) && (mH M).isEmpty && (vcl[ci]?).any fun q => decide (q.1 = (mY M).cls)
/-- one side of an abstract method's call -/
def cokA (own : String) (idx na k ci w1 w2 w3 s1 s2 s3 : Nat) : Bool := (mt[k]?).any fun M => yok (mY M) na && wis w1 (.methodLink own idx ⟨"TapeVault$View", (mY M).name, (mY M).desc⟩) && wis w2 (.sameMethod "TapeVault$View" "TapeVault$View" (mY M).name (mY M).desc) && wis w3 (.declares ⟨"TapeVault$View", (mY M).name, (mY M).desc⟩) && wis s1 (.selects (mY M).cls ⟨"TapeVault$View", (mY M).name, (mY M).desc⟩ (mY M)) && wis s2 (.instanceMethod (mY M)) && wis s3 (.initialized (mY M).cls) && (mH M).isEmpty && (vcl[ci]?).any fun q => decide (q.1 = (mY M).cls)
def thl : List (Nat × Nat) := [(53, 0), (69, 1), (76, 2), (109, 3)]
def xnames : List String := ["java/lang/RuntimeException", "java/lang/Exception"]
theorem thl_ok : thl.all (fun q => match exn[q.2]? with
  | some cls => (vx_at0 "TapeVault" q.1 cls xnames).all (fun w => decide (w ∈ lw_tbl) && wk w && vx_ot w) && Bundle.fit cls && decide (Cond.initialized cls ∈ lw_tbl)
  | none => false) = true := by decide +kernel
def cok (own : String) (cc : ByteArray) (e : EN) : Bool := match e.2.1, e.2.2.2 with
  | .invokestatic idx, [0, na, k, w1, w2, w3, _] => cokS own idx false false na k w1 w2 w3
  | .invokestatic idx, [1, na, k, w1, w2, w3, _] => cokS own idx true false na k w1 w2 w3
  | .invokestatic idx, [8, na, k, w1, w2, w3, _] => cokS own idx false true na k w1 w2 w3
  | .invokestatic idx, [7, w1] => wis w1 (.methodLink own idx arraycopyName)
  | .invokestatic idx, [11, w1, w2, w3, w4] => wis w1 (.methodLink own idx Lib.Math.max.name) && wis w2 (.static Lib.Math.max.name) && wis w3 (.initialized "java/lang/Math") && wis w4 (.code Lib.Math.max.name Lib.Math.max.code 2 (some .int))
  | .invokestatic idx, [12, w1, w2, w3, w4] => wis w1 (.methodLink own idx Lib.Math.min.name) && wis w2 (.static Lib.Math.min.name) && wis w3 (.initialized "java/lang/Math") && wis w4 (.code Lib.Math.min.name Lib.Math.min.code 2 (some .int))
  | .invokespecial idx, [4, na, k, w1, w2, w3, _] => cokI own idx false na k w1 w2 w3
  | .invokespecial idx, [5, na, k, w1, w2, w3, _] => cokI own idx true na k w1 w2 w3
  | .invokespecial idx, [10, w1, w2, w3] => wis w1 (.methodLink own idx objectInit) && wis w2 (.instanceMethod objectInit) && wis w3 (.code objectInit ⟨#[0xb1]⟩ 1 none)
  | .invokevirtual idx, [2, na, k, ci, w1, w2, w3, w4, _] => cokV own idx na k ci w1 w2 w3 w4
  | .invokevirtual idx, [9, na, k, ci, w1, w2, w3, w4, _] => cokV own idx na k ci w1 w2 w3 w4
  | .invokevirtual idx, [6, na, k, k2, w1, w2, w3, s1, s2, s3, _, t1, t2, t3, _] => cokA own idx na k 1 w1 w2 w3 s1 s2 s3 && cokA own idx na k2 4 w1 w2 w3 t1 t2 t3
  | .new ik, [50, E, ic, w] => decide (decode cc (e.1 + 3) = .ok (.dup, 1)) && decide (decode cc (e.1 + 4) = .ok (.invokespecial ic, 3)) && decide (decode cc (e.1 + 7) = .ok (.athrow, 1)) && decide ((ic, E) ∈ thl) && decide (own = "TapeVault") && (exn[E]?).any fun cls => wis w (.classLink own ik cls)
  | .invokestatic _, _ => false
  | .invokespecial _, _ => false
  | .invokevirtual _, _ => false
  | _, _ => true
/-- an entry is right: as a step, or as a throw -/
def eokx (M : MI) (e : EN) : Bool := match e.2.1, e.2.2.2 with
  | .new ik, 50 :: _ => decide (decode (mB M) e.1 = .ok (.new ik, 3)) && cok (mY M).cls (mB M) e
  | .multianewarray .., _ => true
  | _, _ => eok (mY M).cls (mB M) (decide ((mY M).name = "<init>")) e && cok (mY M).cls (mB M) e
def mokb (M : MI) : Bool := (mE M).all (eokx M)
