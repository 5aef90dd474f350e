/-! a step never takes cells or slots back -/
def Mo (h : AH) (o : Option SR) : Prop := ∀ z : SR, o = some z → h.1 ≤ z.2.2.2.1 ∧ h.2.1 ≤ z.2.2.2.2.1
theorem Mo_none {h : AH} : Mo h none := fun _ q => nomatch q
theorem Mo_keep {h : AH} {pc : Nat} {lv : List (Option Value)} {st : List Value} : Mo h (some (pc, lv, st, h)) := fun _ q => by cases q; exact ⟨Nat.le_refl _, Nat.le_refl _⟩
theorem Mo_put {h : AH} {pc : Nat} {lv : List (Option Value)} {st : List Value} {a : Nat} {o : AO} : Mo h (some (pc, lv, st, hput h a o)) := fun _ q => by cases q; exact ⟨Nat.le_refl _, Nat.le_refl _⟩
theorem Mo_new {h : AH} {pc : Nat} {lv : List (Option Value)} {st : List Value} {o : AO} {k : Nat} : Mo h (some (pc, lv, st, hnew h o k)) := fun _ q => by cases q; exact ⟨Nat.le_add_right _ _, Nat.le_add_right _ _⟩
theorem Mo_pI {h : AH} {st : List Value} {f : Int32 → List Value → Option SR} (k : ∀ x r, Mo h (f x r)) : Mo h (pI st f) := fun _ q => by obtain ⟨x, r, -, e⟩ := pI_inv q; exact k x r _ e
theorem Mo_pJ {h : AH} {st : List Value} {f : Int64 → List Value → Option SR} (k : ∀ x r, Mo h (f x r)) : Mo h (pJ st f) := fun _ q => by obtain ⟨x, r, -, e⟩ := pJ_inv q; exact k x r _ e
theorem Mo_pR {h : AH} {st : List Value} {f : Nat → List Value → Option SR} (k : ∀ x r, Mo h (f x r)) : Mo h (pR st f) := fun _ q => by obtain ⟨x, r, -, e⟩ := pR_inv q; exact k x r _ e
theorem Mo_pQ {h : AH} {st : List Value} {f : Option Nat → List Value → Option SR} (k : ∀ x r, Mo h (f x r)) : Mo h (pQ st f) := fun _ q => by obtain ⟨x, r, -, e⟩ := pQ_inv q; exact k x r _ e
theorem Mo_p1 {h : AH} {st : List Value} {f : Value → List Value → Option SR} (k : ∀ x r, Mo h (f x r)) : Mo h (p1 st f) := fun _ q => by obtain ⟨x, r, -, -, e⟩ := p1_inv q; exact k x r _ e
theorem Mo_gI {h : AH} {lv : List (Option Value)} {i : Nat} {f : Int32 → Option SR} (k : ∀ x, Mo h (f x)) : Mo h (gI lv i f) := fun _ q => by obtain ⟨x, -, e⟩ := gI_inv q; exact k x _ e
theorem Mo_gJ {h : AH} {lv : List (Option Value)} {i : Nat} {f : Int64 → Option SR} (k : ∀ x, Mo h (f x)) : Mo h (gJ lv i f) := fun _ q => by obtain ⟨x, -, e⟩ := gJ_inv q; exact k x _ e
theorem Mo_gQ {h : AH} {lv : List (Option Value)} {i : Nat} {f : Option Nat → Option SR} (k : ∀ x, Mo h (f x)) : Mo h (gQ lv i f) := fun _ q => by obtain ⟨x, -, e⟩ := gQ_inv q; exact k x _ e
theorem Mo_bI {h : AH} {i : Int32} {n : Nat} {z : Option SR} (k : Mo h z) : Mo h (bI i n z) := fun _ q => k _ (bI_inv q).2
theorem Mo_if {h : AH} {c : Prop} [Decidable c] {z : Option SR} (k : Mo h z) : Mo h (iff' c z) := fun _ q => k _ (iff'_inv q).2
theorem Mo_ite {h : AH} {c : Prop} [Decidable c] {z y : Option SR} (k : Mo h z) (k2 : Mo h y) : Mo h (if c then z else y) := by split <;> assumption
theorem Mo_aI {h h' : AH} {a : Nat} {f : FieldType → Nat → (Nat → Value) → Option SR} (k : ∀ x y z, Mo h (f x y z)) : Mo h (aI h' a f) := fun _ q => by obtain ⟨x, y, z, -, e⟩ := aI_inv q; exact k x y z _ e
theorem Mo_oI {h h' : AH} {a : Nat} {f : Nat → List Value → Option SR} (k : ∀ x y, Mo h (f x y)) : Mo h (oI h' a f) := fun _ q => by obtain ⟨x, y, -, e⟩ := oI_inv q; exact k x y _ e
theorem Mo_n1 {h : AH} {ri : List Nat} {f : Nat → Option SR} (k : ∀ x, Mo h (f x)) : Mo h (nI1 ri f) := by
  unfold nI1
  split
  · exact k _
  · exact Mo_none
theorem Mo_n3 {h : AH} {ri : List Nat} {f : Nat → Nat → Option SR} (k : ∀ x y, Mo h (f x y)) : Mo h (nI3 ri f) := by
  unfold nI3
  split
  · exact k _ _
  · exact Mo_none
theorem Mo_bd {h : AH} {α : Type} {o : Option α} {f : α → Option SR} (k : ∀ v, Mo h (f v)) : Mo h (o.bind f) := by
  cases o with
  | none => exact Mo_none
  | some v => exact k v
theorem stp_mono0 {sb sL : Nat} {sx : Nat → Int32} {nL : Nat} (ins : Instr) {nx : Nat} {ri : List Nat} {lv : List (Option Value)} {st : List Value} {h : AH} : Mo h (stp sb sL sx nL ins nx ri lv st h) := by
  cases ins with
  | ldc i => dsimp only [stp]; exact Mo_n1 fun r => by split; exact Mo_keep; exact Mo_none
  | ldc2_w i => dsimp only [stp]; exact Mo_n1 fun r => by split; exact Mo_keep; exact Mo_none
  | iload_n i => dsimp only [stp]; exact Mo_gI fun _ => Mo_keep
  | iload i => dsimp only [stp]; exact Mo_gI fun _ => Mo_keep
  | lload_n i => dsimp only [stp]; exact Mo_gJ fun _ => Mo_keep
  | lload i => dsimp only [stp]; exact Mo_gJ fun _ => Mo_keep
  | aload_n i => dsimp only [stp]; exact Mo_gQ fun _ => Mo_keep
  | aload i => dsimp only [stp]; exact Mo_gQ fun _ => Mo_keep
  | istore_n i => dsimp only [stp]; exact Mo_pI fun _ _ => Mo_if Mo_keep
  | istore i => dsimp only [stp]; exact Mo_pI fun _ _ => Mo_if Mo_keep
  | lstore_n i => dsimp only [stp]; exact Mo_pJ fun _ _ => Mo_if Mo_keep
  | lstore i => dsimp only [stp]; exact Mo_pJ fun _ _ => Mo_if Mo_keep
  | astore_n i => dsimp only [stp]; exact Mo_pQ fun _ _ => Mo_if Mo_keep
  | astore i => dsimp only [stp]; exact Mo_pQ fun _ _ => Mo_if Mo_keep
  | iinc i n => dsimp only [stp]; exact Mo_gI fun _ => Mo_if Mo_keep
  | iadd => dsimp only [stp]; exact Mo_pI fun _ _ => Mo_pI fun _ _ => Mo_keep
  | isub => dsimp only [stp]; exact Mo_pI fun _ _ => Mo_pI fun _ _ => Mo_keep
  | imul => dsimp only [stp]; exact Mo_pI fun _ _ => Mo_pI fun _ _ => Mo_keep
  | iand => dsimp only [stp]; exact Mo_pI fun _ _ => Mo_pI fun _ _ => Mo_keep
  | ior => dsimp only [stp]; exact Mo_pI fun _ _ => Mo_pI fun _ _ => Mo_keep
  | idiv => dsimp only [stp]; exact Mo_pI fun _ _ => Mo_pI fun _ _ => Mo_if Mo_keep
  | irem => dsimp only [stp]; exact Mo_pI fun _ _ => Mo_pI fun _ _ => Mo_if Mo_keep
  | ishl => dsimp only [stp]; exact Mo_pI fun _ _ => Mo_pI fun _ _ => Mo_keep
  | ishr => dsimp only [stp]; exact Mo_pI fun _ _ => Mo_pI fun _ _ => Mo_keep
  | iushr => dsimp only [stp]; exact Mo_pI fun _ _ => Mo_pI fun _ _ => Mo_keep
  | ladd => dsimp only [stp]; exact Mo_pJ fun _ _ => Mo_pJ fun _ _ => Mo_keep
  | lsub => dsimp only [stp]; exact Mo_pJ fun _ _ => Mo_pJ fun _ _ => Mo_keep
  | lmul => dsimp only [stp]; exact Mo_pJ fun _ _ => Mo_pJ fun _ _ => Mo_keep
  | land => dsimp only [stp]; exact Mo_pJ fun _ _ => Mo_pJ fun _ _ => Mo_keep
  | lor => dsimp only [stp]; exact Mo_pJ fun _ _ => Mo_pJ fun _ _ => Mo_keep
  | lcmp => dsimp only [stp]; exact Mo_pJ fun _ _ => Mo_pJ fun _ _ => Mo_keep
  | lshl => dsimp only [stp]; exact Mo_pI fun _ _ => Mo_pJ fun _ _ => Mo_keep
  | lshr => dsimp only [stp]; exact Mo_pI fun _ _ => Mo_pJ fun _ _ => Mo_keep
  | lushr => dsimp only [stp]; exact Mo_pI fun _ _ => Mo_pJ fun _ _ => Mo_keep
  | i2l => dsimp only [stp]; exact Mo_pI fun _ _ => Mo_keep
  | l2i => dsimp only [stp]; exact Mo_pJ fun _ _ => Mo_keep
  | i2b => dsimp only [stp]; exact Mo_pI fun _ _ => Mo_keep
  | dup => dsimp only [stp]; exact Mo_p1 fun _ _ => Mo_keep
  | pop => dsimp only [stp]; exact Mo_p1 fun _ _ => Mo_keep
  | dup_x1 => dsimp only [stp]; exact Mo_p1 fun _ _ => Mo_p1 fun _ _ => Mo_keep
  | dup_x2 => dsimp only [stp]; exact Mo_p1 fun _ _ => Mo_p1 fun _ _ => Mo_p1 fun _ _ => Mo_keep
  | dup2 => dsimp only [stp]; exact Mo_p1 fun _ _ => Mo_p1 fun _ _ => Mo_keep
  | goto off => dsimp only [stp]; exact Mo_n1 fun _ => Mo_keep
  | ifCond c off => dsimp only [stp]; exact Mo_n1 fun _ => Mo_pI fun _ _ => Mo_keep
  | if_icmp c off => dsimp only [stp]; exact Mo_n1 fun _ => Mo_pI fun _ _ => Mo_pI fun _ _ => Mo_keep
  | ifnull off => dsimp only [stp]; exact Mo_n1 fun _ => Mo_pQ fun _ _ => Mo_keep
  | ifnonnull off => dsimp only [stp]; exact Mo_n1 fun _ => Mo_pQ fun _ _ => Mo_keep
  | if_acmp c off => dsimp only [stp]; exact Mo_n1 fun _ => Mo_pQ fun _ _ => Mo_pQ fun _ _ => Mo_keep
  | tableswitch d lo hi offs => dsimp only [stp]; exact Mo_pI fun _ _ => Mo_ite (Mo_n1 fun _ => Mo_keep) (Mo_bd fun _ => Mo_keep)
  | getfield i => dsimp only [stp]; exact Mo_n3 fun _ _ => Mo_pR fun _ _ => Mo_oI fun _ _ => Mo_if (Mo_bd fun _ => Mo_keep)
  | putfield i =>
    dsimp only [stp]
    refine Mo_n3 fun _ _ => ?_
    split
    · exact Mo_pR fun _ _ => Mo_oI fun _ _ => Mo_if (by split; exact Mo_if Mo_put; exact Mo_none)
    · exact Mo_none
  | arraylength => dsimp only [stp]; exact Mo_pR fun _ _ => Mo_ite Mo_keep (Mo_aI fun _ _ _ => Mo_keep)
  | iaload => dsimp only [stp]; exact Mo_pI fun _ _ => Mo_pR fun _ _ => Mo_ite (Mo_bI Mo_keep) (Mo_aI fun _ _ _ => by split; exact Mo_bI Mo_keep; exact Mo_none)
  | laload => dsimp only [stp]; exact Mo_pI fun _ _ => Mo_pR fun _ _ => Mo_aI fun _ _ _ => by split; exact Mo_bI Mo_keep; exact Mo_none
  | baload => dsimp only [stp]; exact Mo_pI fun _ _ => Mo_pR fun _ _ => Mo_aI fun _ _ _ => by split; exact Mo_bI Mo_keep; exact Mo_bI Mo_keep; exact Mo_none
  | aaload => dsimp only [stp]; exact Mo_pI fun _ _ => Mo_pR fun _ _ => Mo_aI fun _ _ _ => by split; exact Mo_bI Mo_keep; exact Mo_bI Mo_keep; exact Mo_none
  | iastore => dsimp only [stp]; exact Mo_pI fun _ _ => Mo_pI fun _ _ => Mo_pR fun _ _ => Mo_aI fun _ _ _ => by split; exact Mo_bI Mo_put; exact Mo_none
  | lastore => dsimp only [stp]; exact Mo_pJ fun _ _ => Mo_pI fun _ _ => Mo_pR fun _ _ => Mo_aI fun _ _ _ => by split; exact Mo_bI Mo_put; exact Mo_none
  | bastore => dsimp only [stp]; exact Mo_pI fun _ _ => Mo_pI fun _ _ => Mo_pR fun _ _ => Mo_aI fun _ _ _ => by split; exact Mo_bI Mo_put; exact Mo_bI Mo_put; exact Mo_none
  | aastore =>
    dsimp only [stp]
    refine Mo_pQ fun _ _ => Mo_pI fun _ _ => Mo_pR fun _ _ => Mo_aI fun _ _ _ => ?_
    split
    · exact Mo_bI (by split; exact Mo_put; exact Mo_oI fun _ _ => Mo_if Mo_put)
    · exact Mo_none
  | newarray at_ => dsimp only [stp]; exact Mo_pI fun _ _ => by split; exact Mo_if Mo_new; exact Mo_none
  | anewarray i => dsimp only [stp]; exact Mo_n1 fun _ => Mo_pI fun _ _ => by split; exact Mo_if Mo_new; exact Mo_none
  | new i => dsimp only [stp]; exact Mo_n1 fun _ => by split; exact Mo_new; exact Mo_none
  | iconst n => exact Mo_keep
  | bipush n => exact Mo_keep
  | sipush n => exact Mo_keep
  | lconst n => exact Mo_keep
  | aconst_null => exact Mo_keep
  | _ => exact fun z q => by cases q
theorem stp_mono {sb sL : Nat} {sx : Nat → Int32} {nL : Nat} {ins : Instr} {nx : Nat} {ri : List Nat} {lv : List (Option Value)} {st : List Value} {h : AH} {z : SR} (hs : stp sb sL sx nL ins nx ri lv st h = some z) : h.1 ≤ z.2.2.2.1 ∧ h.2.1 ≤ z.2.2.2.2.1 := stp_mono0 ins z hs
