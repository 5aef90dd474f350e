/-! what the writer writes, by blocks -/
def ixG (x y : Nat → Int) : (Nat → Int) → Nat → Nat → Nat → (Nat → Int)
  | B, _, _, 0 => B
  | B, f, r, m + 1 => ixG x y (putK (putK B f (x r) 1) (f + 1) (y r) 1) (f + 2) (r + 1) m
theorem ixG_s (x y : Nat → Int) : ∀ (m : Nat) (B : Nat → Int) (f r : Nat), ixG x y B f r (m + 1) = putK (putK (ixG x y B f r m) (f + 2 * m) (x (r + m)) 1) (f + 2 * m + 1) (y (r + m)) 1
  | 0, _, _, _ => rfl
  | m + 1, B, f, r => by
    show ixG x y (putK (putK B f (x r) 1) (f + 1) (y r) 1) (f + 2) (r + 1) (m + 1) = _
    rw [ixG_s x y m _ (f + 2) (r + 1), show f + 2 + 2 * m = f + 2 * (m + 1) by omega, show r + 1 + m = r + (m + 1) by omega]
    rfl
theorem ocB_s (g : Nat → Int) : ∀ (m : Nat) (B : Nat → Int) (f k : Nat), ocB g B f k (m + 1) = putK (ocB g B f k m) (f + m) (g (k + m)) 1
  | 0, _, _, _ => rfl
  | m + 1, B, f, k => by
    show ocB g (putK B f (g k) 1) (f + 1) (k + 1) (m + 1) = _
    rw [ocB_s g m _ (f + 1) (k + 1), show f + 1 + m = f + (m + 1) by omega, show k + 1 + m = k + (m + 1) by omega]
    rfl
theorem enB_s (g1 g2 : Nat → Int) : ∀ (m : Nat) (B : Nat → Int) (f k : Nat), enB g1 g2 B f k (m + 1) = putK (putK (enB g1 g2 B f k m) (f + 3 * m) (g1 (k + m)) 2) (f + 3 * m + 2) (g2 (k + m)) 1
  | 0, _, _, _ => rfl
  | m + 1, B, f, k => by
    show enB g1 g2 (putK (putK B f (g1 k) 2) (f + 2) (g2 k) 1) (f + 3) (k + 1) (m + 1) = _
    rw [enB_s g1 g2 m _ (f + 3) (k + 1), show f + 3 + 3 * m = f + 3 * (m + 1) by omega, show k + 1 + m = k + (m + 1) by omega]
    rfl
theorem mpB_s (t : Nat → Prop) [DecidablePred t] : ∀ (m : Nat) (B : Nat → Int) (k : Nat), mpB t B k (m + 1) = if t (k + m) then upB (mpB t B k m) (1 + (k + m) / 8) (orI (mpB t B k m (1 + (k + m) / 8)) (2 ^ (7 - (k + m) % 8))) else mpB t B k m
  | 0, _, _ => rfl
  | m + 1, B, k => by
    show mpB t (if t k then upB B (1 + k / 8) (orI (B (1 + k / 8)) (2 ^ (7 - k % 8))) else B) (k + 1) (m + 1) = _
    rw [mpB_s t m _ (k + 1), show k + 1 + m = k + (m + 1) by omega]
    rfl
theorem ixG_z (x y : Nat → Int) : ∀ (m : Nat) (B : Nat → Int) (f r i : Nat), f + 2 * m ≤ i → ixG x y B f r m i = B i
  | 0, _, _, _, _, _ => rfl
  | m + 1, B, f, r, i, hi => by
    rw [ixG_s, putK_at, if_neg (by omega), putK_at, if_neg (by omega)]
    exact ixG_z x y m B f r i (by omega)
theorem ocB_z (g : Nat → Int) : ∀ (m : Nat) (B : Nat → Int) (f k i : Nat), f + m ≤ i → ocB g B f k m i = B i
  | 0, _, _, _, _, _ => rfl
  | m + 1, B, f, k, i, hi => by
    rw [ocB_s, putK_at, if_neg (by omega)]
    exact ocB_z g m B f k i (by omega)
theorem enB_z (g1 g2 : Nat → Int) : ∀ (m : Nat) (B : Nat → Int) (f k i : Nat), f + 3 * m ≤ i → enB g1 g2 B f k m i = B i
  | 0, _, _, _, _, _ => rfl
  | m + 1, B, f, k, i, hi => by
    rw [enB_s, putK_at, if_neg (by omega), putK_at, if_neg (by omega)]
    exact enB_z g1 g2 m B f k i (by omega)
/-- blocks of each n things, k of them, from fi on -/
def wBl (n : Nat) (F : Nat → Nat → Nat → Int) (bl : Nat → Nat → Int) (fi k : Nat) : Nat → Nat → Int := fun q => if fi ≤ q ∧ n * (q - fi) < k then F (n * (q - fi)) (min k (n * (q - fi) + n) - n * (q - fi)) else bl q
theorem wBl_0 (n : Nat) (F : Nat → Nat → Nat → Int) (bl : Nat → Nat → Int) (fi : Nat) : wBl n F bl fi 0 = bl := by
  funext q
  unfold wBl
  rw [if_neg (by omega)]
theorem wBl_s {n : Nat} (hn : 0 < n) (F : Nat → Nat → Nat → Int) (bl : Nat → Nat → Int) (fi k : Nat) : bset (wBl n F bl fi k) (fi + k / n) (F (n * (k / n)) (k % n + 1)) = wBl n F bl fi (k + 1) := by
  have h1 := Nat.div_add_mod k n
  have h2 := Nat.mod_lt k hn
  funext q
  unfold bset wBl
  by_cases e : q = fi + k / n
  · subst e
    rw [if_pos rfl, Nat.add_sub_cancel_left, if_pos ⟨Nat.le_add_right _ _, by omega⟩, show min (k + 1) (n * (k / n) + n) - n * (k / n) = k % n + 1 by omega]
  · rw [if_neg e]
    by_cases e2 : fi ≤ q
    · have e3 : q - fi < k / n ∨ k / n + 1 ≤ q - fi := by omega
      rcases e3 with e3 | e3
      · have g1 : n * (q - fi) + n ≤ n * (k / n) := by
          have := Nat.mul_le_mul_left n e3
          rw [Nat.succ_eq_add_one, Nat.mul_add, Nat.mul_one] at this
          exact this
        rw [if_pos (by omega), if_pos (by omega), show min k (n * (q - fi) + n) = min (k + 1) (n * (q - fi) + n) by omega]
      · have g1 : n * (k / n) + n ≤ n * (q - fi) := by
          have := Nat.mul_le_mul_left n e3
          rw [Nat.mul_add, Nat.mul_one] at this
          exact this
        rw [if_neg (by omega), if_neg (by omega)]
    · rw [if_neg (by omega), if_neg (by omega)]
theorem wBl_last {n : Nat} (hn : 0 < n) (F : Nat → Nat → Nat → Int) (bl : Nat → Nat → Int) (fi k : Nat) (hk : k % n ≠ 0) : wBl n F bl fi k (fi + k / n) = F (n * (k / n)) (k % n) := by
  have h1 := Nat.div_add_mod k n
  have h2 := Nat.mod_lt k hn
  unfold wBl
  rw [Nat.add_sub_cancel_left, if_pos ⟨Nat.le_add_right _ _, by omega⟩, show min k (n * (k / n) + n) - n * (k / n) = k % n by omega]
/-- how many blocks they take -/
def wN (n k : Nat) : Nat := (k + n - 1) / n
theorem wN_0 {n k : Nat} (hn : 0 < n) (hk : k % n = 0) : wN n k = k / n := by
  have h1 := Nat.div_add_mod k n
  unfold wN
  rw [Nat.mul_comm] at h1
  refine Nat.div_eq_of_lt_le (by omega) ?_
  rw [Nat.succ_mul]
  omega
theorem wN_1 {n k : Nat} (hn : 0 < n) (hk : k % n ≠ 0) : wN n k = k / n + 1 := by
  have h1 := Nat.div_add_mod k n
  have h2 := Nat.mod_lt k hn
  unfold wN
  rw [Nat.mul_comm] at h1
  refine Nat.div_eq_of_lt_le ?_ ?_
  · rw [Nat.succ_mul]
    omega
  · rw [Nat.succ_mul, Nat.succ_mul]
    omega
theorem wN_s {n : Nat} (hn : 0 < n) (k : Nat) : wN n (k + 1) = k / n + 1 := by
  unfold wN
  rw [show k + 1 + n - 1 = k + n by omega, Nat.add_div_right _ hn]
/-! the tree under the volumes -/
section Tk
variable {b : Nat} {c : CS} {ρ : RS} {na : Nat → Option Nat} {T0 N0 W0 P0 len cap wr fi : Nat} {W : Nat → Int64} {S : Nat → Int}
theorem mk_s (h1 : c.1 W0 = none) (h2 : c.1 P0 = none) {a : Nat} {q : Nat × Nat} (ho : c.1 a = some q) : (mkV c W0 P0 len cap wr fi W S).1 a = some q := by
  rw [mk_o (fun z => by rw [z, h1] at ho; cases ho) (fun z => by rw [z, h2] at ho; cases ho)]
  exact ho
theorem NdIs_mk (h1 : c.1 W0 = none) (h2 : c.1 P0 = none) {n a : Nat} (hn : NdIs c ρ na n a) : NdIs (mkV c W0 P0 len cap wr fi W S) ρ na n a := ⟨hn.1, hn.2.1, mk_s h1 h2 hn.2.2.1, hn.2.2.2⟩
theorem TP_mk (h1 : c.1 W0 = none) (h2 : c.1 P0 = none) (hP : TP T0 N0 c ρ na) : TP T0 N0 (mkV c W0 P0 len cap wr fi W S) ρ na := ⟨mk_s h1 h2 hP.1, hP.2.1, mk_s h1 h2 hP.2.2.1, hP.2.2.2.1, hP.2.2.2.2.1, fun n hn => (hP.2.2.2.2.2 n hn).imp id (fun ⟨a, ha⟩ => ⟨a, NdIs_mk h1 h2 ha⟩)⟩
theorem Oct_mk (h1 : c.1 W0 = none) (h2 : c.1 P0 = none) {oc : Option Nat} {dt : Nat → Int} {n : Nat} (hO : OctOk c ρ oc dt n) : OctOk (mkV c W0 P0 len cap wr fi W S) ρ oc dt n := by
  obtain ⟨g1, g2, g3, g4⟩ := hO
  refine ⟨g1, g2, g3, ?_⟩
  cases oc with
  | none => exact g4
  | some o => exact ⟨mk_s h1 h2 g4.1, g4.2⟩
theorem Chn_mk (h1 : c.1 W0 = none) (h2 : c.1 P0 = none) {p q : Nat} {cs ad : Nat → Nat} {nm : Nat → Int} (hC : Chn c p cs ad nm q) : Chn (mkV c W0 P0 len cap wr fi W S) p cs ad nm q := ⟨hC.1, fun i hi => ⟨mk_s h1 h2 (hC.2 i hi).1, (hC.2 i hi).2⟩⟩
end Tk
section Vt
variable {b L V0 : Nat} {xs : Nat → Int32} {Z : Nat → Prop} {g : Nat → Option AO} {c : CS} {nc ns cap fi : Nat} {bl : Nat → Nat → Int} {sp ls : Nat → Int} {H : AH} {ρ : RS} {na : Nat → Option Nat} {T0 N0 : Nat}
theorem VH_ob (hH : VH b V0 Z g c nc ns cap fi bl sp ls H) : ∃ fs, H.2.2 V0 = some (.inr (2, fs)) := by
  obtain ⟨wr, W, S, hR, -⟩ := hH
  exact VR_ob hR
theorem VH_ch (hH : VH b V0 Z g c nc ns cap fi bl sp ls H) : ∃ (h : AH) (W0 P0 len wr : Nat) (W : Nat → Int64) (S : Nat → Int), H = CH h (mkV c W0 P0 len cap wr fi W S) ∧ c.1 W0 = none ∧ c.1 P0 = none := by
  obtain ⟨wr, W, S, ⟨h, W0, P0, len, e, hV, -⟩, -⟩ := hH
  exact ⟨h, W0, P0, len, wr, W, S, e, hV.2.1, hV.2.2.1⟩
theorem V_chg (hH : VH b V0 Z g c nc ns cap fi bl sp ls H) (hP : TP T0 N0 c ρ na) (hT : TreeOk ρ) (d : Nat) (hd : 2 ≤ d) {n : Nat} {s : Int} (s1 : -1 ≤ s) (s2 : s ≤ 1000000) (hn2 : n < 256) : (chS ρ s n ∧ ∃ a, NdIs c ρ na n a ∧ Wp b L xs d mi_48 0 (ent (mL mi_48) [.ref T0, vI n, vI s]) [] H (Rt H (.ref a))) ∨ (¬ chS ρ s n ∧ Wp b L xs d mi_48 0 (ent (mL mi_48) [.ref T0, vI n, vI s]) [] H (Rt H .null)) := by
  obtain ⟨h, W0, P0, len, wr, W, S, rfl, h1, h2⟩ := VH_ch hH
  rcases hP.2.2.2.2.2 n hn2 with hn | ⟨a, hn⟩
  · exact Or.inr ⟨fun z => z.1 hn.2.2, k_chgN d hd (TP_mk h1 h2 hP) hn2 hn⟩
  · by_cases q : s < ρ.2 5 0 n
    · exact Or.inl ⟨⟨hn.2.2.2.1, q⟩, a, hn, k_chgR d hd (TP_mk h1 h2 hP) hT s1 s2 hn2 (NdIs_mk h1 h2 hn) q⟩
    · exact Or.inr ⟨fun z => q z.2, k_chgX d hd (TP_mk h1 h2 hP) hT s1 s2 hn2 (NdIs_mk h1 h2 hn) q⟩
theorem V_blocks (hH : VH b V0 Z g c nc ns cap fi bl sp ls H) (d : Nat) (hd : 1 ≤ d) (hT : TreeOk ρ) {n a : Nat} (hn2 : n < 256) (hn : NdIs c ρ na n a) : Wp b L xs d mi_52 0 (ent (mL mi_52) [.ref a]) [] H (Rt H (vI (nb ρ n))) := by
  obtain ⟨h, W0, P0, len, wr, W, S, rfl, h1, h2⟩ := VH_ch hH
  exact k_blocks d hd hT hn2 (NdIs_mk h1 h2 hn)
theorem V_oct (hH : VH b V0 Z g c nc ns cap fi bl sp ls H) (d : Nat) {n a : Nat} (oA : c.1 a = some (12, n)) {oc : Option Nat} {dt : Nat → Int} (hO : OctOk c ρ oc dt n) (hb : ∀ o, oc = some o → o ≠ b) {k : Nat} (hk : (k : Int) < ρ.2 4 0 n) (hk2 : k < 512) : Wp b L xs d mi_66 0 (ent (mL mi_66) [.ref a, vI k]) [] H (Rt H (vI (ρ.2 6 n k % 256))) := by
  obtain ⟨h, W0, P0, len, wr, W, S, rfl, h1, h2⟩ := VH_ch hH
  exact k_oct d (mk_s h1 h2 oA) (Oct_mk h1 h2 hO) hb hk hk2
theorem V_node (hH : VH b V0 Z g c nc ns cap fi bl sp ls H) (hP : TP T0 N0 c ρ na) (d : Nat) (hd : 1 ≤ d) {n : Nat} (hn2 : n < 256) : (ρ.2 1 0 n ≠ 0 ∧ ∃ a, Wp b L xs d mi_17 0 (ent (mL mi_17) [.ref T0, vI n]) [] H (Rt H (.ref a))) ∨ (ρ.2 1 0 n = 0 ∧ Wp b L xs d mi_17 0 (ent (mL mi_17) [.ref T0, vI n]) [] H (Rt H .null)) := by
  obtain ⟨h, W0, P0, len, wr, W, S, rfl, h1, h2⟩ := VH_ch hH
  obtain ⟨oT, vT, oN, -⟩ := TP_mk (len := len) (cap := cap) (wr := wr) (fi := fi) (W := W) (S := S) h1 h2 hP
  rcases hP.2.2.2.2.2 n hn2 with hn | ⟨a, hn⟩
  · exact Or.inr ⟨hn.2.2, k_nodeN d hd oT vT oN hn2 hn.2.1⟩
  · exact Or.inl ⟨hn.2.2.2.1, a, k_nodeR d hd oT vT oN hn2 hn.2.1⟩
theorem V_pn (hH : VH b V0 Z g c nc ns cap fi bl sp ls H) (hP : TP T0 N0 c ρ na) (hT : TreeOk ρ) (d : Nat) {n a : Nat} (hn2 : n < 256) (hn : NdIs c ρ na n a) (hr : n = 0 → ρ.2 2 0 n = 0) (hp : n ≠ 0 → ρ.2 1 0 (ρ.2 2 0 n).toNat ≠ 0) : Wp b L xs d mi_64 0 (ent (mL mi_64) [.ref a]) [] H (Rt H (vI (ρ.2 2 0 n))) := by
  obtain ⟨h, W0, P0, len, wr, W, S, rfl, h1, h2⟩ := VH_ch hH
  have t1 := hT n hn2
  obtain ⟨i1, i2, oA, i4, f0, f1, f2, f3, f4, f5⟩ := NdIs_mk (len := len) (cap := cap) (wr := wr) (fi := fi) (W := W) (S := S) h1 h2 hn
  by_cases q : n = 0
  · rw [if_pos q] at f2
    rw [hr q]
    exact k_pn0 d oA f2
  · rw [if_neg q] at f2
    obtain ⟨p, hp2⟩ : ∃ p, NdIs c ρ na (ρ.2 2 0 n).toNat p := by
      rcases hP.2.2.2.2.2 (ρ.2 2 0 n).toNat (by omega) with t2 | t2
      · exact absurd t2.2.2 (hp q)
      · exact t2
    rw [hp2.1] at f2
    rw [show ρ.2 2 0 n = (((ρ.2 2 0 n).toNat : Nat) : Int) by omega]
    exact k_pn1 d oA f2 (mk_s h1 h2 hp2.2.2.1) hp2.2.2.2.2.1
/-- a store where noughts are -/
theorem V_st (d : Nat) {B : Nat → Int} (hH : VH b V0 Z g c nc ns cap (fi + 1) (bset bl fi B) sp ls H) {at_ wd : Nat} {v : Int} (v1 : 0 ≤ v) (v2 : v ≤ 2147483647) (hw : at_ + wd ≤ 64) (w4 : wd ≤ 4) (hz : ∀ i, at_ ≤ i → i < at_ + wd → B i = 0) : Wp b L xs d mi_60 0 (ent (mL mi_60) [.ref V0, vI at_, vI wd, vI v]) [] H (fun h' o => o = .inl none ∧ VH b V0 Z g c nc ns cap (fi + 1) (bset bl fi (putK B at_ v wd)) sp ls h') := by
  have := V_store d (L := L) (xs := xs) hH v1 v2 hw w4
  rw [bset_2, bset_eq, stK_put v wd at_ B hz] at this
  exact this
end Vt
