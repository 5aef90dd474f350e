/-! dump: what the blocks say -/
theorem BlkIs_lt {ρ : RS} {E e : Nat} {a : Int} {B : Nat → Int} (hD : DumpsOk ρ E) (he : e < E) (h : BlkIs ρ e a B) : a < ρ.2 13 0 (e + 1) - ρ.2 13 0 e := by
  obtain ⟨d1, d2, d3, d4⟩ := hD e he
  obtain ⟨w1, w2, w3, w4, w5, w6, u0, u1, u2, u3, u4, u5⟩ := d1
  have n1 : 0 ≤ nix ρ e := Int.ediv_nonneg (by omega) (by decide)
  have s1 := (sumC_pos (ρ.2 14 0 (e + 1) - ρ.2 14 0 e).toNat (ρ.2 14 0 e).toNat (fun j j1 j2 => u5 j (by omega) (by omega))).1
  rcases h with ⟨h1, h2⟩ | ⟨h1, h2⟩ | ⟨i, h1, h2, h3⟩ | ⟨m, c, h1, h2, h3, h4⟩
  · omega
  · omega
  · omega
  · obtain ⟨k, hk⟩ : ∃ k : Nat, (ρ.2 14 0 (e + 1) - ρ.2 14 0 e).toNat = m + (k + 1) := ⟨(ρ.2 14 0 (e + 1) - ρ.2 14 0 e).toNat - m - 1, by omega⟩
    have s2 := (sumC_pos k ((ρ.2 14 0 e).toNat + m + 1) (fun j j1 j2 => u5 j (by omega) (by omega))).1
    rw [hk, sumC_add] at d4
    have e1 : sumC ρ ((ρ.2 14 0 e).toNat + m) (k + 1) = 1 + cont ρ ((ρ.2 14 0 e).toNat + m) + sumC ρ ((ρ.2 14 0 e).toNat + m + 1) k := rfl
    omega
section Df2
variable {ρ ρ' : RS} {l c0 : Int} {E : Nat} {cs : Nat → Nat → Nat} {qs : Nat → Nat}
theorem nd_same {r n : Nat} (hT : TreeOk ρ) (hn : n < 256) (hqn : rEnt ρ n = qs n) (hR : RecIs ρ' r ρ n (cs n) (qs n)) (cc : Nat) : ndT ρ (cs n) (qs n) n cc = ndB ρ' r cc := by
  obtain ⟨a1, a2, a3, a4, a5, a6, a7, a8, a9⟩ := hR
  unfold ndT ndB fcT fcB szv
  rw [a1, a2, a3, a4, a5, a6, hqn]
  by_cases h0 : cc = 0
  · rw [if_pos h0, if_pos h0]
  rw [if_neg h0, if_neg h0]
  by_cases k1 : ρ.2 1 0 n = 1
  · rw [if_pos k1, if_pos k1, if_pos k1, show 64 * cc = 64 * (cc - 1) + 64 by omega]
    refine ocB_c _ _ _ _ (fun i h1 h2 => ?_)
    show ρ.2 6 n i % 256 = ρ'.2 24 0 ((ρ'.2 23 0 r).toNat + i) % 256
    rw [(a8 k1).1 i (by omega)]
    omega
  · rw [if_neg k1, if_neg k1, if_neg k1, Int.toNat_natCast, show 21 * cc = 21 * (cc - 1) + 21 by omega]
    refine enB_c _ _ _ _ (fun i h1 h2 => ?_)
    have := (a9 k1).1 i (by omega)
    exact ⟨this.1.symm, this.2.symm⟩
theorem DF_RB (hF : DF ρ ρ' l c0 E cs qs) (hT : TreeOk ρ) (hq : ∀ n, n < 256 → ρ.2 1 0 n ≠ 0 → rEnt ρ n = qs n) (hx : ρ'.1 9 ≤ 4000) (r0 : 0 ≤ ρ.1 27) (hB : RB ρ E) : RB ρ' (E + 1) := by
  have hR := fun n hn hc => (DF_rec (n := n) hF hT hq hx hn hc).2.2
  obtain ⟨f1, f2, f3, ⟨f40, f49, f416, f427⟩, ⟨⟨f5a, f5b⟩, f5c, f5d⟩, f6, f7, f8, ⟨v1, v2, v3, v4, v5, v6, v7⟩, f10, ⟨o1, o2, o3⟩, f12⟩ := hF
  obtain ⟨b1, b2, b3⟩ := hB
  refine ⟨fun z => by omega, fun _ => ⟨?_, by rw [v6, f49], ?_, by rw [v7, f427]⟩, fun r hr => ?_⟩
  · by_cases q : E = 0
    · have := b1 q
      rw [q] at v4
      rw [v4]
      exact this.1
    · rw [(f8 0 (by omega) (by omega)).1]
      exact (b2 (by omega)).1
  · by_cases q : E = 0
    · have := b1 q
      rw [q] at v5
      rw [v5]
      exact this.2
    · rw [(f8 0 (by omega) (by omega)).2]
      exact (b2 (by omega)).2.2.1
  · by_cases q : (r : Int) < ρ.1 27
    · have := b3 r q
      rw [o1 18 r (by decide) (by decide) q, o1 21 r (by decide) (by decide) q, o1 23 r (by decide) (by decide) q]
      exact ⟨fun z => Int.le_trans (this.1 z) f5a, fun z => Int.le_trans (this.2 z) f5c⟩
    · have dM : dMany ρ c0 = cnt (chg ρ c0) 0 256 := rfl
      obtain ⟨k, k1, k2, k3⟩ := cnt_sur (chg ρ c0) 256 (r - (ρ.1 27).toNat) (by omega)
      have := hR k k1 k2
      rw [k3, show (ρ.1 27).toNat + (r - (ρ.1 27).toNat) = r by omega] at this
      exact this
theorem DF_KB {bl bl' : Nat → Nat → Int} {x : Nat → Nat} (hF : DF ρ ρ' l c0 E cs qs) (hT : TreeOk ρ) (hq : ∀ n, n < 256 → ρ.2 1 0 n ≠ 0 → rEnt ρ n = qs n) (hx : ρ'.1 9 ≤ 4000) (w1 : 0 ≤ ρ.1 9) (r0 : 0 ≤ ρ.1 27) (hD : DumpsOk ρ E) (hB : RB ρ E) (hK : KB ρ E bl) (hxk : ∀ k, k < 256 → chg ρ c0 k → x (cnt (chg ρ c0) 0 k) = k) (b0 : ∀ q, q < (ρ.1 9).toNat → bl' q = bl q) (b1 : bl' (ρ.1 9).toNat = hdT l E (ρ.1 7) c0 (dMany ρ c0 : Nat)) (b2 : bl' ((ρ.1 9).toNat + 1) = mpB (fun n => ρ.2 1 0 n ≠ 0) (putK zB 0 77 1) 0 256) (b3 : ∀ i, i < wN 31 (dMany ρ c0) → bl' ((ρ.1 9).toNat + 2 + i) = ixF (fun i => (x i : Int)) (fun i => nb ρ (x i)) (dMany ρ c0 : Nat) (31 * i) (min (dMany ρ c0) (31 * i + 31) - 31 * i)) (b4 : ∀ n, n < 256 → chg ρ c0 n → ∀ cc, cc < (nb ρ n).toNat → bl' ((ρ.1 9).toNat + 2 + wN 31 (dMany ρ c0) + (sm (chg ρ c0) (nb ρ) 0 n).toNat + cc) = ndT ρ (cs n) (qs n) n cc) : KB ρ' (E + 1) bl' := by
  have hS := DF_old hF hB
  have hR := fun n hn hc => (DF_rec (n := n) hF hT hq hx hn hc).2.1
  have hs := DF_sum hF hT hq hx
  have dM : dMany ρ c0 = cnt (chg ρ c0) 0 256 := rfl
  obtain ⟨f1, f2, f3, ⟨f40, f49, f416, f427⟩, ⟨⟨f5a, f5b⟩, f5c, f5d⟩, f6, f7, f8, ⟨v1, v2, v3, v4, v5, v6, v7⟩, f10, ⟨o1, o2, o3⟩, f12⟩ := hF
  intro e a B he h j hj
  by_cases q : e = E
  · rw [q] at h ⊢
    rw [v4]
    have eN : ρ.1 27 + (dMany ρ c0 : Int) - ρ.1 27 = (dMany ρ c0 : Int) := by omega
    have en : nix ρ' E = (wN 31 (dMany ρ c0) : Nat) := by
      unfold nix pts
      rw [v5, v7, eN, wN_31]
      omega
    rcases h with ⟨h1, h2⟩ | ⟨h1, h2⟩ | ⟨i, h1, h2, h3⟩ | ⟨m, cc, h1, h2, h3, h4⟩
    · obtain rfl : a = 0 := by omega
      rw [Nat.add_zero, b1, h2]
      unfold hdT hdB
      rw [v1, v2, v3, v5, v7, eN]
    · obtain rfl : a = 1 := by omega
      rw [b2, h2]
      refine congrFun (mpB_b 256 _ 0 (fun n _ hn => ?_)) j
      rw [f10 n (by omega)]
      by_cases z : ρ.2 1 0 n = 0
      · rw [if_pos z]
        simp [z]
      · rw [if_neg z]
        simp [z]
    · rw [en] at h2
      have hi : i < wN 31 (dMany ρ c0) := by omega
      have hi2 : 31 * i < dMany ρ c0 := by
        rw [wN_31] at hi
        omega
      rw [show (ρ.1 9).toNat + a = (ρ.1 9).toNat + 2 + i by omega, b3 i hi, h3, ixB_G, v5, v7]
      unfold ixF
      have eM : min ((ρ.1 27).toNat + 31 * i + 31) (ρ.1 27 + (dMany ρ c0 : Int)).toNat - ((ρ.1 27).toNat + 31 * i) = min (dMany ρ c0) (31 * i + 31) - 31 * i := by omega
      have eH : min 31 ((dMany ρ c0 : Int) - ((31 * i : Nat) : Int)) = ((min (dMany ρ c0) (31 * i + 31) - 31 * i : Nat) : Int) := by omega
      rw [eM, eH]
      refine congrFun (ixG_c _ _ _ _ _ (fun t ht => ?_)) j
      obtain ⟨k, k1, k2, k3⟩ := cnt_sur (chg ρ c0) 256 (31 * i + t) (by omega)
      have hxx := hxk k k1 k2
      have h17 := (f12 k k1 k2).1
      have hnb := hR k k1 k2
      rw [k3] at hxx h17 hnb
      show (x (31 * i + t) : Int) = ρ'.2 17 0 _ ∧ nb ρ (x (31 * i + t)) = 1 + cont ρ' _
      rw [hxx, show (ρ.1 27).toNat + 31 * i + t = (ρ.1 27).toNat + (31 * i + t) by omega, h17, hnb]
      exact ⟨rfl, rfl⟩
    · rw [v5, v7] at h1
      rw [v5] at h2 h3 h4
      obtain ⟨k, k1, k2, k3⟩ := cnt_sur (chg ρ c0) 256 m (by omega)
      have hnb := hR k k1 k2
      have hR2 := f12 k k1 k2
      have hsk := hs k (by omega)
      rw [k3] at hnb hR2 hsk
      have sp := (sm_ok (p := chg ρ c0) (f := nb ρ) (fun n hn => nb_ok hT hn) k 0 (by omega)).1
      rw [hsk, en] at h3
      rw [show (ρ.1 9).toNat + a = (ρ.1 9).toNat + 2 + wN 31 (dMany ρ c0) + (sm (chg ρ c0) (nb ρ) 0 k).toNat + cc by omega, b4 k k1 k2 cc (by omega), h4, nd_same hT k1 (hq k k1 k2.1) hR2]
  · have he' : e < E := by omega
    have hp := BlkIs_lt (DumpsOk_o hS hD hB) he' h
    have fl := fb_le hD hB he'
    obtain ⟨g1, g2, g3, g4⟩ := fb_o hS he'
    have u0 : 0 ≤ ρ.2 13 0 e := (hD e he').1.2.2.2.2.2.2.1
    have hk := KB_o hS hD hB hK e a B he' h j hj
    rw [b0 _ (by omega)]
    exact hk
end Df2
