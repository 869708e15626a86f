/-! ===== the first token that is the same word ===== -/
def hsr (sg : Nat → Int32) (k : Nat) : Nat → Int32
  | 0 => 0
  | i + 1 => hsr sg k i * 31 + sg (k + i)
def hix (s : zS) (P t : Nat) : Nat := (hsr (s.2 (P + 2)) (zpl s P t) (zln s P t) &&& (63 : Int32)).toInt.toNat
/-- the first of its word -/
def fw (s : zS) (P t : Nat) : Prop := (s.2 (P + 4) t).toInt = 1 ∧ (s.2 (P + 10) t).toInt = (t : Int)
/-- from a number on (0: none) the chain goes by the first tokens of a kind, the greatest ahead of n first -/
def CHc (s : zS) (P n b : Nat) (H : Int) : Prop := 0 ≤ H ∧ H ≤ (n : Int) ∧ (0 < H → fw s P (H - 1).toNat ∧ hix s P (H - 1).toNat = b) ∧ ∀ w : Nat, H ≤ (w : Int) → w < n → fw s P w → ¬ hix s P w = b
def CHI (s : zS) (P n : Nat) : Prop := (∀ b, b < 64 → CHc s P n b (s.2 (P + 14) b).toInt) ∧ ∀ u, u < n → fw s P u → CHc s P u (hix s P u) (s.2 (P + 16) u).toInt
theorem hix_lt {s : zS} {P t : Nat} : hix s P t < 64 := by
  unfold hix
  obtain ⟨j, hj, e⟩ := pk_andE (hsr (s.2 (P + 2)) (zpl s P t) (zln s P t)) (m := 63) 6 (by decide)
  rw [e, nI_toInt (by omega)]
  omega
theorem hsr_eq {sg : Nat → Int32} {p q : Nat} : ∀ {l : Nat}, (∀ i, i < l → sg (p + i) = sg (q + i)) → hsr sg p l = hsr sg q l
  | 0, _ => rfl
  | l + 1, h => by
    show hsr sg p l * 31 + sg (p + l) = hsr sg q l * 31 + sg (q + l)
    rw [hsr_eq (fun i hi => h i (by omega)), h l (by omega)]
theorem hix_eq {s : zS} {P t u : Nat} (h : eqT s P t u) : hix s P t = hix s P u := by
  unfold hix
  rw [hsr_eq (q := zpl s P u) h.2, h.1]
section ZLEX1
variable {d P : Nat} {s : zS} {a1 a2 a3 : Int32}
theorem zs_114 {n : Nat} (hP : P = 3 ∨ P = 39) (hn : a1.toInt = (n : Int)) (hn4 : n ≤ 4000) (ho : ∀ t, t ≤ n → okT s P t) (hC : CHI s P n) : Zt (d + 10) (wd P 114) 114 [.ref (P + 1), .int a1] s (fun v s' => ∃ r : Int32, v = some (.int r) ∧ ((s' = s ∧ ∃ u : Nat, u < n ∧ r.toInt = (u : Int) ∧ fw s P u ∧ eqT s P u n) ∨ (r = a1 ∧ (∀ u, u < n → fw s P u → ¬ eqT s P u n) ∧ s' = zr (zr s (P + 16) n (s.2 (P + 14) (hix s P n))) (P + 14) (hix s P n) (a1 + 1)))) := by
  refine zc_114 (d := d + 1) hP ?_
  obtain ⟨l1, l2, l3, l4, l5, l6, l7, l8⟩ := limP hP
  have en : a1.toInt.toNat = n := by omega
  obtain ⟨⟨p1, p2⟩, p3, p4⟩ := ho n (Nat.le_refl _)
  have hb := hix_lt (s := s) (P := P) (t := n)
  unfold v_114_0 vl_114_4
  refine ⟨fun b1 b2 b3 s' => s' = s ∧ b1 = a1 ∧ 0 ≤ b3.toInt ∧ b3.toInt ≤ (s.2 (P + 8) n).toInt ∧ b2 = hsr (s.2 (P + 2)) (zpl s P n) b3.toInt.toNat, fun _ _ b3 _ => (5000 - b3.toInt).toNat, ⟨rfl, rfl, by rw [i0]; decide, by rw [i0]; omega, by rw [i0]; rfl⟩, ?_⟩
  rintro b1 b2 b3 s' ⟨rfl, rfl, g1, g2, rfl⟩
  unfold v_114_4
  rw [zg_nn (x := b1) (a := P + 8) (by omega), zg_nn (x := b1) (a := P + 6) (by omega), en]
  refine ⟨fun h => ?_, fun h x1 hx1 => ?_⟩
  · have eh : (hsr (s'.2 (P + 2)) (zpl s' P n) b3.toInt.toNat &&& (63 : Int32)).toInt = (hix s' P n : Int) := by
      have e3 : b3.toInt.toNat = zln s' P n := by
        unfold zln
        omega
      rw [e3]
      unfold hix
      obtain ⟨j, hj, e⟩ := pk_andE (hsr (s'.2 (P + 2)) (zpl s' P n) (zln s' P n)) (m := 63) 6 (by decide)
      rw [e, nI_toInt (by omega)]
      omega
    generalize hsr (s'.2 (P + 2)) (zpl s' P n) b3.toInt.toNat &&& (63 : Int32) = hx at eh ⊢
    have hc0 := hC.1 (hix s' P n) hb
    rw [zg_nn (x := hx) (by omega), show hx.toInt.toNat = hix s' P n by omega]
    have sb : ∀ y : Int32, 0 ≤ y.toInt → y.toInt ≤ 4000 → (y - 1).toInt = y.toInt - 1 := fun y y1 y2 => i_sub rfl i1 (by omega)
    unfold vl_114_39
    refine ⟨fun c1 c2 c3 c4 c5 t => t = s' ∧ c1 = b1 ∧ c3 = hx ∧ (-1 ≤ c4.toInt ∧ c4.toInt < (n : Int) ∧ (0 ≤ c4.toInt → fw s' P c4.toInt.toNat ∧ hix s' P c4.toInt.toNat = hix s' P n)) ∧ (∀ w : Nat, c4.toInt < (w : Int) → w < n → fw s' P w → ¬ eqT s' P w n) ∧ 0 ≤ c5.toInt ∧ c5.toInt + c4.toInt < (n : Int) ∧ c5.toInt ≤ 4001, fun _ _ _ _ c5 _ => (5000 - c5.toInt).toNat, ⟨rfl, rfl, rfl, ?_, fun w h1 h2 h3 h4 => ?_, by rw [i0]; decide, ?_, by rw [i0]; decide⟩, ?_⟩
    · rw [sb _ hc0.1 (by have := hc0.2.1; omega)]
      obtain ⟨m1, m2, m3, -⟩ := hc0
      exact ⟨by omega, by omega, fun m => m3 (by omega)⟩
    · rw [sb _ hc0.1 (by have := hc0.2.1; omega)] at h1
      exact hc0.2.2.2 w (by omega) h2 h3 (hix_eq h4)
    · rw [i0, sb _ hc0.1 (by have := hc0.2.1; omega)]
      have := hc0.2.1
      omega
    · rintro c1 c2 c3 c4 c5 t ⟨rfl, rfl, rfl, k1, k2, k3, k4, k5⟩
      unfold v_114_39
      have fin : c4.toInt < 0 → v_114_61 (fun j => Zt (d + 1 + 8) (wd P j) j) P c1 c2 c3 c4 c5 t (fun v s' => ∃ r : Int32, v = some (.int r) ∧ ((s' = t ∧ ∃ u : Nat, u < n ∧ r.toInt = (u : Int) ∧ fw t P u ∧ eqT t P u n) ∨ (r = c1 ∧ (∀ u, u < n → fw t P u → ¬ eqT t P u n) ∧ s' = zr (zr t (P + 16) n (t.2 (P + 14) (hix t P n))) (P + 14) (hix t P n) (c1 + 1)))) := by
        intro hneg
        unfold v_114_61
        have ea : (c1 + 1).toInt = (n : Int) + 1 := by
          rw [i_add (x := c1) (y := 1) rfl i1 (by omega)]
          omega
        rw [zg_nn (x := c3) (by omega), show c3.toInt.toNat = hix t P n by omega]
        refine ⟨⟨hc0.1, by have := hc0.2.1; omega⟩, ?_⟩
        rintro s1 rfl
        refine ⟨by omega, ?_⟩
        rintro s2 rfl
        refine ⟨c1, rfl, Or.inr ⟨rfl, fun u h1 h2 => k2 u (by omega) h1 h2, ?_⟩⟩
        rw [zt_in (a := P + 14) (x := c3) (by rw [l7]; omega), zt_in (a := P + 16) (x := c1) (by rw [l8]; omega), en, show c3.toInt.toNat = hix t P n by omega]
      refine ⟨fun h1 => fin (by omega), fun h1 => ⟨fun h2 => fin h2, fun h2 => ?_⟩⟩
      have hc4 := k1.2.2 (by omega)
      have hlt : c4.toInt < (n : Int) := k1.2.1
      refine Zt.imp (zs_111 (d := d) (a1 := c4) (a3 := c1) hP (by omega) (by omega) (ho _ (by omega)) (ho _ (by omega))) ?_
      rintro v s2 ⟨rfl, r, rfl, hr⟩
      rw [en] at hr
      have hu := hC.2 c4.toInt.toNat (by omega) hc4.1
      refine ⟨r, rfl, fun h3 x4 hx4 => ?_, fun h3 => ⟨c4, rfl, Or.inl ⟨rfl, c4.toInt.toNat, by omega, by omega, hc4.1, ?_⟩⟩⟩
      · have e4 := hx4 (by omega)
        have ne : ¬ eqT s2 P c4.toInt.toNat n := by
          rcases hr with hr | hr
          · omega
          · exact hr.2
        rw [zg_nn (x := c4) (by omega)]
        have es := sb (s2.2 (P + 16) c4.toInt.toNat) hu.1 (by have := hu.2.1; omega)
        refine ⟨⟨rfl, rfl, rfl, ?_, fun w w1 w2 w3 w4 => ?_, by omega, by rw [es]; have := hu.2.1; omega, by omega⟩, by show (5000 - x4.toInt).toNat < (5000 - c5.toInt).toNat; omega⟩
        · rw [es, ← hc4.2]
          obtain ⟨m1, m2, m3, -⟩ := hu
          exact ⟨by omega, by omega, fun m => m3 (by omega)⟩
        · rw [es] at w1
          by_cases e1 : w < c4.toInt.toNat
          · exact hu.2.2.2 w (by omega) e1 w3 ((hix_eq w4).trans hc4.2.symm)
          · by_cases e2 : w = c4.toInt.toNat
            · rw [e2] at w4
              exact ne w4
            · exact k2 w (by omega) w2 w3 w4
      · rcases hr with hr | hr
        · exact hr.2
        · omega
  · have e1 := hx1 (by omega)
    refine ⟨⟨rfl, rfl, by omega, by omega, ?_⟩, by show (5000 - x1.toInt).toNat < (5000 - b3.toInt).toNat; omega⟩
    have ei : (s'.2 (P + 6) n + b3).toInt = (s'.2 (P + 6) n).toInt + b3.toInt := i_add rfl rfl (by omega)
    rw [zg_nn (x := s'.2 (P + 6) n + b3) (by omega), ei, show x1.toInt.toNat = b3.toInt.toNat + 1 by omega]
    show _ = hsr (s'.2 (P + 2)) (zpl s' P n) b3.toInt.toNat * 31 + s'.2 (P + 2) (zpl s' P n + b3.toInt.toNat)
    rw [show ((s'.2 (P + 6) n).toInt + b3.toInt).toNat = zpl s' P n + b3.toInt.toNat by unfold zpl; omega]
end ZLEX1
