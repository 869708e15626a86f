/-! ===== the class reads signs: tokens ===== -/
section ZS0
variable {s : zS} {a b i j k q : Nat} {v x : Int32}
theorem zf_1 : (zf s a k v).1 b q = if b = a ∧ q = k then v else s.1 b q := rfl
theorem zf_2 : (zf s a k v).2 = s.2 := rfl
theorem zr_1 : (zr s a i v).1 = s.1 := rfl
theorem zr_2 : (zr s a i v).2 b j = if b = a ∧ j = i then v else s.2 b j := by
  show (if b = a then upd (s.2 a) i v else s.2 b) j = _
  by_cases h : b = a
  · subst h
    rw [if_pos rfl]
    unfold upd
    by_cases h2 : j = i
    · rw [if_pos h2, if_pos ⟨rfl, h2⟩]
    · rw [if_neg h2, if_neg (fun w => h2 w.2)]
  · rw [if_neg h, if_neg (fun w => h w.1)]
theorem zt_in (h : 0 ≤ x.toInt ∧ x.toInt < (lim a : Int)) : zt s a x v = zr s a x.toInt.toNat v := if_pos h
theorem za_in (h : (s.1 a 2).toInt < (lim a : Int)) : za s a v = zf (zr s a (s.1 a 2).toInt.toNat v) a 2 (s.1 a 2 + 1) := if_pos h
theorem zg_nn (h : 0 ≤ x.toInt) : zg s a x = s.2 a x.toInt.toNat := if_pos h
end ZS0
theorem limP {P : Nat} (hP : P = 3 ∨ P = 39) : lim (P + 2) = 4000 ∧ lim (P + 4) = 4002 ∧ lim (P + 6) = 4002 ∧ lim (P + 8) = 4002 ∧ lim (P + 10) = 4002 ∧ lim (P + 12) = 4002 ∧ lim (P + 14) = 64 ∧ lim (P + 16) = 4002 := by
  rcases hP with rfl | rfl <;> decide +kernel
/-- two words are spelled alike -/
def eqp (sg : Nat → Int32) (p l q m : Nat) : Prop := l = m ∧ ∀ i, i < l → sg (p + i) = sg (q + i)
theorem eqp_rf {sg : Nat → Int32} {p l : Nat} : eqp sg p l p l := ⟨rfl, fun _ _ => rfl⟩
theorem eqp_sy {sg : Nat → Int32} {p l q m : Nat} (h : eqp sg p l q m) : eqp sg q m p l := ⟨h.1.symm, fun i hi => (h.2 i (by have := h.1; omega)).symm⟩
theorem eqp_tr {sg : Nat → Int32} {p l q m r n : Nat} (h : eqp sg p l q m) (g : eqp sg q m r n) : eqp sg p l r n := ⟨h.1.trans g.1, fun i hi => (h.2 i hi).trans (g.2 i (by have := h.1; omega))⟩
def zpl (s : zS) (P t : Nat) : Nat := (s.2 (P + 6) t).toInt.toNat
def zln (s : zS) (P t : Nat) : Nat := (s.2 (P + 8) t).toInt.toNat
def eqT (s : zS) (P t u : Nat) : Prop := eqp (s.2 (P + 2)) (zpl s P t) (zln s P t) (zpl s P u) (zln s P u)
/-- a token's place and length are numbers of the text -/
def okT (s : zS) (P t : Nat) : Prop := (0 ≤ (s.2 (P + 6) t).toInt ∧ (s.2 (P + 6) t).toInt ≤ 4000) ∧ 0 ≤ (s.2 (P + 8) t).toInt ∧ (s.2 (P + 8) t).toInt ≤ 4000
section ZLEX
variable {d P : Nat} {s : zS} {a1 a2 a3 : Int32}
/-- same -/
theorem zs_111 (hP : P = 3 ∨ P = 39) (h1 : 0 ≤ a1.toInt) (h3 : 0 ≤ a3.toInt) (o1 : okT s P a1.toInt.toNat) (o3 : okT s P a3.toInt.toNat) : Zt (d + 9) (wd P 111) 111 [.ref (P + 1), .int a1, .ref (P + 1), .int a3] s (fun v s' => s' = s ∧ ∃ r : Int32, v = some (.int r) ∧ ((r.toInt = 1 ∧ eqT s P a1.toInt.toNat a3.toInt.toNat) ∨ (r.toInt = 0 ∧ ¬ eqT s P a1.toInt.toNat a3.toInt.toNat))) := by
  refine zc_111 hP ?_
  unfold v_111_0
  rw [zg_nn h1, zg_nn h3, zg_nn h1, zg_nn h3]
  obtain ⟨⟨p1, p2⟩, p3, p4⟩ := o1
  obtain ⟨⟨q1, q2⟩, q3, q4⟩ := o3
  refine ⟨fun he => ?_, fun he => ⟨rfl, 0, rfl, Or.inr ⟨i0, fun w => he ?_⟩⟩⟩
  · unfold vl_111_25
    refine ⟨fun b1 b3 b4 b5 b6 b7 s' => s' = s ∧ b4 = s.2 (P + 8) a1.toInt.toNat ∧ b5 = s.2 (P + 6) a1.toInt.toNat ∧ b6 = s.2 (P + 6) a3.toInt.toNat ∧ 0 ≤ b7.toInt ∧ b7.toInt ≤ 4000 ∧ ∀ i : Nat, (i : Int) < b7.toInt → s.2 (P + 2) (zpl s P a1.toInt.toNat + i) = s.2 (P + 2) (zpl s P a3.toInt.toNat + i), fun _ _ _ _ _ b7 _ => (4000 - b7.toInt).toNat, ⟨rfl, rfl, rfl, rfl, by rw [i0]; decide, by rw [i0]; decide, fun i hi => by rw [i0] at hi; omega⟩, ?_⟩
    rintro b1 b3 b4 b5 b6 b7 s' ⟨rfl, rfl, rfl, rfl, g1, g2, g3⟩
    unfold v_111_25
    refine ⟨fun h => ⟨rfl, 1, rfl, Or.inl ⟨i1, ?_, fun i hi => g3 i ?_⟩⟩, fun h x1 hx1 x2 hx2 => ?_⟩
    · unfold zln
      omega
    · unfold zln at hi
      omega
    · have e1 := hx1 (by omega)
      have e2 := hx2 (by omega)
      rw [zg_nn (x := x1) (by omega), zg_nn (x := x2) (by omega)]
      have f1 : x1.toInt.toNat = zpl s' P a1.toInt.toNat + b7.toInt.toNat := by
        unfold zpl
        omega
      have f2 : x2.toInt.toNat = zpl s' P a3.toInt.toNat + b7.toInt.toNat := by
        unfold zpl
        omega
      rw [f1, f2]
      refine ⟨fun hq x3 hx3 => ?_, fun hq => ⟨rfl, 0, rfl, Or.inr ⟨i0, fun w => hq ?_⟩⟩⟩
      · have e3 := hx3 (by omega)
        refine ⟨⟨rfl, rfl, rfl, rfl, by omega, by omega, fun i hi => ?_⟩, by show (4000 - x3.toInt).toNat < (4000 - b7.toInt).toNat; omega⟩
        by_cases ei : (i : Int) = b7.toInt
        · rw [show i = b7.toInt.toNat by omega]
          exact Int32.toInt_inj.mp hq
        · exact g3 i (by omega)
      · rw [w.2 b7.toInt.toNat (by unfold zln; omega)]
  · have := w.1
    unfold zln at this
    omega
/-- the letters of the kept words: type struct interface func return main -/
def kwl (w : Nat) : List Int := ([[], [116, 121, 112, 101], [115, 116, 114, 117, 99, 116], [105, 110, 116, 101, 114, 102, 97, 99, 101], [102, 117, 110, 99], [114, 101, 116, 117, 114, 110], [109, 97, 105, 110]] : List (List Int)).getD w []
/-- a word is spelled so -/
def spm (sg : Nat → Int32) (k l w : Nat) : Prop := l = (kwl w).length ∧ ∀ i, i < l → (sg (k + i)).toInt = (kwl w).getD i 0
theorem kwl_ch : ∀ w, w < 7 → 1 ≤ w → ∀ i, i < (kwl w).length → (xch w (nI i)).toInt = (kwl w).getD i 0 := by decide +kernel
theorem kwl_len : ∀ w, w < 7 → 1 ≤ w → xsl.getD w 0 = (kwl w).length ∧ (xnS w).toInt = ((kwl w).length : Int) ∧ (kwl w).length ≤ 12 := by decide +kernel
theorem e6 {w : Nat} (h : w < 7) (h1 : 1 ≤ w) : 1000000 + w = 1000001 ∨ 1000000 + w = 1000002 ∨ 1000000 + w = 1000003 ∨ 1000000 + w = 1000004 ∨ 1000000 + w = 1000005 ∨ 1000000 + w = 1000006 := by omega
/-- spells -/
theorem zs_116 {w : Nat} (hP : P = 3 ∨ P = 39) (hw : w < 7) (hw1 : 1 ≤ w) (h1 : 0 ≤ a1.toInt ∧ a1.toInt ≤ 4000) (h2 : 0 ≤ a2.toInt) : Zt (d + 9) (wd P 116) 116 [.ref (P + 1), .int a1, .int a2, .ref (1000000 + w)] s (fun v s' => s' = s ∧ ∃ r : Int32, v = some (.int r) ∧ ((r.toInt = 1 ∧ spm (s.2 (P + 2)) a1.toInt.toNat a2.toInt.toNat w) ∨ (r.toInt = 0 ∧ ¬ spm (s.2 (P + 2)) a1.toInt.toNat a2.toInt.toNat w))) := by
  refine zc_116 hP (e6 hw hw1) ?_
  obtain ⟨k1, k2, k3⟩ := kwl_len w hw hw1
  unfold v_116_0
  rw [show (1000000 + w) % 1000000 = w by omega, k2]
  refine ⟨fun he => ?_, fun he => ⟨rfl, 0, rfl, Or.inr ⟨i0, fun q => he ?_⟩⟩⟩
  · unfold vl_116_8
    refine ⟨fun b1 b2 b4 s' => s' = s ∧ b1 = a1 ∧ 0 ≤ b4.toInt ∧ b4.toInt ≤ (kwl w).length ∧ ∀ i : Nat, (i : Int) < b4.toInt → (s.2 (P + 2) (a1.toInt.toNat + i)).toInt = (kwl w).getD i 0, fun _ _ b4 _ => (100 - b4.toInt).toNat, ⟨rfl, rfl, by rw [i0]; decide, by rw [i0]; omega, fun i hi => by rw [i0] at hi; omega⟩, ?_⟩
    rintro b1 b2 b4 s' ⟨rfl, rfl, g1, g2, g3⟩
    unfold v_116_8
    rw [show (1000000 + w) % 1000000 = w by omega, k2, k1]
    refine ⟨fun h => ⟨rfl, 1, rfl, Or.inl ⟨i1, by omega, fun i hi => g3 i (by omega)⟩⟩, fun h x1 hx1 => ⟨i_in (x := b4) rfl ⟨g1, by omega⟩, ?_⟩⟩
    have e1 := hx1 (by omega)
    have e4 : b4 = nI b4.toInt.toNat := by
      apply Int32.toInt_inj.mp
      rw [nI_toInt (by omega)]
      omega
    have ec := kwl_ch w hw hw1 b4.toInt.toNat (by omega)
    rw [← e4] at ec
    rw [zg_nn (x := x1) (by omega), show x1.toInt.toNat = b1.toInt.toNat + b4.toInt.toNat by omega, ec]
    refine ⟨fun hq x2 hx2 => ?_, fun hq => ⟨rfl, 0, rfl, Or.inr ⟨i0, fun q => hq (q.2 b4.toInt.toNat (by omega))⟩⟩⟩
    have e2 := hx2 (by omega)
    refine ⟨⟨rfl, rfl, by omega, by omega, fun i hi => ?_⟩, by show (100 - x2.toInt).toNat < (100 - b4.toInt).toNat; omega⟩
    by_cases ei : (i : Int) = b4.toInt
    · rw [show i = b4.toInt.toNat by omega]
      exact hq
    · exact g3 i (by omega)
  · have := q.1
    omega
/-- which of the kept words: 3 .. 8, or 1 -/
def kwF (sg : Nat → Int32) (k l : Nat) (r : Int) : Prop := (∃ w, w < 7 ∧ 1 ≤ w ∧ spm sg k l w ∧ r = (w : Int) + 2) ∨ (r = 1 ∧ ∀ w, w < 7 → 1 ≤ w → ¬ spm sg k l w)
theorem kwl_0 : ∀ w, w < 7 → 1 ≤ w → 1 ≤ (kwl w).length ∧ (kwl w).getD 0 0 = ([0, 116, 115, 105, 102, 114, 109] : List Int).getD w 0 := by decide +kernel
theorem kwl_d : ∀ w, w < 7 → 1 ≤ w → ∀ w', w' < 7 → 1 ≤ w' → ([0, 116, 115, 105, 102, 114, 109] : List Int).getD w 0 = ([0, 116, 115, 105, 102, 114, 109] : List Int).getD w' 0 → w = w' := by decide +kernel
theorem spm_0 {sg : Nat → Int32} {k l w : Nat} (h : spm sg k l w) (hw : w < 7) (hw1 : 1 ≤ w) : (sg k).toInt = ([0, 116, 115, 105, 102, 114, 109] : List Int).getD w 0 := by
  obtain ⟨g1, g2⟩ := kwl_0 w hw hw1
  have := h.2 0 (by rw [h.1]; exact g1)
  rw [Nat.add_zero] at this
  rw [this, g2]
theorem kwF_no {sg : Nat → Int32} {k l : Nat} (h : ∀ w, w < 7 → 1 ≤ w → ¬ (sg k).toInt = ([0, 116, 115, 105, 102, 114, 109] : List Int).getD w 0) : kwF sg k l 1 := Or.inr ⟨rfl, fun w hw hw1 q => h w hw hw1 (spm_0 q hw hw1)⟩
theorem kwF_un {sg : Nat → Int32} {k l : Nat} {r r' : Int} (h : kwF sg k l r) (h' : kwF sg k l r') : r = r' := by
  rcases h with ⟨w, w1, w2, w3, w4⟩ | ⟨w1, w2⟩
  · rcases h' with ⟨u, u1, u2, u3, u4⟩ | ⟨u1, u2⟩
    · have := kwl_d w w1 w2 u u1 u2 ((spm_0 w3 w1 w2).symm.trans (spm_0 u3 u1 u2))
      omega
    · exact absurd w3 (u2 w w1 w2)
  · rcases h' with ⟨u, u1, u2, u3, u4⟩ | ⟨u1, u2⟩
    · exact absurd u3 (w2 u u1 u2)
    · omega
theorem zs_115 (hP : P = 3 ∨ P = 39) (h1 : 0 ≤ a1.toInt ∧ a1.toInt ≤ 4000) (h2 : 0 ≤ a2.toInt) : Zt (d + 10) (wd P 115) 115 [.ref (P + 1), .int a1, .int a2] s (fun v s' => s' = s ∧ ∃ r : Int32, v = some (.int r) ∧ kwF (s.2 (P + 2)) a1.toInt.toNat a2.toInt.toNat r.toInt) := by
  refine zc_115 (d := d + 1) hP ?_
  unfold v_115_0
  rw [zg_nn h1.1]
  have one : ∀ w, w < 7 → 1 ≤ w → (s.2 (P + 2) a1.toInt.toNat).toInt = ([0, 116, 115, 105, 102, 114, 109] : List Int).getD w 0 → ∀ (y : Int32), y.toInt = (w : Int) + 2 → Zt (d + 9) (wd P 116) 116 [.ref (P + 1), .int a1, .int a2, .ref (1000000 + w)] s (fun v1 s2 => ∃ x3 : Int32, v1 = some (.int x3) ∧ ((x3.toInt = 0 → (s2 = s ∧ ∃ r : Int32, some (Value.int 1) = some (.int r) ∧ kwF (s.2 (P + 2)) a1.toInt.toNat a2.toInt.toNat r.toInt)) ∧ (¬ (x3.toInt = 0) → (s2 = s ∧ ∃ r : Int32, some (Value.int y) = some (.int r) ∧ kwF (s.2 (P + 2)) a1.toInt.toNat a2.toInt.toNat r.toInt)))) := by
    intro w hw hw1 hc y hy
    refine Zt.imp (zs_116 hP hw hw1 h1 h2) ?_
    rintro v s' ⟨rfl, r, rfl, hr⟩
    refine ⟨r, rfl, fun h0 => ⟨rfl, 1, rfl, Or.inr ⟨i1, fun u u1 u2 q => ?_⟩⟩, fun h0 => ⟨rfl, y, rfl, Or.inl ⟨w, hw, hw1, ?_, hy⟩⟩⟩
    · have := kwl_d w hw hw1 u u1 u2 (hc.symm.trans (spm_0 q u1 u2))
      subst this
      rcases hr with hr | hr
      · omega
      · exact hr.2 q
    · rcases hr with hr | hr
      · exact hr.2
      · omega
  have no : (¬ (s.2 (P + 2) a1.toInt.toNat).toInt = 102 ∧ ¬ (s.2 (P + 2) a1.toInt.toNat).toInt = 105 ∧ ¬ (s.2 (P + 2) a1.toInt.toNat).toInt = 109 ∧ ¬ (s.2 (P + 2) a1.toInt.toNat).toInt = 114 ∧ ¬ (s.2 (P + 2) a1.toInt.toNat).toInt = 115 ∧ ¬ (s.2 (P + 2) a1.toInt.toNat).toInt = 116) → kwF (s.2 (P + 2)) a1.toInt.toNat a2.toInt.toNat 1 := by
    intro h
    refine kwF_no (fun w hw hw1 q => ?_)
    have : w = 1 ∨ w = 2 ∨ w = 3 ∨ w = 4 ∨ w = 5 ∨ w = 6 := by omega
    obtain ⟨n1, n2, n3, n4, n5, n6⟩ := h
    rcases this with rfl | rfl | rfl | rfl | rfl | rfl
    · exact n6 q
    · exact n5 q
    · exact n2 q
    · exact n1 q
    · exact n4 q
    · exact n3 q
  exact ⟨fun h => ⟨rfl, 1, rfl, by rw [i1]; exact no h⟩, fun h => one 4 (by decide) (by decide) h 6 (by decide), fun h => one 3 (by decide) (by decide) h 5 (by decide), fun h => one 6 (by decide) (by decide) h 8 (by decide), fun h => one 5 (by decide) (by decide) h 7 (by decide), fun h => one 2 (by decide) (by decide) h 4 (by decide), fun h => one 1 (by decide) (by decide) h 3 (by decide)⟩
end ZLEX
