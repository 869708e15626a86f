/-! ===== the class's reader: where it stands ===== -/
def RS (P : Nat) (s : zS) : RSt := ((s.1 P 14).toInt, (s.1 82 3).toInt)
/-- what a step of the reader over TYPES and E may write -/
def FZr (P : Nat) (s s' : zS) : Prop := (∀ a k, ¬ (a = 82 ∧ k = 3) → ¬ (a = P ∧ k = 14) → s'.1 a k = s.1 a k) ∧ ∀ a, ¬ a = P + 12 → s'.2 a = s.2 a
/-- kinds and places of n tokens -/
def TXp (K L : Int → Int) (n : Int) : Prop := (0 ≤ n ∧ n ≤ 4000) ∧ K n = 0 ∧ ∀ i, 0 ≤ i → i ≤ n → 0 ≤ L i ∧ L i ≤ 4000
def RDz (K L : Int → Int) (P : Nat) (n : Int) (s : zS) : Prop := KI (s.2 (P + 4)) = K ∧ KI (s.2 (P + 6)) = L ∧ 0 ≤ (s.1 82 3).toInt ∧ (s.1 82 3).toInt ≤ n
/-- a step: where it stands behind it -/
def PSx (K L : Int → Int) (P : Nat) (n : Int) (r : RSt) (s s' : zS) : Prop := RS P s' = r ∧ RDz K L P n s' ∧ FZr P s s'
section ZRD
variable {d P : Nat} {s s' s'' : zS} {K L : Int → Int} {n : Int} {a1 a2 a3 x : Int32} {r : RSt}
theorem zg_K {a : Nat} : (zg s a x).toInt = KI (s.2 a) x.toInt := by
  unfold zg KI
  by_cases h : 0 ≤ x.toInt
  · rw [if_pos h, if_pos h]
  · rw [if_neg h, if_neg h]
    exact i0
theorem FZr_rf : FZr P s s := ⟨fun _ _ _ _ => rfl, fun _ _ => rfl⟩
theorem FZr_tr (h : FZr P s s') (g : FZr P s' s'') : FZr P s s'' := ⟨fun a k h1 h2 => (g.1 a k h1 h2).trans (h.1 a k h1 h2), fun a h1 => (g.2 a h1).trans (h.2 a h1)⟩
theorem FZr_at : FZr P s (zf s 82 3 x) := ⟨fun a k h1 _ => by rw [zf_1, if_neg h1], fun _ _ => rfl⟩
theorem FZr_ft : FZr P s (zf s P 14 x) := ⟨fun a k _ h2 => by rw [zf_1, if_neg h2], fun _ _ => rfl⟩
theorem RS_at (hP : P = 3 ∨ P = 39) : RS P (zf s 82 3 x) = ((RS P s).1, x.toInt) := by
  unfold RS
  rw [zf_1, zf_1, if_neg (by omega), if_pos ⟨rfl, rfl⟩]
theorem RS_ft (hP : P = 3 ∨ P = 39) : RS P (zf s P 14 x) = (x.toInt, (RS P s).2) := by
  unfold RS
  rw [zf_1, zf_1, if_pos ⟨rfl, rfl⟩, if_neg (by omega)]
theorem RDz_at (hP : P = 3 ∨ P = 39) (h : RDz K L P n s) (h1 : 0 ≤ x.toInt ∧ x.toInt ≤ n) : RDz K L P n (zf s 82 3 x) := by
  refine ⟨h.1, h.2.1, ?_⟩
  rw [zf_1, if_pos ⟨rfl, rfl⟩]
  exact h1
theorem RDz_ft (hP : P = 3 ∨ P = 39) (h : RDz K L P n s) : RDz K L P n (zf s P 14 x) := by
  refine ⟨h.1, h.2.1, ?_⟩
  rw [zf_1, if_neg (by omega)]
  exact h.2.2
theorem PSx_tr {r' : RSt} (h : PSx K L P n r s s') (g : PSx K L P n r' s' s'') : PSx K L P n r' s s'' := ⟨g.1, g.2.1, FZr_tr h.2.2 g.2.2⟩
theorem RD_L (hT : TXp K L n) (h : RDz K L P n s) : 0 ≤ L (s.1 82 3).toInt ∧ L (s.1 82 3).toInt ≤ 4000 := hT.2.2 _ h.2.2.1 h.2.2.2
theorem RD_lt (hT : TXp K L n) (h : RDz K L P n s) (hk : ¬ K (s.1 82 3).toInt = 0) : (s.1 82 3).toInt + 1 ≤ n := by
  have h1 := h.2.2.2
  by_cases e : (s.1 82 3).toInt = n
  · rw [e, hT.2.1] at hk
    exact absurd rfl hk
  · omega
/-- expect -/
theorem zs_73 (hP : P = 3 ∨ P = 39) (hT : TXp K L n) (h : RDz K L P n s) (hk : ¬ a1.toInt = 0) : Zt (d + 9) (wd P 73) 73 [.ref 82, .int a1] s (fun v s' => v = none ∧ PSx K L P n (e_k K L a1.toInt (RS P s)) s s' ∧ s'.2 = s.2) := by
  refine zc_73 hP ?_
  have hL := RD_L hT h
  have hn := hT.1
  unfold v_73_0
  rw [zg_K, zg_K, h.1, h.2.1]
  by_cases h0 : (s.1 P 14).toInt = 0
  · refine ⟨fun w => absurd h0 w, fun _ => ⟨fun hc => ?_, fun hc x1 hx1 x2 hx2 s3 hs3 => ?_⟩⟩
    · unfold v_73_24
      refine ⟨fun w => absurd h0 w, fun _ x1 hx1 => ?_⟩
      have hlt := RD_lt hT h (by rw [hc]; exact hk)
      have e1 := hx1 (by have := h.2.2.1; omega)
      refine ⟨by have := h.2.2.1; omega, fun s2 hs2 => ⟨rfl, ⟨?_, ?_, ?_⟩, ?_⟩⟩
      · rw [hs2, RS_at hP, ek_y (σ := RS P s) h0 hc, e1]
        exact congrArg (fun z => (z, (s.1 82 3).toInt + 1)) h0
      · rw [hs2]
        exact RDz_at hP h (by have := h.2.2.1; omega)
      · rw [hs2]
        exact FZr_at
      · rw [hs2, zf_2]
    · have e1 := hx1 (by omega)
      have e2 := hx2 (by omega)
      unfold v_73_24
      have ef : (s3.1 P 14).toInt = 1 + 16 * L (s.1 82 3).toInt := by
        rw [hs3, zf_1, if_pos ⟨rfl, rfl⟩]
        omega
      refine ⟨fun _ => ⟨rfl, ⟨?_, ?_, ?_⟩, ?_⟩, fun w => by omega⟩
      · rw [hs3, RS_ft hP]
        unfold e_k
        rw [if_pos (show (RS P s).1 = 0 from h0), if_neg (show ¬ K (RS P s).2 = a1.toInt from hc), e2, e1]
        rfl
      · rw [hs3]
        exact RDz_ft hP h
      · rw [hs3]
        exact FZr_ft
      · rw [hs3, zf_2]
  · refine ⟨fun _ => ?_, fun w => absurd w h0⟩
    unfold v_73_24
    exact ⟨fun _ => ⟨rfl, ⟨(ek_f (σ := RS P s) h0).symm, h, FZr_rf⟩, rfl⟩, fun w => absurd w h0⟩
/-- took -/
theorem zs_72 (hP : P = 3 ∨ P = 39) (hT : TXp K L n) (h : RDz K L P n s) (hk : ¬ a1.toInt = 0) : Zt (d + 9) (wd P 72) 72 [.ref 82, .int a1] s (fun v s' => ∃ r : Int32, v = some (.int r) ∧ ((r.toInt = 1 ∧ t_k K a1.toInt (RS P s) = true ∧ PSx K L P n (a_d (RS P s)) s s') ∨ (r.toInt = 0 ∧ t_k K a1.toInt (RS P s) = false ∧ PSx K L P n (RS P s) s s')) ∧ s'.2 = s.2) := by
  refine zc_72 hP ?_
  have hn := hT.1
  have no : t_k K a1.toInt (RS P s) = false → v_72_13 (fun j => Zt (d + 8) (wd P j) j) P a1 s (fun v s' => ∃ r : Int32, v = some (.int r) ∧ ((r.toInt = 1 ∧ t_k K a1.toInt (RS P s) = true ∧ PSx K L P n (a_d (RS P s)) s s') ∨ (r.toInt = 0 ∧ t_k K a1.toInt (RS P s) = false ∧ PSx K L P n (RS P s) s s')) ∧ s'.2 = s.2) := by
    intro ht
    unfold v_72_13 v_72_14
    refine ⟨fun _ => ?_, fun w => absurd i0 w⟩
    unfold v_72_23
    exact ⟨Or.inl i0, 0, rfl, Or.inr ⟨i0, ht, rfl, h, FZr_rf⟩, rfl⟩
  unfold v_72_0
  rw [zg_K, h.1]
  refine ⟨fun w => no (tk_f (σ := RS P s) w), fun h0 => ⟨fun w => no (decide_eq_false (fun q => w q.2)), fun hc => ?_⟩⟩
  unfold v_72_14
  refine ⟨fun w => by rw [i1] at w; omega, fun _ x1 hx1 => ?_⟩
  have hlt := RD_lt hT h (by rw [hc]; exact hk)
  have e1 := hx1 (by have := h.2.2.1; omega)
  refine ⟨by have := h.2.2.1; omega, fun s2 hs2 => ?_⟩
  unfold v_72_23
  refine ⟨Or.inr i1, 1, rfl, Or.inl ⟨i1, decide_eq_true ⟨h0, hc⟩, ?_, ?_, ?_⟩, ?_⟩
  · rw [hs2, RS_at hP, e1]
    rfl
  · rw [hs2]
    exact RDz_at hP h (by have := h.2.2.1; omega)
  · rw [hs2]
    exact FZr_at
  · rw [hs2, zf_2]
/-- expectFirst -/
theorem zs_74 (hP : P = 3 ∨ P = 39) (hT : TXp K L n) (h : RDz K L P n s) : Zt (d + 9) (wd P 74) 74 [.ref 82, .int a1] s (fun v s' => v = none ∧ PSx K L P n (e_f K L (decide (¬ a1.toInt = 0)) (RS P s)) s s' ∧ s'.2 = s.2) := by
  refine zc_74 hP ?_
  have hL := RD_L hT h
  have hn := hT.1
  -- behind the fault
  have flt : ∀ (z : Int32) (t : zS), t = zf s P 14 z → ¬ z.toInt = 0 → e_f K L (decide (¬ a1.toInt = 0)) (RS P s) = (z.toInt, (RS P s).2) → v_74_50 (fun j => Zt (d + 8) (wd P j) j) P a1 t (fun v s' => v = none ∧ PSx K L P n (e_f K L (decide (¬ a1.toInt = 0)) (RS P s)) s s' ∧ s'.2 = s.2) := by
    intro z t ht hz he
    unfold v_74_50
    have ef : (t.1 P 14).toInt = z.toInt := by rw [ht, zf_1, if_pos ⟨rfl, rfl⟩]
    refine ⟨fun _ => ?_, fun w => by omega⟩
    unfold v_74_60
    refine ⟨rfl, ⟨?_, ?_, ?_⟩, ?_⟩
    · rw [ht, RS_ft hP, he]
    · rw [ht]
      exact RDz_ft hP h
    · rw [ht]
      exact FZr_ft
    · rw [ht, zf_2]
  have mid : (¬ (s.1 P 14).toInt = 0 ∨ a1.toInt = 0 ∨ ¬ K (s.1 82 3).toInt = 1) → v_74_26 (fun j => Zt (d + 8) (wd P j) j) P a1 s (fun v s' => v = none ∧ PSx K L P n (e_f K L (decide (¬ a1.toInt = 0)) (RS P s)) s s' ∧ s'.2 = s.2) := by
    intro hm
    unfold v_74_26
    rw [zg_K, zg_K, h.1, h.2.1]
    by_cases h0 : (s.1 P 14).toInt = 0
    · refine ⟨fun w => absurd h0 w, fun _ => ⟨fun hc => ?_, fun hc x1 hx1 x2 hx2 s3 hs3 => ?_⟩⟩
      · unfold v_74_50
        refine ⟨fun w => absurd h0 w, fun _ x1 hx1 => ?_⟩
        have hlt := RD_lt hT h (by rw [hc]; decide)
        have e1 := hx1 (by have := h.2.2.1; omega)
        have ha : a1.toInt = 0 := by
          rcases hm with w | w | w
          · exact absurd h0 w
          · exact w
          · exact absurd hc w
        refine ⟨by have := h.2.2.1; omega, fun s2 hs2 => ?_⟩
        unfold v_74_60
        refine ⟨rfl, ⟨?_, ?_, ?_⟩, ?_⟩
        · rw [hs2, RS_at hP, e1]
          unfold e_f
          rw [if_pos (show (RS P s).1 = 0 from h0), if_pos (show K (RS P s).2 = 1 from hc), decide_eq_false (show ¬ ¬ a1.toInt = 0 from fun w => w ha), if_neg (by decide)]
          exact congrArg (fun z => (z, (s.1 82 3).toInt + 1)) h0
        · rw [hs2]
          exact RDz_at hP h (by have := h.2.2.1; omega)
        · rw [hs2]
          exact FZr_at
        · rw [hs2, zf_2]
      · have e1 := hx1 (by omega)
        have e2 := hx2 (by omega)
        refine flt x2 s3 hs3 (by omega) ?_
        unfold e_f
        rw [if_pos (show (RS P s).1 = 0 from h0), if_neg (show ¬ K (RS P s).2 = 1 from hc), e2, e1]
        rfl
    · refine ⟨fun _ => ?_, fun w => absurd w h0⟩
      unfold v_74_50
      refine ⟨fun _ => ?_, fun w => absurd w h0⟩
      unfold v_74_60
      exact ⟨rfl, ⟨(ef_f (σ := RS P s) h0).symm, h, FZr_rf⟩, rfl⟩
  unfold v_74_0
  rw [zg_K, zg_K, h.1, h.2.1]
  refine ⟨fun w => mid (Or.inl w), fun h0 => ⟨fun w => mid (Or.inr (Or.inl w)), fun ha => ⟨fun w => mid (Or.inr (Or.inr w)), fun hc x1 hx1 x2 hx2 s3 hs3 => ?_⟩⟩⟩
  have e1 := hx1 (by omega)
  have e2 := hx2 (by omega)
  have ef : (s3.1 P 14).toInt = x2.toInt := by rw [hs3, zf_1, if_pos ⟨rfl, rfl⟩]
  unfold v_74_26
  refine ⟨fun _ => flt x2 s3 hs3 (by omega) ?_, fun w => by omega⟩
  unfold e_f
  rw [if_pos (show (RS P s).1 = 0 from h0), if_pos (show K (RS P s).2 = 1 from hc), decide_eq_true ha, if_pos rfl, e2, e1]
  rfl
end ZRD
