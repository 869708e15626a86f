/-! ===== behindPoint ===== -/
/-- node y the same in both -/
def NE (s s' : yS) (y : Nat) : Prop := ∀ p, s'.2.1 p y = s.2.1 p y
section NEQ
variable {s s' s'' : yS} {y : Nat}
theorem NE_fr {N : Nat} (h : Fr N s s') (hy : y < N) : NE s s' y := fun _ => Fr_at h hy
theorem NE_tr (h : NE s s' y) (h' : NE s' s'' y) : NE s s'' y := fun p => (h' p).trans (h p)
theorem NE_sa {p i : Nat} {v : Int32} (h : NE s s' y) (hy : ¬ y = i) : NE s (sa s' p i v) y := fun q => by
  rw [sa_2, if_neg (fun e => hy e.2)]
  exact h q
theorem NE_sf {k : Nat} {v : Int32} (h : NE s s' y) : NE s (sf s' k v) y := h
theorem NE_SR (h : NE s s' y) : SR s s' y := ⟨h _, h _, h _, h _, h _, h _, fun _ => h _, fun _ => h _⟩
end NEQ
/-- behindPoint so far -/
def BI (b n m : Nat) (e : Int32) (s u : yS) : Prop := Rd b n u ∧ Fr (s.1 26).toInt.toNat (sa s 228 e.toInt.toNat (s.1 26)) u ∧ u.1 27 = s.1 27 ∧ (s.1 26).toInt + 1 ≤ (u.1 26).toInt ∧
  ((u.1 8).toInt = 0 → (3 * (u.1 26).toInt - 2 * (u.1 7).toInt ≤ 3 * (s.1 26).toInt - 2 * (s.1 7).toInt ∧ 4 * (cm b u : Int) - (u.1 7).toInt ≤ 4 * (cm b s : Int) - (s.1 7).toInt) ∧ (s.1 7).toInt < (u.1 7).toInt ∧ (u.2.1 225 (s.1 26).toInt.toNat).toInt = -1 ∧ u.2.1 227 (s.1 26).toInt.toNat = e ∧ 4002 * (b : Int) ≤ (u.2.1 223 (s.1 26).toInt.toNat).toInt ∧ (u.2.1 223 (s.1 26).toInt.toNat).toInt < 4002 * (b : Int) + n ∧ bdE b n u (isE b n u (m + 1)) (u.1 26).toInt.toNat (s.1 26).toInt.toNat) ∧
  (¬ (u.1 8).toInt = 0 → (u.1 26).toInt ≤ 4002 * (b : Int) + 2740 ∧ (u.1 7).toInt ≤ 4002 * (b : Int) + n + 40)
/-- the same ahead of the last ) -/
def BJ (b n m : Nat) (e : Int32) (s u : yS) : Prop := Rd b n u ∧ Fr (s.1 26).toInt.toNat (sa s 228 e.toInt.toNat (s.1 26)) u ∧ u.1 27 = s.1 27 ∧ (s.1 26).toInt + 1 ≤ (u.1 26).toInt ∧
  ((u.1 8).toInt = 0 → (3 * (u.1 26).toInt - 2 * (u.1 7).toInt ≤ 3 * (s.1 26).toInt - 2 * (s.1 7).toInt ∧ 4 * (cm b u : Int) - (u.1 7).toInt ≤ 4 * (cm b s : Int) - (s.1 7).toInt + 1) ∧ (s.1 7).toInt < (u.1 7).toInt ∧ (u.2.1 225 (s.1 26).toInt.toNat).toInt = -1 ∧ u.2.1 227 (s.1 26).toInt.toNat = e ∧ 4002 * (b : Int) ≤ (u.2.1 223 (s.1 26).toInt.toNat).toInt ∧ (u.2.1 223 (s.1 26).toInt.toNat).toInt < 4002 * (b : Int) + n ∧ bdE b n u (isE b n u (m + 1)) (u.1 26).toInt.toNat (s.1 26).toInt.toNat) ∧
  (¬ (u.1 8).toInt = 0 → (u.1 26).toInt ≤ 4002 * (b : Int) + 2740 ∧ (u.1 7).toInt ≤ 4002 * (b : Int) + n + 40)
theorem bdE_sf {b n m hi e k : Nat} {s : yS} {v : Int32} (hl : e < hi) (h : bdE b n s (isE b n s m) hi e) : bdE b n (sf s k v) (isE b n (sf s k v) m) hi e := bdE_eq (s := s) (s' := sf s k v) rfl rfl hl (fun _ _ _ => ⟨⟨rfl, rfl, rfl, rfl, rfl, rfl, fun _ => rfl, fun _ => rfl⟩, fun _ => rfl⟩) (fun _ _ _ _ _ q => isE_sf q) h
theorem Fr_228 {N : Nat} {s u : yS} {i : Nat} {v : Int32} (h : Fr N (sa s 228 i v) u) : ∀ b n W, Lx b n W s → Lx b n W u := fun b n W hL => Fr_Lx h (Lx_eq hL (by funext j; rw [sa_2, if_neg (fun e => by omega)]) (by funext j; rw [sa_2, if_neg (fun e => by omega)]) (by funext j; rw [sa_2, if_neg (fun e => by omega)]))
theorem bEnd {b n W m d : Nat} {e c : Int32} {s u : yS} (hL : Lx b n W s) (hR : Rd b n s) (hN : 4002 * (b : Int) ≤ (s.1 26).toInt) (hd : 3 * ((s.1 26).toInt - 4002 * (b : Int)) - 2 * ((s.1 7).toInt - 4002 * (b : Int)) ≤ 58) (h : BJ b n m e s u) : Tot (d + 2) 167 [.ref 213, .int c] u (fun v s' => v = none ∧ BI b n m e s s') := by
  obtain ⟨h1, h2, h3, h4, h5, h6⟩ := h
  have hb := hL.1
  have hn := hL.2.1
  have hLu := Fr_228 h2 b n W hL
  refine Tot.imp (s_167 hLu h1) ?_
  rintro v s4 ⟨rfl, k4⟩
  refine ⟨rfl, ?_⟩
  rcases k4 with ⟨kg, x', hx', hlt', rfl⟩ | ⟨-, g1, g2⟩
  · refine ⟨Rd_at h1 hx' hlt' hb hn, Fr_sf h2 (by decide), h3, h4, fun q => ?_, fun q => absurd kg.1 q⟩
    obtain ⟨z1, z2, z3, z4, z5, z6, z7⟩ := h5 q
    exact ⟨by show (3 * (u.1 26).toInt - 2 * x'.toInt ≤ _) ∧ (4 * (cm b u : Int) - x'.toInt ≤ _); omega, by show _ < x'.toInt; omega, z3, z4, z5, z6, bdE_sf (by show _ < (u.1 26).toInt.toNat; omega) z7⟩
  · by_cases q : (u.1 8).toInt = 0
    · obtain ⟨x', a1, a2', rfl⟩ := g2 q
      have h9 := h1.2.2.2.2 q
      obtain ⟨z1, z2, -⟩ := h5 q
      exact ⟨(Rd_ft h1 a1 a2' : Rd b n (sf u 8 x')), Fr_sf h2 (by decide), h3, h4, fun q2 => absurd (show x'.toInt = 0 from q2) (by omega), fun _ => ⟨by show (u.1 26).toInt ≤ _; omega, by show (u.1 7).toInt ≤ _; omega⟩⟩
    · have e4 := g1 q
      subst e4
      exact ⟨h1, h2, h3, h4, fun q2 => absurd q2 q, h6⟩
theorem nw3 {N : Nat} {u s1 : yS} {t1 e p k26 : Int32} (hw : Nw u s1 t1 N) (he : e.toInt.toNat < N) : Fr N (sa u 228 e.toInt.toNat k26) (sa (sa (sa s1 227 N e) 228 e.toInt.toNat k26) 223 N p) ∧
    (∀ q ∈ [221, 222, 224, 225, 226, 229, 230], (sa (sa (sa s1 227 N e) 228 e.toInt.toNat k26) 223 N p).2.1 q N = s1.2.1 q N) ∧ (sa (sa (sa s1 227 N e) 228 e.toInt.toNat k26) 223 N p).2.1 227 N = e ∧ (sa (sa (sa s1 227 N e) 228 e.toInt.toNat k26) 223 N p).2.1 223 N = p := by
  refine ⟨Fr_sa (Fr_both (Fr_sa (Fr_nw hw) (by decide) ⟨Nat.le_refl _, rfl⟩)) (by decide) ⟨Nat.le_refl _, rfl⟩, fun q hq => ?_, ?_, ?_⟩
  · have q1 : ¬ q = 223 := fun h => by subst h; revert hq; decide
    have q2 : ¬ q = 228 := fun h => by subst h; revert hq; decide
    have q3 : ¬ q = 227 := fun h => by subst h; revert hq; decide
    rw [sa_2, if_neg (fun h => q1 h.1), sa_2, if_neg (fun h => q2 h.1), sa_2, if_neg (fun h => q3 h.1)]
  · rw [sa_2, if_neg (fun h => by omega), sa_2, if_neg (fun h => by omega), sa_2, if_pos ⟨rfl, rfl⟩]
  · rw [sa_2, if_pos ⟨rfl, rfl⟩]
/-- behindPoint at a METHOD's ( -/
def MI (b n : Nat) (e : Int32) (s u : yS) : Prop := Rd b n u ∧ Fr (s.1 26).toInt.toNat (sa s 228 e.toInt.toNat (s.1 26)) u ∧ u.1 27 = s.1 27 ∧ (s.1 26).toInt + 1 ≤ (u.1 26).toInt ∧
  ((u.1 8).toInt = 0 → (3 * (u.1 26).toInt - 2 * (u.1 7).toInt ≤ 3 * (s.1 26).toInt - 2 * (s.1 7).toInt - 1 ∧ 4 * (cm b u : Int) - (u.1 7).toInt ≤ 4 * (cm b s : Int) - (s.1 7).toInt + 2) ∧ (s.1 7).toInt < (u.1 7).toInt ∧ (u.2.1 225 (s.1 26).toInt.toNat).toInt = -1 ∧ u.2.1 227 (s.1 26).toInt.toNat = e ∧ 4002 * (b : Int) ≤ (u.2.1 223 (s.1 26).toInt.toNat).toInt ∧ (u.2.1 223 (s.1 26).toInt.toNat).toInt < 4002 * (b : Int) + n ∧
    (u.2.1 221 (s.1 26).toInt.toNat).toInt = 4 ∧ tkN b n u (u.2.1 222 (s.1 26).toInt.toNat).toInt ∧ (u.2.1 224 (s.1 26).toInt.toNat).toInt = -1 ∧ (u.2.1 226 (s.1 26).toInt.toNat).toInt = 0 ∧ yqs b n u 11 (u.2.1 229 (s.1 26).toInt.toNat).toInt (u.2.1 230 (s.1 26).toInt.toNat).toInt ((s.1 26).toInt.toNat + 1) (u.1 26).toInt.toNat) ∧
  (¬ (u.1 8).toInt = 0 → (u.1 26).toInt ≤ 4002 * (b : Int) + 2736 ∧ (u.1 7).toInt ≤ 4002 * (b : Int) + n + 38)
theorem b136 {b n W m d : Nat} {e a1 a2 a3 : Int32} {s u : yS} (hE : EP b n W m (d + 3)) (hL : Lx b n W s) (hR : Rd b n s) (hD : (s.1 27).toInt = 10 - (m : Int)) (hm : m ≤ 10) (hN : 4002 * (b : Int) ≤ (s.1 26).toInt) (hd : 3 * ((s.1 26).toInt - 4002 * (b : Int)) - 2 * ((s.1 7).toInt - 4002 * (b : Int)) ≤ 58 - 4 * (m : Int)) (hf : (s.1 8).toInt = 0) (he : 0 ≤ e.toInt ∧ e.toInt < (s.1 26).toInt) (h : MI b n e s u) : w_177_136 (Tot (d + 4)) a1 a2 a3 (s.1 26) u (fun v s' => v = some (.int (s.1 26)) ∧ BI b n m e s s') := by
  obtain ⟨h1, h2, h3, h4, h5, h6⟩ := h
  have hb := hL.1
  have hn := hL.2.1
  have hLu := Fr_228 h2 b n W hL
  have hA0 := hR.2.2.2.2 hf
  have hNb : (s.1 26).toInt ≤ 4002 * (b : Int) + 2690 := by omega
  have fin : ∀ u' : yS, BJ b n m e s u' → w_177_157 (Tot (d + 4)) a1 a2 a3 (s.1 26) u' (fun v s' => v = some (.int (s.1 26)) ∧ BI b n m e s s') := by
    intro u' hu'
    unfold w_177_157 w_177_160
    refine Tot.imp (Tot.mono (by omega) (bEnd (d := 0) hL hR hN (by omega) hu')) ?_
    rintro v s1 ⟨rfl, q⟩
    exact ⟨rfl, rfl, q⟩
  unfold w_177_136
  refine Tot.imp (Tot.mono (by omega) (s_167 (d := 0) (c := 40) hLu h1)) ?_
  rintro v s4 ⟨rfl, k4⟩
  refine ⟨rfl, ?_⟩
  -- a state with a fault
  have bad : ∀ u' : yS, Rd b n u' → Fr (s.1 26).toInt.toNat (sa s 228 e.toInt.toNat (s.1 26)) u' → u'.1 27 = s.1 27 → (s.1 26).toInt + 1 ≤ (u'.1 26).toInt → ¬ (u'.1 8).toInt = 0 → (u'.1 26).toInt ≤ 4002 * (b : Int) + 2738 → (u'.1 7).toInt ≤ 4002 * (b : Int) + n + 38 → Tot (d + 4) 164 [.ref 213, .int 41] u' (fun v4 s3 => ∃ x5, v4 = some (.int x5) ∧ ((¬ (x5.toInt = 0) → w_177_157 (Tot (d + 4)) a1 a2 a3 (s.1 26) s3 (fun v s' => v = some (.int (s.1 26)) ∧ BI b n m e s s')) ∧ (x5.toInt = 0 → Tot (d + 4) 176 [.ref 213] s3 (fun v7 s6 => ∃ x8, v7 = some (.int x8) ∧ ((0 ≤ (s.1 26).toInt ∧ (s.1 26).toInt < 12006) ∧ (∀ s9, s9 = sa s6 224 (s.1 26).toInt.toNat x8 → (0 ≤ (s.1 26).toInt ∧ (s.1 26).toInt < 12006) ∧ (∀ s10, s10 = sa s9 226 (s.1 26).toInt.toNat (s9.1 28) → w_177_157 (Tot (d + 4)) a1 a2 a3 (s.1 26) s10 (fun v s' => v = some (.int (s.1 26)) ∧ BI b n m e s s')))))))) := by
    intro u' r f g27 g26 g8 b26 b7
    have hL' := Fr_228 f b n W hL
    refine Tot.imp (Tot.mono (by omega) (s_164 (d := 0) (c := 41) hL' r)) ?_
    rintro v s5 ⟨rfl, x5, rfl, hx⟩
    have hx := hx.resolve_left (fun q => g8 q.2.1)
    refine ⟨x5, rfl, fun q => absurd hx.1 q, fun _ => ?_⟩
    have hr := r
    unfold Rd at hr
    refine Tot.imp (Tot.mono (by omega) (s_176f (d := 0) hL' r g8 (by rw [g27]; omega) (by omega) (by omega))) ?_
    rintro v s6 ⟨rfl, hT⟩
    have r6 := FT_Rd hT r g8 (by omega)
    obtain ⟨t1, t2, t3, t4, t5⟩ := hT
    refine ⟨_, rfl, by omega, ?_⟩
    rintro s9 rfl
    refine ⟨by omega, ?_⟩
    rintro s10 rfl
    refine fin _ ⟨r6, Fr_sa (Fr_sa (Fr_tr f t1 (by omega)) (by decide) ⟨Nat.le_refl _, rfl⟩) (by decide) ⟨Nat.le_refl _, rfl⟩, t5.trans g27, by show _ ≤ (s6.1 26).toInt; omega, fun q => ?_, fun _ => ⟨by show (s6.1 26).toInt ≤ _; omega, by show (s6.1 7).toInt ≤ _; omega⟩⟩
    have q : (s6.1 8).toInt = 0 := q
    rw [t2] at q
    exact absurd q g8
  rcases k4 with ⟨kg, x', hx', hlt', rfl⟩ | ⟨-, g1, g2⟩
  · have u8 := kg.1
    obtain ⟨z1, z2, z3, z4, z5, z6, z7, z8, z9, z10, z11⟩ := h5 u8
    have hAu := h1.2.2.2.2 u8
    have uB : (u.1 26).toInt ≤ 4002 * (b : Int) + 2690 := by omega
    have dv1 := dvb (b := b) hN (by omega)
    have dv2 := dvb (b := b) (x := (u.1 26).toInt) (by omega) (by omega)
    have r4 := Rd_at h1 hx' hlt' hb hn
    have f4 : Fr (s.1 26).toInt.toNat (sa s 228 e.toInt.toNat (s.1 26)) (sf u 7 x') := Fr_sf h2 (by decide)
    have hL4 := Fr_228 f4 b n W hL
    refine Tot.imp (Tot.mono (by omega) (s_164 (d := 0) (c := 41) hL4 r4)) ?_
    rintro v s5 ⟨rfl, x5, rfl, hx⟩
    refine ⟨x5, rfl, fun _ => ?_, fun _ => ?_⟩
    · refine fin _ ⟨r4, f4, h3, h4, fun _ => ⟨by show (3 * (u.1 26).toInt - 2 * x'.toInt ≤ _) ∧ (4 * (cm b u : Int) - x'.toInt ≤ _); omega, by show _ < x'.toInt; omega, z3, z4, z5, z6, Or.inr (Or.inr ⟨z7, tkN_eq (s := u) (s' := sf u 7 x') rfl rfl z8, (u.1 26).toInt.toNat, by omega, Nat.le_refl _, yqs_eq (s := u) (s' := sf u 7 x') rfl rfl (fun _ _ _ => ⟨⟨rfl, rfl, rfl, rfl, rfl, rfl, fun _ => rfl, fun _ => rfl⟩, rfl⟩) z11, [], by decide, z10, z9, List.Pairwise.nil, fun c hc => by cases hc⟩)⟩, fun q => absurd u8 q⟩
    · have q26 : (sf u 7 x').1 26 = u.1 26 := rfl
      have q7 : (sf u 7 x').1 7 = x' := rfl
      refine Tot.imp (Tot.mono (by omega) (s_176 (d := d) (s := sf u 7 x') hE hL4 r4 u8 (by show (u.1 27).toInt = _; rw [h3]; exact hD) hm (by rw [q26]; omega) (by rw [q26, q7]; omega))) ?_
      rintro v s6 ⟨f6, rfl, y1, y2, y3, y4, y5, y6⟩
      have qc : cm b (sf u 7 x') = cm b u := rfl
      rw [q26] at y2 y4 y5
      rw [q7, qc] at y5
      refine ⟨_, rfl, by omega, ?_⟩
      rintro s9 rfl
      refine ⟨by omega, ?_⟩
      rintro s10 rfl
      have f6' : Fr (s.1 26).toInt.toNat (sa s 228 e.toInt.toNat (s.1 26)) s6 := Fr_tr f4 y2 (by omega)
      have fT := Fr_sa (v := (sa s6 224 (s.1 26).toInt.toNat f6).1 28) (Fr_sa (v := f6) f6' (by decide : (224 : Nat) ∈ ndB) ⟨Nat.le_refl _, rfl⟩) (by decide : (226 : Nat) ∈ ndB) ⟨Nat.le_refl _, rfl⟩
      refine fin _ ⟨y1, fT, y3.trans h3, by show _ ≤ (s6.1 26).toInt; omega, fun q => ?_, y6⟩
      obtain ⟨k1, k2, k3⟩ := y5 q
      have keep : ∀ p, ¬ p = 224 → ¬ p = 226 → (sa (sa s6 224 (s.1 26).toInt.toNat f6) 226 (s.1 26).toInt.toNat ((sa s6 224 (s.1 26).toInt.toNat f6).1 28)).2.1 p (s.1 26).toInt.toNat = u.2.1 p (s.1 26).toInt.toNat := by
        intro p p1 p2
        rw [sa_2, if_neg (fun h => p2 h.1), sa_2, if_neg (fun h => p1 h.1), Fr_at y2 (by omega)]
        rfl
      have r15 : (sa (sa s6 224 (s.1 26).toInt.toNat f6) 226 (s.1 26).toInt.toNat ((sa s6 224 (s.1 26).toInt.toNat f6).1 28)).2.1 215 = u.2.1 215 := by
        rw [Fr_row fT (by decide), Fr_row h2 (by decide)]
      have r17 : (sa (sa s6 224 (s.1 26).toInt.toNat f6) 226 (s.1 26).toInt.toNat ((sa s6 224 (s.1 26).toInt.toNat f6).1 28)).2.1 217 = u.2.1 217 := by
        rw [Fr_row fT (by decide), Fr_row h2 (by decide)]
      refine ⟨by show (3 * (s6.1 26).toInt - 2 * (s6.1 7).toInt ≤ _) ∧ (4 * (cm b s6 : Int) - (s6.1 7).toInt ≤ _); omega, by show _ < (s6.1 7).toInt; omega, by rw [keep 225 (by decide) (by decide)]; exact z3, by rw [keep 227 (by decide) (by decide)]; exact z4, by rw [keep 223 (by decide) (by decide)]; exact z5, by rw [keep 223 (by decide) (by decide)]; exact z6, Or.inr (Or.inr ⟨by rw [keep 221 (by decide) (by decide)]; exact z7, by rw [keep 222 (by decide) (by decide)]; exact tkN_eq r15 r17 z8, (u.1 26).toInt.toNat, by omega, by show _ ≤ (s6.1 26).toInt.toNat; omega, ?_, ?_⟩)⟩
      · rw [keep 229 (by decide) (by decide), keep 230 (by decide) (by decide)]
        refine yqs_eq r15 r17 (fun z g1 g2 => ?_) z11
        have ne : NE u (sa (sa s6 224 (s.1 26).toInt.toNat f6) 226 (s.1 26).toInt.toNat ((sa s6 224 (s.1 26).toInt.toNat f6).1 28)) z := NE_sa (NE_sa (NE_tr (s' := sf u 7 x') (fun _ => rfl) (NE_fr y2 g2)) (by omega)) (by omega)
        exact ⟨NE_SR ne, ne 225⟩
      · have e24 : (sa (sa s6 224 (s.1 26).toInt.toNat f6) 226 (s.1 26).toInt.toNat ((sa s6 224 (s.1 26).toInt.toNat f6).1 28)).2.1 224 (s.1 26).toInt.toNat = f6 := by
          rw [sa_2, if_neg (fun h => by omega), sa_2, if_pos ⟨rfl, rfl⟩]
        have e26 : (sa (sa s6 224 (s.1 26).toInt.toNat f6) 226 (s.1 26).toInt.toNat ((sa s6 224 (s.1 26).toInt.toNat f6).1 28)).2.1 226 (s.1 26).toInt.toNat = s6.1 28 := by
          rw [sa_2, if_pos ⟨rfl, rfl⟩]
          rfl
        rw [e24, e26]
        have ne : ∀ z, (u.1 26).toInt.toNat ≤ z → NE s6 (sa (sa s6 224 (s.1 26).toInt.toNat f6) 226 (s.1 26).toInt.toNat ((sa s6 224 (s.1 26).toInt.toNat f6).1 28)) z := fun z hz => NE_sa (NE_sa (fun _ => rfl) (by omega)) (by omega)
        refine eqs_eq (s := s6) (fun z g1 g2 => ne z g1 225) (fun l h c g1 g2 g3 => ?_) k3
        refine isE_eq (by rw [Fr_row fT (by decide), Fr_row f6' (by decide)]) (by rw [Fr_row fT (by decide), Fr_row f6' (by decide)]) (m + 1) l h c (fun y w1 w2 => ?_) g3
        exact ⟨NE_SR (ne y (by omega)), fun _ => ⟨ne y (by omega) 225, ne y (by omega) 228⟩⟩
  · by_cases q : (u.1 8).toInt = 0
    · obtain ⟨x', a1, a2', rfl⟩ := g2 q
      have h9 := h1.2.2.2.2 q
      obtain ⟨z1, z2, -⟩ := h5 q
      exact bad _ (Rd_ft h1 a1 a2') (Fr_sf h2 (by decide)) h3 h4 (by show ¬ x'.toInt = 0; omega) (by show (u.1 26).toInt ≤ _; omega) (by show (u.1 7).toInt ≤ _; omega)
    · have e4 := g1 q
      subst e4
      have := h6 q
      exact bad _ h1 h2 h3 h4 q (by omega) (by omega)
