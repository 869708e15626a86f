/-! ===== the class: Stock with all that its Rows hold: begin, holds, addMethod, openMethod ===== -/
/-- holds: with how many there are -/
def v_103_q (T : Nat → List Value → zS → (Option Value → zS → Prop) → Prop) (P : Nat) (e : Nat) (a2 : Int32) (s : zS) (Q : Option Value → zS → Prop) : Prop := 0 < a2.toInt ∧ v_103_8 T P e a2 ((s.1 e 2) / a2) s Q
set_option maxRecDepth 20000 in
theorem m_103_q_3e200 {d d0 : Nat} (hd : d = d0 + 8)  {a2 : Int32} {s : zS} {Q : Option Value → zS → Prop}  (h : v_103_q (fun j => Zt d (wd2 3 j) j) 3 200  a2 s Q) : Zn d [] [] ([(197, 5, 3), (197, 6, 21), (75, 0, 3), (75, 1, 21), (75, 2, 25)] : zW) ([(197, 5, 3), (197, 6, 21), (75, 0, 3), (75, 1, 21), (75, 2, 25)] : zW) xL_8 8 (some .boolean) xE_103 (xE_103.drop 0) [.ref 197, .ref 200, .int a2, .null, .null, .null, .null, .null, .null, .null, .null] [] s Q := by
  obtain ⟨h0, h⟩ := h
  refine zn_ld rfl rfl rfl ?_
  refine zn_brP rfl rfl ⟨fun hcn => ?_, fun hcn => ?_⟩
  · exact absurd ((i_le (x := a2) (y := 0) rfl (show (0 : Int32).toInt = 0 by decide)).mp hcn) (by omega)
  · refine zn_ld rfl rfl rfl ?_
    refine zn_get (v := .int (s.1 200 2)) rfl (zv_I (a := 200) rfl rfl) ?_
    refine zn_ld rfl rfl rfl ?_
    refine zn_c [.int ((s.1 200 2) / a2)] xo_idiv rfl (o_idiv (fun q => by rw [q] at h0; exact absurd h0 (by decide))) ?_
    refine zn_go rfl ?_
    exact m_103_8_3e200 hd h
theorem zq_103q_3e200 {d : Nat} {a2 : Int32} {s : zS} {Q : Option Value → zS → Prop} (h : v_103_q (fun j => Zt (d + 8) (wd2 3 j) j) 3 200 a2 s Q) : Zt (d + 9) ([(197, 5, 3), (197, 6, 21), (75, 0, 3), (75, 1, 21), (75, 2, 25)] : zW) 103 [.ref 197, .ref 200, .int a2] s Q := zt_of (E := xE_103) (L := xL_8) (ml := 8) (ret := some .boolean) rfl rfl rfl (m_103_q_3e200 rfl h)
set_option maxRecDepth 20000 in
theorem m_103_q_3e202 {d d0 : Nat} (hd : d = d0 + 8)  {a2 : Int32} {s : zS} {Q : Option Value → zS → Prop}  (h : v_103_q (fun j => Zt d (wd2 3 j) j) 3 202  a2 s Q) : Zn d [] [] ([(197, 5, 3), (197, 6, 21), (75, 0, 3), (75, 1, 21), (75, 2, 25)] : zW) ([(197, 5, 3), (197, 6, 21), (75, 0, 3), (75, 1, 21), (75, 2, 25)] : zW) xL_8 8 (some .boolean) xE_103 (xE_103.drop 0) [.ref 197, .ref 202, .int a2, .null, .null, .null, .null, .null, .null, .null, .null] [] s Q := by
  obtain ⟨h0, h⟩ := h
  refine zn_ld rfl rfl rfl ?_
  refine zn_brP rfl rfl ⟨fun hcn => ?_, fun hcn => ?_⟩
  · exact absurd ((i_le (x := a2) (y := 0) rfl (show (0 : Int32).toInt = 0 by decide)).mp hcn) (by omega)
  · refine zn_ld rfl rfl rfl ?_
    refine zn_get (v := .int (s.1 202 2)) rfl (zv_I (a := 202) rfl rfl) ?_
    refine zn_ld rfl rfl rfl ?_
    refine zn_c [.int ((s.1 202 2) / a2)] xo_idiv rfl (o_idiv (fun q => by rw [q] at h0; exact absurd h0 (by decide))) ?_
    refine zn_go rfl ?_
    exact m_103_8_3e202 hd h
theorem zq_103q_3e202 {d : Nat} {a2 : Int32} {s : zS} {Q : Option Value → zS → Prop} (h : v_103_q (fun j => Zt (d + 8) (wd2 3 j) j) 3 202 a2 s Q) : Zt (d + 9) ([(197, 5, 3), (197, 6, 21), (75, 0, 3), (75, 1, 21), (75, 2, 25)] : zW) 103 [.ref 197, .ref 202, .int a2] s Q := zt_of (E := xE_103) (L := xL_8) (ml := 8) (ret := some .boolean) rfl rfl rfl (m_103_q_3e202 rfl h)
set_option maxRecDepth 20000 in
theorem m_103_q_39e200 {d d0 : Nat} (hd : d = d0 + 8)  {a2 : Int32} {s : zS} {Q : Option Value → zS → Prop}  (h : v_103_q (fun j => Zt d (wd2 39 j) j) 39 200  a2 s Q) : Zn d [] [] ([(197, 5, 39), (197, 6, 57), (75, 0, 39), (75, 1, 57), (75, 2, 61)] : zW) ([(197, 5, 39), (197, 6, 57), (75, 0, 39), (75, 1, 57), (75, 2, 61)] : zW) xL_8 8 (some .boolean) xE_103 (xE_103.drop 0) [.ref 197, .ref 200, .int a2, .null, .null, .null, .null, .null, .null, .null, .null] [] s Q := by
  obtain ⟨h0, h⟩ := h
  refine zn_ld rfl rfl rfl ?_
  refine zn_brP rfl rfl ⟨fun hcn => ?_, fun hcn => ?_⟩
  · exact absurd ((i_le (x := a2) (y := 0) rfl (show (0 : Int32).toInt = 0 by decide)).mp hcn) (by omega)
  · refine zn_ld rfl rfl rfl ?_
    refine zn_get (v := .int (s.1 200 2)) rfl (zv_I (a := 200) rfl rfl) ?_
    refine zn_ld rfl rfl rfl ?_
    refine zn_c [.int ((s.1 200 2) / a2)] xo_idiv rfl (o_idiv (fun q => by rw [q] at h0; exact absurd h0 (by decide))) ?_
    refine zn_go rfl ?_
    exact m_103_8_39e200 hd h
theorem zq_103q_39e200 {d : Nat} {a2 : Int32} {s : zS} {Q : Option Value → zS → Prop} (h : v_103_q (fun j => Zt (d + 8) (wd2 39 j) j) 39 200 a2 s Q) : Zt (d + 9) ([(197, 5, 39), (197, 6, 57), (75, 0, 39), (75, 1, 57), (75, 2, 61)] : zW) 103 [.ref 197, .ref 200, .int a2] s Q := zt_of (E := xE_103) (L := xL_8) (ml := 8) (ret := some .boolean) rfl rfl rfl (m_103_q_39e200 rfl h)
set_option maxRecDepth 20000 in
theorem m_103_q_39e202 {d d0 : Nat} (hd : d = d0 + 8)  {a2 : Int32} {s : zS} {Q : Option Value → zS → Prop}  (h : v_103_q (fun j => Zt d (wd2 39 j) j) 39 202  a2 s Q) : Zn d [] [] ([(197, 5, 39), (197, 6, 57), (75, 0, 39), (75, 1, 57), (75, 2, 61)] : zW) ([(197, 5, 39), (197, 6, 57), (75, 0, 39), (75, 1, 57), (75, 2, 61)] : zW) xL_8 8 (some .boolean) xE_103 (xE_103.drop 0) [.ref 197, .ref 202, .int a2, .null, .null, .null, .null, .null, .null, .null, .null] [] s Q := by
  obtain ⟨h0, h⟩ := h
  refine zn_ld rfl rfl rfl ?_
  refine zn_brP rfl rfl ⟨fun hcn => ?_, fun hcn => ?_⟩
  · exact absurd ((i_le (x := a2) (y := 0) rfl (show (0 : Int32).toInt = 0 by decide)).mp hcn) (by omega)
  · refine zn_ld rfl rfl rfl ?_
    refine zn_get (v := .int (s.1 202 2)) rfl (zv_I (a := 202) rfl rfl) ?_
    refine zn_ld rfl rfl rfl ?_
    refine zn_c [.int ((s.1 202 2) / a2)] xo_idiv rfl (o_idiv (fun q => by rw [q] at h0; exact absurd h0 (by decide))) ?_
    refine zn_go rfl ?_
    exact m_103_8_39e202 hd h
theorem zq_103q_39e202 {d : Nat} {a2 : Int32} {s : zS} {Q : Option Value → zS → Prop} (h : v_103_q (fun j => Zt (d + 8) (wd2 39 j) j) 39 202 a2 s Q) : Zt (d + 9) ([(197, 5, 39), (197, 6, 57), (75, 0, 39), (75, 1, 57), (75, 2, 61)] : zW) 103 [.ref 197, .ref 202, .int a2] s Q := zt_of (E := xE_103) (L := xL_8) (ml := 8) (ret := some .boolean) rfl rfl rfl (m_103_q_39e202 rfl h)
theorem zc_103q {d P e : Nat} (hP : P = 3 ∨ P = 39) (he : e = 200 ∨ e = 202) {a2 : Int32} {s : zS} {Q : Option Value → zS → Prop} (h : v_103_q (fun j => Zt (d + 8) (wd2 P j) j) P e a2 s Q) : Zt (d + 9) (wd2 P 103) 103 [.ref 197, .ref e, .int a2] s Q := by
  rcases hP with rfl | rfl
  · rcases he with rfl | rfl
    · exact zq_103q_3e200 h
    · exact zq_103q_3e202 h
  · rcases he with rfl | rfl
    · exact zq_103q_39e200 h
    · exact zq_103q_39e202 h
section ZVD
variable {ar : Int → Int} {P d e : Nat} {s s' u w : zS} {nx nx' x b : Int} {A B D : List Int} {ts Ts Us : List (List Int)} {b' : Int} {e' : Nat} {a1 a2 a3 : Int32}
/-- begin -/
theorem zi_102 (hP : P = 3 ∨ P = 39) (h1 : sq a1) (h2 : sq a2) (h3 : sq a3) : Zt (d + 9) (wd2 P 102) 102 [.ref 197, .int a1, .int a2, .int a3] s (fun v s' => v = none ∧ s'.1 = s.1 ∧ (∀ r, ¬ r = 204 → s'.2 r = s.2 r) ∧ s'.2 204 0 = a1 ∧ s'.2 204 1 = a2 ∧ s'.2 204 2 = a3 ∧ ∀ i : Nat, i < 6 → (s'.2 204 (3 + i)).toInt = 0) := by
  have l4 : (lim 204 : Int) = 9 := by decide +kernel
  have z0 : (0 : Int32).toInt = 0 := by decide
  have z1 : (1 : Int32).toInt = 1 := by decide
  have z2 : (2 : Int32).toInt = 2 := by decide
  refine zc_102 hP ?_
  unfold v_102_0
  refine ⟨h1, fun s1 hs1 => ⟨h2, fun s2 hs2 => ⟨h3, fun s3 hs3 => ?_⟩⟩⟩
  have r3 : ∀ r, ¬ r = 204 → s3.2 r = s.2 r := fun r hr => by rw [hs3, zt_o hr, hs2, zt_o hr, hs1, zt_o hr]
  have f3 : s3.1 = s.1 := by rw [hs3, zt_1, hs2, zt_1, hs1, zt_1]
  have c3 : ∀ j, s3.2 204 j = if j = 2 then a3 else if j = 1 then a2 else if j = 0 then a1 else s.2 204 j := fun j => by
    rw [hs3, zt_in (by rw [l4, z2]; decide), zr_2, hs2, zt_in (by rw [l4, z1]; decide), zr_2, hs1, zt_in (by rw [l4, z0]; decide), zr_2, z0, z1, z2]
    simp only [true_and]
    rfl
  refine ⟨fun _ _ _ c4 u => u.1 = s.1 ∧ (∀ r, ¬ r = 204 → u.2 r = s.2 r) ∧ u.2 204 0 = a1 ∧ u.2 204 1 = a2 ∧ u.2 204 2 = a3 ∧ ∃ i : Nat, c4.toInt = (i : Int) ∧ i ≤ 6 ∧ ∀ i' : Nat, i' < i → (u.2 204 (3 + i')).toInt = 0, fun _ _ _ c4 _ => (6 - c4.toInt).toNat, ⟨f3, r3, by rw [c3]; rfl, by rw [c3]; rfl, by rw [c3]; rfl, 0, by decide, by decide, fun i' h => absurd h (Nat.not_lt_zero _)⟩, ?_⟩
  rintro c1 c2 c3' c4 u ⟨e3, e4, e5, e6, e7, i, i1, i2, i3⟩
  unfold v_102_17
  refine ⟨fun y => ⟨rfl, e3, e4, e5, e6, e7, fun i' hi' => i3 i' (by omega)⟩, fun y x1 hx1 s4 hs4 x3 hx3 => ?_⟩
  have ex1 := hx1 (by omega)
  have := hx3 (by omega)
  have c4' : ∀ j, s4.2 204 j = if j = 3 + i then 0 else u.2 204 j := fun j => by
    rw [hs4, zt_in (by rw [l4]; omega), zr_2]
    by_cases ej : j = 3 + i
    · rw [if_pos ⟨rfl, by omega⟩, if_pos ej]
    · rw [if_neg (fun q => ej (by have := q.2; omega)), if_neg ej]
  refine ⟨⟨by rw [hs4, zt_1]; exact e3, fun r hr => by rw [hs4, zt_o hr]; exact e4 r hr, by rw [c4', if_neg (by omega)]; exact e5, by rw [c4', if_neg (by omega)]; exact e6, by rw [c4', if_neg (by omega)]; exact e7, i + 1, by omega, by omega, fun i' hi' => ?_⟩, by dsimp only; omega⟩
  rw [c4']
  by_cases ei : i' = i
  · rw [if_pos (by omega)]
    decide
  · rw [if_neg (by omega)]
    exact i3 i' (by omega)
/-- one TYPE at one place -/
theorem isR_1 {a : Int → Int} : ∀ (A B : List Int) (k : Int), isR a k A → isR a k B → (∀ (i : Nat) (c d : Int), A[i]? = some c → B[i]? = some d → c = d) → A = B
  | [], [], _, _, _, _ => rfl
  | [], d :: B, k, h, g, _ => absurd (show k = 0 from h) (by have := g.1; omega)
  | c :: A, [], k, h, g, _ => absurd (show k = 0 from g) (by have := h.1; omega)
  | c :: A, d :: B, k, h, g, e => by
    have e0 : c = d := e 0 c d rfl rfl
    subst e0
    rw [isR_1 A B _ h.2.2 g.2.2 (fun i x y hx hy => e (i + 1) x y hx hy)]
theorem MDt_1 (h : MDt ar P s nx x A) (g : MDt ar P s nx' x B) : A = B := isR_1 A B 1 h.1.1 g.1.1 (fun i c d hc hd => (h.2.2 i c hc).symm.trans (g.2.2 i d hd))
/-- places of TYPES that were made: equal places, equal TYPES -/
theorem IRt_1 (hT : IRt ar P s nx ts) {i j : Nat} (hi : ts[i]? = some A) (hj : ts[j]? = some B) (he : KI (s.2 198) (i : Int) = KI (s.2 198) (j : Int)) : A = B := by
  have h1 := hT.2 i A hi
  rw [he] at h1
  exact MDt_1 h1 (hT.2 j B hj)
/-- TYPES told are one if their places are -/
theorem TLc_1 (hT : IRt ar P s nx ts) (hn : ts.Nodup) (h : TLc s ts e b Ts) (g : TLc s ts e' b' Us) : (∀ q : Nat, 2 ≤ q → q < 9 → KI (s.2 e) (b + (q : Int)) = KI (s.2 e') (b' + (q : Int))) ↔ Ts = Us := by
  obtain ⟨⟨h1, h1'⟩, h2, h3⟩ := h
  obtain ⟨⟨g1, g1'⟩, g2, g3⟩ := g
  constructor
  · intro hq
    have hl : Ts.length = Us.length := by
      have e2 : KI (s.2 e) (b + 2) = KI (s.2 e') (b' + 2) := hq 2 (by decide) (by decide)
      rw [h1, g1] at e2
      omega
    refine List.ext_getElem? (fun i => ?_)
    by_cases hi : i < Ts.length
    · obtain ⟨A, hA⟩ : ∃ A, Ts[i]? = some A := ⟨_, List.getElem?_eq_getElem hi⟩
      obtain ⟨B, hB⟩ : ∃ B, Us[i]? = some B := ⟨_, List.getElem?_eq_getElem (by omega)⟩
      obtain ⟨j, j1, j2⟩ := h2 i A hA
      obtain ⟨j', k1, k2⟩ := g2 i B hB
      have e3 := hq (3 + i) (by omega) (by omega)
      rw [show b + ((3 + i : Nat) : Int) = b + 3 + (i : Int) by omega, show b' + ((3 + i : Nat) : Int) = b' + 3 + (i : Int) by omega, j2, k2] at e3
      rw [hA, hB, IRt_1 hT j1 k1 e3]
    · rw [List.getElem?_eq_none (by omega), List.getElem?_eq_none (by omega)]
  · intro hE q q2 q9
    subst hE
    by_cases e2 : q = 2
    · subst e2
      exact h1.trans g1.symm
    · obtain ⟨i, rfl⟩ : ∃ i : Nat, q = 3 + i := ⟨q - 3, by omega⟩
      rw [show b + ((3 + i : Nat) : Int) = b + 3 + (i : Int) by omega, show b' + ((3 + i : Nat) : Int) = b' + 3 + (i : Int) by omega]
      by_cases hi : i < Ts.length
      · obtain ⟨A, hA⟩ : ∃ A, Ts[i]? = some A := ⟨_, List.getElem?_eq_getElem hi⟩
        obtain ⟨j, j1, j2⟩ := h2 i A hA
        obtain ⟨j', k1, k2⟩ := g2 i A hA
        rw [j2, k2, nd_inj ts j j' A hn j1 k1]
      · rw [h3 i (by omega) (by omega), g3 i (by omega) (by omega)]
/-- the fresh one: its TYPE at x -/
def FRd (ar : Int → Int) (P : Nat) (s : zS) (ts : List (List Int)) (Y : Cal) : Prop := TQi ar Y.1 ∧ (0 ≤ (s.2 204 0).toInt ∧ (s.2 204 0).toInt ≤ 100000) ∧ WDz P s (s.2 204 0).toInt Y.1 ∧ (s.2 204 1).toInt = Y.2.1 ∧ TLc s ts 204 0 Y.2.2
end ZVD
section ZVD2
variable {ar : Int → Int} {P d e k : Nat} {s : zS} {nx : Int} {ts : List (List Int)} {L : List Cal} {Y : Cal} {a2 : Int32}
set_option maxHeartbeats 2000000 in
/-- holds -/
theorem zi_103 (hP : P = 3 ∨ P = 39) (hek : (e = 200 ∧ k = 10) ∨ (e = 202 ∧ k = 9)) (hA : KI (s.2 (P + 22)) = ar) (h6 : ∀ c, 0 ≤ ar c ∧ ar c ≤ 7) (h2 : a2.toInt = (k : Int)) (hT : IRt ar P s nx ts) (hnx : nx ≤ 18738) (hnd : ts.Nodup) (hS : (s.1 e 2).toInt = (k : Int) * (L.length : Int)) (hl : L.length ≤ 151) (hL : ∀ (c : Nat) (X : Cal), L[c]? = some X → CAc ar P s nx ts e ((k : Int) * (c : Int)) X) (hF : FRd ar P s ts Y) : Zt (d + 18) (wd2 P 103) 103 [.ref 197, .ref e, .int a2] s (fun v s' => s' = s ∧ ∃ r : Int32, v = some (.int r) ∧ ((r.toInt = 0 ∧ ¬ Y ∈ L) ∨ (¬ r.toInt = 0 ∧ Y ∈ L))) := by
  have he : e = 200 ∨ e = 202 := by omega
  have hk : k = 10 ∨ k = 9 := by omega
  obtain ⟨F1, F2, F3, F4, F5⟩ := hF
  have hk0 : (0 : Int) < (k : Int) := by omega
  have hL0 : 0 ≤ (k : Int) * (L.length : Int) := by rcases hk with rfl | rfl <;> omega
  refine zc_103q (d := d + 9) hP he ⟨by omega, ?_⟩
  obtain ⟨q0, hq0⟩ : ∃ q0, q0 = s.1 e 2 / a2 := ⟨_, rfl⟩
  have eq0 : q0.toInt = (L.length : Int) := by
    rw [hq0, i_dv (x := s.1 e 2) (y := a2) hS h2 hk0 hL0]
    rcases hk with rfl | rfl <;> omega
  rw [← hq0]
  clear hq0
  unfold v_103_8
  refine ⟨fun c2 c3 c4 u => c2 = a2 ∧ c3 = q0 ∧ u = s ∧ ∃ i : Nat, c4.toInt = (i : Int) ∧ i ≤ L.length ∧ ∀ j, j < i → ¬ L[j]? = some Y, fun _ _ c4 _ => (q0.toInt - c4.toInt).toNat, ⟨rfl, rfl, rfl, 0, by decide, Nat.zero_le _, fun j hj => absurd hj (Nat.not_lt_zero _)⟩, ?_⟩
  rintro c2 c3 c4 u ⟨e2, e3, e4, i, i1, i2, i3⟩
  subst e2 e3 e4
  unfold v_103_11 v_103_41
  refine ⟨fun y => ⟨rfl, 0, rfl, Or.inl ⟨by decide, fun hm => ?_⟩⟩, fun y x1 hx1 x2 hx2 => ?_⟩
  · obtain ⟨j, hj⟩ := List.getElem?_of_mem hm
    have := (List.getElem?_eq_some_iff.mp hj).1
    exact i3 j (by omega) hj
  have hiL : i < L.length := by omega
  obtain ⟨X, hX⟩ : ∃ X, L[i]? = some X := ⟨_, List.getElem?_eq_getElem hiL⟩
  obtain ⟨X1, X2, X3⟩ := hL i X hX
  have em : c4.toInt * c2.toInt = (k : Int) * (i : Int) := by rw [i1, h2, Int.mul_comm]
  have hkb : 0 ≤ (k : Int) * (i : Int) ∧ (k : Int) * (i : Int) ≤ 1510 := by rcases hk with rfl | rfl <;> omega
  rw [em] at hx1
  have ex1 := hx1 (by omega)
  have ex2 := hx2 (by omega)
  rw [ex1] at ex2
  clear hx1 hx2 em
  have eb : (zg u e x1).toInt = KI (u.2 e) ((k : Int) * (i : Int)) := by rw [zg_K, ex1]
  have ew : (zg u e x2).toInt = X.2.1 := by rw [zg_K, ex2, X2]
  have e40 : zg u 204 0 = u.2 204 0 := by
    unfold zg
    rw [if_pos (by decide)]
    rfl
  have e41 : zg u 204 1 = u.2 204 1 := by
    unfold zg
    rw [if_pos (by decide)]
    rfl
  have inner : ∀ t0 : Int32, ((t0.toInt = 0 ∧ ¬ (X.2.1 = Y.2.1 ∧ X.1 = Y.1)) ∨ (t0.toInt = 1 ∧ X.2.1 = Y.2.1 ∧ X.1 = Y.1)) → v_103_42 (fun j => Zt (d + 9 + 8) (wd2 P j) j) P e (fun a2' a3' a4' s' => (a2' = c2 ∧ a3' = c3 ∧ s' = u ∧ ∃ i : Nat, a4'.toInt = (i : Int) ∧ i ≤ L.length ∧ ∀ j, j < i → ¬ L[j]? = some Y) ∧ (c3.toInt - a4'.toInt).toNat < (c3.toInt - c4.toInt).toNat) c2 c3 c4 x1 t0 u (fun v s' => s' = u ∧ ∃ r : Int32, v = some (.int r) ∧ ((r.toInt = 0 ∧ ¬ Y ∈ L) ∨ (¬ r.toInt = 0 ∧ Y ∈ L))) := by
    intro t0 ht0
    unfold v_103_42
    refine ⟨fun b2 b3 b4 b5 b6 b7 w => b2 = c2 ∧ b3 = c3 ∧ b4 = c4 ∧ b5 = x1 ∧ w = u ∧ ∃ q : Nat, b7.toInt = (q : Int) ∧ 2 ≤ q ∧ q ≤ 9 ∧ ((b6.toInt = 0 ∧ ¬ X = Y) ∨ (b6.toInt = 1 ∧ X.2.1 = Y.2.1 ∧ X.1 = Y.1 ∧ ∀ q' : Nat, 2 ≤ q' → q' < q → KI (u.2 e) ((k : Int) * (i : Int) + (q' : Int)) = KI (u.2 204) (0 + (q' : Int)))), fun _ _ _ _ _ b7 _ => (9 - b7.toInt).toNat, ⟨rfl, rfl, rfl, rfl, rfl, 2, by decide, by decide, by decide, ?_⟩, ?_⟩
    · rcases ht0 with ⟨p1, p2⟩ | ⟨p1, p2, p3⟩
      · exact Or.inl ⟨p1, fun e => p2 ⟨by rw [e], by rw [e]⟩⟩
      · exact Or.inr ⟨p1, p2, p3, fun q' h1 h2 => by omega⟩
    rintro b2 b3 b4 b5 b6 b7 w ⟨g2, g3, g4, g5, g6, q, q1, q2, q3, q4⟩
    subst g2 g3 g4 g5 g6
    have h74 : (zg w 204 b7).toInt = KI (w.2 204) (0 + (q : Int)) := by rw [zg_K, q1, Int.zero_add]
    unfold v_103_45 v_103_63 v_103_66
    refine ⟨fun z6 => ⟨fun _ y1 hy1 => ?_, fun w6 => absurd z6 w6⟩, fun z6 => ⟨fun z7 => ⟨fun w6 => absurd w6 z6, fun _ => ⟨rfl, 1, rfl, Or.inr ⟨by decide, ?_⟩⟩⟩, fun z7 y1 hy1 => ⟨fun hne y2 hy2 => ?_, fun heq y2 hy2 => ?_⟩⟩⟩
    · have ey := hy1 (by omega)
      have hXY : ¬ X = Y := by
        rcases q4 with p | p
        · exact p.2
        · have := p.1
          omega
      refine ⟨⟨rfl, rfl, rfl, i + 1, by omega, by omega, fun j hj hjY => ?_⟩, by omega⟩
      by_cases ej : j = i
      · rw [ej, hX] at hjY
        exact hXY (Option.some.inj hjY)
      · exact i3 j (by omega) hjY
    · rcases q4 with p | ⟨-, p2, p3, p4⟩
      · exact absurd p.1 z6
      · have hT2 := (TLc_1 hT hnd X3 F5).mp (fun q' h1 h2 => p4 q' h1 (by omega))
        have hXY : X = Y := Prod.ext p3 (Prod.ext p2 hT2)
        rw [← hXY]
        exact List.mem_of_getElem? hX
    · have ey := hy1 (by omega)
      have ey2 := hy2 (by omega)
      have hX6 : (zg w e y1).toInt = KI (w.2 e) ((k : Int) * (i : Int) + (q : Int)) := by rw [zg_K, ey, ex1, q1]
      refine ⟨⟨rfl, rfl, rfl, rfl, rfl, q + 1, by omega, by omega, by omega, Or.inl ⟨by decide, fun hXY => hne ?_⟩⟩, by dsimp only; omega⟩
      rw [hX6, h74]
      exact (TLc_1 hT hnd X3 F5).mpr (by rw [hXY]) q q2 (by omega)
    · have ey := hy1 (by omega)
      have ey2 := hy2 (by omega)
      have hX6 : (zg w e y1).toInt = KI (w.2 e) ((k : Int) * (i : Int) + (q : Int)) := by rw [zg_K, ey, ex1, q1]
      rcases q4 with p | ⟨-, p2, p3, p4⟩
      · exact absurd p.1 z6
      · refine ⟨⟨rfl, rfl, rfl, rfl, rfl, q + 1, by omega, by omega, by omega, Or.inr ⟨by decide, p2, p3, fun q' h1 h2 => ?_⟩⟩, by dsimp only; omega⟩
        by_cases eq : q' = q
        · rw [eq, ← hX6, ← h74]
          exact heq
        · exact p4 q' h1 (by omega)
  refine ⟨fun hne => inner 0 (Or.inl ⟨by decide, fun w => hne ?_⟩), fun heq => ?_⟩
  · rw [ew, e41, F4]
    exact w.1
  rw [ew, e41, F4] at heq
  have hx1b := X1.2.1
  have hx1l := X1.1.2.1
  refine Zt.imp (Zt.mo (d := 9) (by omega) (zs_84 (d := 0) (A := X.1) (B := Y.1) hP hA h6 X1.1.1 F1.1 hx1l (by rw [eb]; omega) (by rw [e40]; exact F2) (by rw [eb]; exact X1.2.2) (by rw [e40]; exact F3))) ?_
  rintro v3 s4 ⟨hs4, x5, rfl, hr⟩
  subst hs4
  refine ⟨x5, rfl, fun z5 => inner 0 (Or.inl ⟨by decide, fun w => ?_⟩), fun z5 => inner 1 (Or.inr ⟨by decide, heq, ?_⟩)⟩
  · rcases hr with q | q
    · omega
    · exact q.2 w.2
  · rcases hr with q | q
    · exact q.2
    · exact absurd q.1 z5
end ZVD2
section ZVE
variable {Dr : Mit → Prop} {Bd : Prop} {An : List Int → Cal → List Cal → Prop} {ar : Int → Int} {P d c : Nat} {s : zS} {a1 a2 a3 : Int32} {ts : List (List Int)} {cs ms : List Cal} {X : Cal} {A : List Int}
set_option maxHeartbeats 2000000 in
/-- addMethod: of the CALL at 10 * c -/
theorem zi_100 (hAM : AnM An) (hP : P = 3 ∨ P = 39) (hA : KI (s.2 (P + 22)) = ar) (h6 : ∀ c, 0 ≤ ar c ∧ ar c ≤ 7) (hN : SNz s) (hI : IOd Dr Bd An ar P s ts cs ms) (h0 : (s.1 197 10).toInt = 0) (hc : a1.toInt = 10 * (c : Int)) (hX : cs[c]? = some X) (h2 : MDt ar P s (s.1 197 7).toInt a2.toInt A) (h3 : -1 ≤ a3.toInt ∧ 10 * a3.toInt < (s.1 (P + 26) 2).toInt) (hF6 : (s.1 (P + 26) 2).toInt ≤ 600) (hDr : Dr (itm (A, a3.toInt, X.2.2))) : Zt (d + 27) (wd2 P 100) 100 [.ref 197, .int a1, .int a2, .int a3] s (fun v s' => v = none ∧ IFz P s s' ∧ (s'.1 198 2 = s.1 198 2 ∧ s'.1 200 2 = s.1 200 2 ∧ s'.2 198 = s.2 198 ∧ s'.2 200 = s.2 200 ∧ s'.2 (P + 18) = s.2 (P + 18)) ∧ ∃ ws : List Cal, IOd Dr Bd An ar P s' ts cs (ms ++ ws) ∧ ((s'.1 197 10).toInt = 0 → (A, a3.toInt, X.2.2) ∈ ms ++ ws)) := by
  obtain ⟨⟨hT, nx, hcn', hR⟩, ⟨⟨hnt, hnc, hnm⟩, ⟨hd0, hd1, hd2⟩, hSB, -⟩, hDN⟩ := hI
  have hDN := hDN h0
  have hSB := hSB h0
  obtain ⟨⟨n1, n2, n3⟩, r1, r2, r3⟩ := id hR
  have h150 := hcn'.2 h0
  have r2s := r2.1
  have hcc : c < cs.length := (List.getElem?_eq_some_iff.mp hX).1
  rw [n1] at h2
  obtain ⟨⟨hXm, hXw, hXt⟩, -⟩ := r2.2 c X hX
  obtain ⟨⟨q2, q2'⟩, q3, q4⟩ := id hXt
  have hA2 := h2.2.1
  obtain ⟨Y, hY⟩ : ∃ Y : Cal, Y = (A, a3.toInt, X.2.2) := ⟨_, rfl⟩
  rw [← hY] at hDr ⊢
  have l4 : (lim 204 : Int) = 9 := by decide +kernel
  have l2 : (lim 202 : Int) = 1359 := by decide +kernel
  refine zc_100 (d := d + 18) hP ?_
  unfold v_100_0
  intro x1 hx1
  have ex1 := hx1 (by omega)
  have ect : (zg s 200 x1).toInt = KI (s.2 200) (10 * (c : Int) + 2) := by rw [zg_K, ex1, hc]
  refine Zt.imp (Zt.mo (d := 9) (by omega) ((zi_102 (d := 0) hP ⟨by omega, by omega⟩ ⟨by omega, by omega⟩ ⟨by omega, by omega⟩).sn hN)) ?_
  rintro v2 s3 ⟨⟨rfl, f1, f2, f3, f4, f5, -⟩, N3⟩
  refine ⟨rfl, ?_⟩
  refine ⟨fun c1 _ _ c4 u => c1 = a1 ∧ u.1 = s.1 ∧ (∀ r, ¬ r = 204 → u.2 r = s.2 r) ∧ (u.2 204 0 = a2 ∧ u.2 204 1 = a3 ∧ u.2 204 2 = zg s 200 x1) ∧ SNz u ∧ ∃ i : Nat, c4.toInt = (i : Int) ∧ i ≤ 6 ∧ ∀ i' : Nat, i' < i → (u.2 204 (3 + i')).toInt = KI (s.2 200) (10 * (c : Int) + 3 + (i' : Int)), fun _ _ _ c4 _ => (6 - c4.toInt).toNat, ⟨rfl, f1, f2, ⟨f3, f4, f5⟩, N3, 0, by decide, by decide, fun i' h => absurd h (Nat.not_lt_zero _)⟩, ?_⟩
  rintro c1 c2 c3 c4 u ⟨e1, u1, u2, ⟨u3, u4, u5⟩, Nu, i, i1, i2, i3⟩
  subst e1
  unfold v_100_12
  refine ⟨fun y => ?_, fun y x4 hx4 x5 hx5 x6 hx6 => ⟨SN_g Nu (by decide) _, fun s7 hs7 x8 hx8 => ?_⟩⟩
  rotate_left
  · have ex4 := hx4 (by omega)
    have ex5 := hx5 (by omega)
    have ex6 := hx6 (by omega)
    have ex8 := hx8 (by omega)
    have ez : (zg u 200 x6).toInt = KI (s.2 200) (10 * (c : Int) + 3 + (i : Int)) := by rw [zg_K, u2 200 (by decide), ex6, ex5, hc, i1]
    have r7 : ∀ r j, s7.2 r j = if r = 204 ∧ j = 3 + i then zg u 200 x6 else u.2 r j := fun r j => by rw [hs7, zt_in (by rw [l4]; omega), zr_2, show x4.toInt.toNat = 3 + i by omega]
    refine ⟨⟨rfl, by rw [hs7, zt_1]; exact u1, fun r hr => by rw [hs7, zt_o hr]; exact u2 r hr, ⟨by rw [r7, if_neg (fun q => by omega)]; exact u3, by rw [r7, if_neg (fun q => by omega)]; exact u4, by rw [r7, if_neg (fun q => by omega)]; exact u5⟩, by rw [hs7]; exact SNz_zt Nu (fun _ => SN_g Nu (by decide) _), i + 1, by omega, by omega, fun i' hi' => ?_⟩, by dsimp only; omega⟩
    rw [r7]
    by_cases e : i' = i
    · rw [if_pos ⟨rfl, by omega⟩, e]
      exact ez
    · rw [if_neg (fun q => by omega)]
      exact i3 i' (by omega)
  have ei : i = 6 := by omega
  rw [ei] at i3
  clear i1 i2
  have R2 : IRz ar P u nx ts cs ms := IRz_f (fun j _ _ => by rw [u2 _ (by omega)]) (by rw [u1]) (by rw [u1]; exact ⟨rfl, rfl, rfl, rfl⟩) ⟨u2 _ (by decide), u2 _ (by decide), u2 _ (by decide)⟩ hR
  have eY1 : Y.1 = A := by rw [hY]
  have eY2 : Y.2.1 = a3.toInt := by rw [hY]
  have eY3 : Y.2.2 = X.2.2 := by rw [hY]
  have c0 : (u.2 204 0).toInt = a2.toInt := by rw [u3]
  have wA : WDz P u a2.toInt A := fun j c hj => by
    rw [u2 _ (by omega)]
    exact h2.2.2 j c hj
  have fr : FRd ar P u ts Y := by
    refine ⟨by rw [eY1]; exact h2.1, by rw [c0]; omega, by rw [c0, eY1]; exact wA, by rw [u4, eY2], ?_⟩
    rw [eY3]
    have e2 : KI (u.2 204) (0 + 2) = KI (s.2 200) (10 * (c : Int) + 2) := by
      rw [← ect, ← u5]
      exact KI_n (i := 2)
    have e3 : ∀ i : Nat, i < 6 → KI (u.2 204) (0 + 3 + (i : Int)) = KI (s.2 200) (10 * (c : Int) + 3 + (i : Int)) := fun i hi => by
      rw [show (0 : Int) + 3 + (i : Int) = ((3 + i : Nat) : Int) by omega, KI_n]
      exact i3 i hi
    refine ⟨⟨by rw [e2]; exact q2, q2'⟩, fun i B hB => ?_, fun i i0 i1 => by rw [e3 i i1]; exact q4 i i0 i1⟩
    have hil := (List.getElem?_eq_some_iff.mp hB).1
    obtain ⟨j, j1, j2⟩ := q3 i B hB
    exact ⟨j, j1, by rw [e3 i (by omega), j2, u2 198 (by decide)]⟩
  refine Zt.imp (Zt.mo (d := 18) (by omega) (zi_103 (d := 0) (a2 := 9) (e := 202) (k := 9) (nx := nx) (ts := ts) (L := ms) (Y := Y) hP (Or.inr ⟨rfl, rfl⟩) (by rw [u2 _ (by omega)]; exact hA) h6 (by decide) R2.2.1 (by omega) hnt R2.2.2.2.1 (by omega) (fun m Z hZ => (R2.2.2.2.2 m Z hZ).1) fr)) ?_
  rintro v1 s2 ⟨hs2, x3, rfl, hx3⟩
  subst hs2
  unfold v_100_53
  have T2 : (s2.1 75 3).toInt = 18 := by rw [u1]; exact hT
  have F2 : IFz P s s2 := ⟨fun r _ _ _ _ _ _ h => u2 r h, ⟨fun j _ => by rw [u2 _ (by omega)], by rw [u1]; exact Int.le_refl _⟩, fun c q _ _ _ _ => by rw [u1]⟩
  have z2 : (s2.1 197 10).toInt = 0 := by rw [u1]; exact h0
  refine ⟨x3, rfl, fun x0 => ⟨rfl, F2, ⟨by rw [u1], by rw [u1], u2 198 (by decide), u2 200 (by decide), u2 _ (by omega)⟩, [], ?_, fun _ => ?_⟩, fun x0 => ?_⟩
  · rw [List.append_nil]
    exact ⟨⟨T2, nx, ⟨hcn'.1, fun _ => h150⟩, R2⟩, ⟨⟨hnt, hnc, hnm⟩, ⟨hd0, hd1, hd2⟩, fun _ => hSB, fun w => absurd z2 w⟩, fun _ => DNc_s (u2 200 (by decide)) hDN⟩
  · rw [List.append_nil]
    rcases hx3 with q | q
    · exact absurd q.1 x0
    · exact q.2
  have hnew : ¬ Y ∈ ms := by
    rcases hx3 with q | q
    · exact q.2
    · exact absurd x0 q.1
  refine ⟨fun _ _ _ b4 w => SNz w ∧ (∀ b q, ¬ (b = 202 ∧ q = 2) → w.1 b q = s2.1 b q) ∧ (∀ r, ¬ r = 202 → w.2 r = s2.2 r) ∧ ∃ k : Nat, b4.toInt = (k : Int) ∧ k ≤ 9 ∧ (w.1 202 2).toInt = 9 * (ms.length : Int) + (k : Int) ∧ ∀ j : Nat, w.2 202 j = if 9 * ms.length ≤ j ∧ j < 9 * ms.length + k then s2.2 204 (j - 9 * ms.length) else s2.2 202 j, fun _ _ _ b4 _ => (9 - b4.toInt).toNat, ⟨Nu, fun _ _ _ => rfl, fun _ _ => rfl, 0, by decide, by decide, by rw [R2.2.2.2.1]; omega, fun j => by rw [if_neg (fun q => by omega)]⟩, ?_⟩
  rintro b1 b2 b3 b4 w ⟨Nw, w1, w2, k, k1, k2, k3, k4⟩
  unfold v_100_39
  refine ⟨fun y => ?_, fun y => ⟨SN_g Nw (by decide) _, fun s3' hs3 x4 hx4 => ?_⟩⟩
  · have ek : k = 9 := by omega
    subst ek
    refine Zt.imp (Zt.mo (d := 18) (by omega) (zi_104 (d := 0) (ty := ts.length) (ca := cs.length) (me := ms.length + 1) hP (by rw [w1 198 2 (by decide)]; exact R2.2.1.1) (by rw [w1 200 2 (by decide)]; exact R2.2.2.1.1) (by rw [k3]; omega))) ?_
    rintro v1 s4 ⟨rfl, j1, j2, j3, j4⟩
    unfold v_100_53
    have fo : ∀ b q, ¬ (b = 197 ∧ q = 10) → ¬ (b = 202 ∧ q = 2) → s4.1 b q = s2.1 b q := fun b q h1 h2 => by rw [j2 b q h1, w1 b q h2]
    have ro : ∀ r, ¬ r = 202 → s4.2 r = s2.2 r := fun r hr => by rw [j1, w2 r hr]
    have hfr : ∀ j : Nat, 9618 ≤ (j : Int) → (j : Int) < nx → s4.2 (P + 18) j = s2.2 (P + 18) j := fun j _ _ => by rw [ro _ (by omega)]
    have hws : ∀ j : Nat, 9618 ≤ (j : Int) → (j : Int) < nx → s4.2 (P + 18) j = s.2 (P + 18) j := fun j _ _ => by rw [ro _ (by omega), u2 _ (by omega)]
    have c4' : ∀ j, s4.2 202 j = if 9 * ms.length ≤ j ∧ j < 9 * ms.length + 9 then s2.2 204 (j - 9 * ms.length) else s2.2 202 j := fun j => by
      rw [j1]
      exact k4 j
    have hlen : (ms ++ [Y]).length = ms.length + 1 := by rw [List.length_append, List.length_singleton]
    have zw : (w.1 197 10).toInt = 0 := by
      rw [w1 197 10 (by decide)]
      exact z2
    have eF : s4.1 (P + 26) 2 = s.1 (P + 26) 2 := by rw [fo (P + 26) 2 (fun z => by omega) (fun z => by omega), u1]
    have g3 := IRc_f (ws := []) hfr (Int.le_refl _) (fo 200 2 (by decide) (by decide)) (ro 200 (by decide)) (fun j _ => by rw [ro 198 (by decide)]) R2.2.2.1
    rw [List.append_nil] at g3
    refine ⟨rfl, rfl, IFz_tr F2 ⟨fun r _ _ _ _ _ h _ => ro r h, ⟨fun j _ => by rw [ro _ (by omega)], by rw [fo 197 7 (by decide) (by decide)]; exact Int.le_refl _⟩, fun c q h1 _ _ h4 => fo c q (fun z => h1 ⟨z.1, Or.inr z.2⟩) h4⟩, ⟨by rw [fo 198 2 (by decide) (by decide), u1], by rw [fo 200 2 (by decide) (by decide), u1], by rw [ro 198 (by decide), u2 198 (by decide)], by rw [ro 200 (by decide), u2 200 (by decide)], by rw [ro _ (by omega), u2 _ (by omega)]⟩, [Y], ⟨⟨by rw [fo 75 3 (by decide) (by decide)]; exact T2, nx, ⟨by rw [hlen]; omega, fun z => by rw [hlen]; have := (j3 z).2; omega⟩, ⟨by rw [fo 197 7 (by decide) (by decide)]; exact R2.1, IRt_f hfr (Int.le_refl _) (fo 198 2 (by decide) (by decide)) (ro 198 (by decide)) R2.2.1, g3, by rw [j2 202 2 (by decide), k3, hlen]; omega, fun m Z hZ => ?_⟩⟩, ⟨⟨hnt, hnc, nd_snoc hnm hnew⟩, ⟨hd0, hd1, fun Z hZ => ?_⟩, fun _ => hSB, fun z => Or.inr (by have := j4 zw z; rw [hlen]; omega)⟩, fun _ => DNc_m hAM (by rw [ro 200 (by decide), u2 200 (by decide)]) hDN⟩, fun _ => List.mem_append_right _ (List.mem_singleton.mpr rfl)⟩
    rotate_left
    · rcases List.mem_append.mp hZ with q | q
      · exact hd2 Z q
      · rw [List.mem_singleton.mp q]
        exact hDr
    have o198 : ∀ j : Nat, j < ts.length → s4.2 198 j = s2.2 198 j := fun j _ => by rw [ro 198 (by decide)]
    have hmL := (List.getElem?_eq_some_iff.mp hZ).1
    rw [hlen] at hmL
    by_cases em : m = ms.length
    · subst em
      rw [List.getElem?_concat_length] at hZ
      rw [← Option.some.inj hZ]
      have cc : ∀ i : Nat, i < 9 → KI (s4.2 202) (9 * (ms.length : Int) + (i : Int)) = (s2.2 204 i).toInt := fun i hi => by rw [show 9 * (ms.length : Int) + (i : Int) = ((9 * ms.length + i : Nat) : Int) by omega, KI_n, c4', if_pos ⟨by omega, by omega⟩, show 9 * ms.length + i - 9 * ms.length = i by omega]
      have c0' := cc 0 (by decide)
      rw [show 9 * (ms.length : Int) + ((0 : Nat) : Int) = 9 * (ms.length : Int) by omega] at c0'
      have c1 : KI (s4.2 202) (9 * (ms.length : Int) + 1) = (s2.2 204 1).toInt := cc 1 (by decide)
      obtain ⟨-, -, -, f4', ⟨f5, f5'⟩, f6, f7⟩ := id fr
      refine ⟨⟨?_, by rw [c1]; exact f4', ⟨?_, f5'⟩, fun i B hB => ?_, fun i i0 i1 => ?_⟩, by rw [eY2]; exact h3.1, by rw [eY2, eF]; exact h3.2⟩
      · rw [c0', c0, eY1]
        exact MDt_f hws (Int.le_refl _) h2
      · have c2 : KI (s4.2 202) (9 * (ms.length : Int) + 2) = (s2.2 204 2).toInt := cc 2 (by decide)
        rw [c2, ← f5]
        exact (KI_n (i := 2)).symm
      · have hil := (List.getElem?_eq_some_iff.mp hB).1
        obtain ⟨j, j1', j2'⟩ := f6 i B hB
        refine ⟨j, j1', ?_⟩
        rw [show 9 * (ms.length : Int) + 3 + (i : Int) = 9 * (ms.length : Int) + ((3 + i : Nat) : Int) by omega, cc (3 + i) (by omega), ro 198 (by decide), ← j2', show (0 : Int) + 3 + (i : Int) = ((3 + i : Nat) : Int) by omega, KI_n]
      · have := f7 i i0 i1
        rw [show (0 : Int) + 3 + (i : Int) = ((3 + i : Nat) : Int) by omega, KI_n] at this
        rw [show 9 * (ms.length : Int) + 3 + (i : Int) = 9 * (ms.length : Int) + ((3 + i : Nat) : Int) by omega, cc (3 + i) (by omega)]
        exact this
    · rw [List.getElem?_append_left (by omega)] at hZ
      have hm' := R2.2.2.2.2 m Z hZ
      have g := CAc_f (ws := []) hfr (Int.le_refl _) (by omega) (fun j j1' j2' => by rw [c4', if_neg (fun q => by omega)]) o198 hm'.1
      rw [List.append_nil] at g
      exact ⟨g, by rw [fo (P + 26) 2 (fun z => by omega) (fun z => by omega)]; exact hm'.2⟩
  · have ex4 := hx4 (by omega)
    have hsz : (w.1 202 2).toInt < (lim 202 : Int) := by rw [l2]; omega
    refine ⟨⟨by rw [hs3]; exact SNz_za Nw (fun _ => SN_g Nw (by decide) _), fun b q hb => by rw [hs3, za_o hb]; exact w1 b q hb, fun r hr => by rw [hs3, za_r hr]; exact w2 r hr, k + 1, by omega, by omega, ?_, fun j => ?_⟩, by dsimp only; omega⟩
    · rw [hs3, za_n (by omega) (by omega), if_pos hsz]
      omega
    · rw [hs3, za_c hsz, k3]
      by_cases ej : j = 9 * ms.length + k
      · rw [if_pos ⟨rfl, by omega⟩, if_pos ⟨by omega, by omega⟩]
        unfold zg
        rw [if_pos (by omega), w2 204 (by decide), show b4.toInt.toNat = j - 9 * ms.length by omega]
      · rw [if_neg (fun q => ej (by have := q.2; omega)), k4]
        by_cases q : 9 * ms.length ≤ j ∧ j < 9 * ms.length + k
        · rw [if_pos q, if_pos ⟨q.1, by omega⟩]
        · rw [if_neg q, if_neg (fun q' => q ⟨q'.1, by omega⟩)]
end ZVE
section ZVF
variable {Dr : Mit → Prop} {Bd : Prop} {An : List Int → Cal → List Cal → Prop} {ar : Int → Int} {P d m : Nat} {s : zS} {a1 : Int32} {ts : List (List Int)} {cs ms : List Cal} {X : Cal}
set_option maxHeartbeats 2000000 in
/-- openMethod: of the METHOD at 9 * m -/
theorem zi_101 (hP : P = 3 ∨ P = 39) (hA : KI (s.2 (P + 22)) = ar) (h6 : ∀ c, 0 ≤ ar c ∧ ar c ≤ 7) (h24 : ∀ c, 24 ≤ c → ar c = 0) (hS : SGz P s) (hI : IOd Dr Bd An ar P s ts cs ms) (hm : a1.toInt = 9 * (m : Int)) (hX : ms[m]? = some X) (hF6 : (s.1 (P + 26) 2).toInt ≤ 600) : Zt (d + 27) (wd2 P 101) 101 [.ref 197, .int a1] s (fun v s' => s'.1 = s.1 ∧ (∀ r, ¬ r = 76 → s'.2 r = s.2 r) ∧ EQe ar P (eta (argT ar X.1) X.2.2) s' ∧ ∃ r : Int32, v = some (.int r) ∧ (-1 ≤ X.2.1 ∧ 10 * X.2.1 < (s.1 (P + 26) 2).toInt) ∧ r.toInt = fnc s P X.2.1 8) := by
  obtain ⟨⟨hT, nx, hcn', hR⟩, -⟩ := hI
  obtain ⟨⟨n1, n2, n3⟩, r1, r2, r3⟩ := id hR
  have hmm : m < ms.length := (List.getElem?_eq_some_iff.mp hX).1
  obtain ⟨⟨hAm, hXw, ⟨q2, q2'⟩, q3, -⟩, q4, q5⟩ := r3.2 m X hX
  obtain ⟨A, hAX⟩ : ∃ A, A = X.1 := ⟨_, rfl⟩
  obtain ⟨Ts, hTs⟩ : ∃ Ts, Ts = X.2.2 := ⟨_, rfl⟩
  rw [← hAX] at hAm ⊢
  rw [← hTs] at q2 q2' q3 ⊢
  obtain ⟨⟨A1, A2, A3⟩, ⟨A4, A5⟩, A6⟩ := id hAm
  refine zc_101 (d := d + 18) hP ?_
  unfold v_101_0
  have e0 : (zg s 202 a1).toInt = KI (s.2 202) (9 * (m : Int)) := by rw [zg_K, hm]
  rw [← e0] at A4 A5 A6
  obtain ⟨co, l, rfl⟩ : ∃ co l, A = co :: l := by
    cases A with
    | nil => exact absurd rfl (isR_ne A1)
    | cons co l => exact ⟨co, l, rfl⟩
  obtain ⟨p1, p2, p3⟩ := argT_ok h6 A1
  have hll : (co :: l).length = l.length + 1 := rfl
  have h7 := h6 co
  have wc : KI (s.2 (P + 18)) (zg s 202 a1).toInt = co := by
    have := A6 0 co rfl
    rw [show (zg s 202 a1).toInt + ((0 : Nat) : Int) = (zg s 202 a1).toInt by omega] at this
    exact this
  have wl : WDz P s ((zg s 202 a1).toInt + 1) l := fun i c hc => by
    have := A6 (i + 1) c hc
    rw [show (zg s 202 a1).toInt + ((i + 1 : Nat) : Int) = (zg s 202 a1).toInt + 1 + (i : Int) by omega] at this
    exact this
  have i0 : (0 : Int32).toInt = 0 := by decide
  have TX : ∀ x ∈ argT ar (co :: l), TQi ar x := fun x hx => by
    obtain ⟨i, hi⟩ := List.getElem?_of_mem hx
    have hin : ∀ c ∈ x, c ∈ l := fun c hc => by
      rw [← p1]
      exact List.mem_flatten.mpr ⟨x, hx, hc⟩
    refine ⟨p2 x hx, ?_, fun c hc => A3 c (List.mem_cons_of_mem _ (hin c hc))⟩
    have f1 := fl_take hi
    have f2 := fl_le (argT ar (co :: l)) (i + 1)
    rw [p1] at f2
    omega
  have T24 : ∀ p : Nat, p < 12 → TQi ar [24 + (p : Int)] := fun p hp => ⟨one_R h24 (by omega), by show 1 ≤ 60; decide, fun c hc => by rw [List.mem_singleton.mp hc]; omega⟩
  have Teta : ∀ p, p < 12 → TQi ar (eta (argT ar (co :: l)) [] p) := fun p hp => by
    unfold eta
    by_cases h1 : p < 6
    · rw [if_pos h1]
      by_cases h2 : p < (argT ar (co :: l)).length
      · rw [if_pos h2, List.getD_eq_getElem?_getD, List.getElem?_eq_getElem h2]
        exact TX _ (List.getElem_mem h2)
      · rw [if_neg h2]
        exact T24 p hp
    · rw [if_neg h1, if_neg (show ¬ p - 6 < ([] : List (List Int)).length from Nat.not_lt_zero _)]
      exact T24 p hp
  refine Zt.imp (Zt.mo (d := 10) (by omega) (zs_86u (d := 0) (e := 76) (U := nx) (t := 18) (X := argT ar (co :: l)) (Y := []) hP (by decide) hA h6 h24 hS ⟨by omega, by omega⟩ (fun w => absurd rfl w) (by rw [wc]; exact p3.symm) p2 (by rw [p1]; exact wl) ⟨by rw [p1]; omega, by omega⟩ i0 (fun x hx => by cases hx) (fun i c hc => by cases hc) ⟨Nat.zero_le _, Nat.zero_le _⟩ (by decide) (by rw [p1]; exact Or.inr ⟨by omega, by omega⟩) (fun w => absurd rfl w))) ?_
  rintro v1 s2 ⟨rfl, f1, f2, f3⟩
  refine ⟨rfl, ?_⟩
  have P76 : ¬ P + 18 = 76 ∧ ¬ P + 22 = 76 ∧ ¬ P + 26 = 76 := by omega
  refine ⟨fun c1 c2 u => c1 = a1 ∧ u.1 = s.1 ∧ (∀ r, ¬ r = 76 → u.2 r = s.2 r) ∧ ∃ i : Nat, c2.toInt = (i : Int) ∧ i ≤ Ts.length ∧ ENzu nx P u 76 18 (eta (argT ar (co :: l)) (Ts.take i)) 12 ∧ ∀ p, p < 12 → TQi ar (eta (argT ar (co :: l)) (Ts.take i) p), fun _ c2 _ => (6 - c2.toInt).toNat, ⟨rfl, f1, f2, 0, by decide, Nat.zero_le _, f3, Teta⟩, ?_⟩
  rintro c1 c2 u ⟨e1, u1, u2, i, i1, i2, g1, g2⟩
  subst e1
  unfold v_101_14
  intro x1 hx1
  have ex1 := hx1 (by omega)
  have ect : (zg u 202 x1).toInt = KI (s.2 202) (9 * (m : Int) + 2) := by rw [zg_K, u2 202 (by decide), ex1, hm]
  refine ⟨fun y x2 hx2 => ?_, fun y x4 hx4 x5 hx5 x6 hx6 => ?_⟩
  · have ex2 := hx2 (by omega)
    have efn : (zg u 202 x2).toInt = KI (s.2 202) (9 * (m : Int) + 1) := by rw [zg_K, u2 202 (by decide), ex2, hm]
    have ei : i = Ts.length := by omega
    rw [ei, List.take_length] at g1 g2
    refine ⟨u1, u2, ⟨by rw [u1, n1]; exact g1, g2⟩, _, rfl, ⟨q4, q5⟩, ?_⟩
    rw [hXw] at efn
    have m1 := i_mul (x := zg u 202 x2) (y := 10) rfl (show (10 : Int32).toInt = 10 by decide) (by omega)
    have m2 := i_add (x := zg u 202 x2 * 10) (y := 8) rfl (show (8 : Int32).toInt = 8 by decide) (by omega)
    rw [zg_K, u2 _ P76.2.2, m2, m1, efn]
    unfold fnc
    rw [Int.mul_comm]
  · have ex4 := hx4 (by omega)
    have ex5 := hx5 (by omega)
    have ex6 := hx6 (by omega)
    have hiT : i < Ts.length := by omega
    obtain ⟨B, hTB⟩ : ∃ B, Ts[i]? = some B := ⟨_, List.getElem?_eq_getElem hiT⟩
    obtain ⟨jb, jb1, jb2⟩ := q3 i B hTB
    have hB := r1.2 jb B jb1
    rw [← jb2] at hB
    have et : (zg u 202 x6).toInt = KI (s.2 202) (9 * (m : Int) + 3 + (i : Int)) := by rw [zg_K, u2 202 (by decide), ex6, ex5, hm, i1]
    obtain ⟨B1, ⟨B4, B5⟩, B6⟩ := id hB
    rw [← et] at B4 B5 B6
    have hBl := B1.2.1
    have B6' : WDz P u (zg u 202 x6).toInt B := fun j c hj => by
      rw [u2 _ P76.1]
      exact B6 j c hj
    refine Zt.imp (Zt.mo (d := 18) (by omega) (zs_85 (d := 0) (e := 76) (p := 6 + i) (B := B) hP (by decide) (by rw [u2 _ P76.2.1]; exact hA) h6 (by omega) (by omega) ⟨by omega, by omega⟩ B1.1 hBl B6')) ?_
    rintro v7 s8 ⟨rfl, k1, k2, x, hx, k3⟩
    refine ⟨rfl, fun x9 hx9 => ?_⟩
    have ex9 := hx9 (by omega)
    obtain ⟨η, hηd⟩ : ∃ η, η = eta (argT ar (co :: l)) (Ts.take i) := ⟨_, rfl⟩
    rw [← hηd] at g1 g2
    have hη : ∀ p, eta (argT ar (co :: l)) (Ts.take (i + 1)) p = if p = 6 + i then B else η p := fun p => by
      rw [hηd]
      unfold eta
      rw [List.length_take, List.length_take]
      by_cases p6 : p < 6
      · rw [if_neg (show ¬ p = 6 + i by omega), if_pos p6, if_pos p6]
      · rw [if_neg p6, if_neg p6]
        by_cases ep : p = 6 + i
        · rw [if_pos ep, if_pos (by omega), ep, show 6 + i - 6 = i by omega, List.getD_eq_getElem?_getD, List.getElem?_take_of_lt (by omega), hTB]
          rfl
        · rw [if_neg ep]
          by_cases pi : p - 6 < i
          · rw [if_pos (by omega), if_pos (by omega), List.getD_eq_getElem?_getD, List.getD_eq_getElem?_getD, List.getElem?_take_of_lt (by omega), List.getElem?_take_of_lt (by omega)]
          · rw [if_neg (by omega), if_neg (by omega)]
    refine ⟨⟨rfl, k1.trans u1, fun r hr => (k2 r hr).trans (u2 r hr), i + 1, by omega, by omega, fun p hp => ?_, fun p hp => ?_⟩, by dsimp only; omega⟩
    · have w8 : ∀ (y : Int) (D : List Int), WDz P u y D → WDz P s8 y D := fun y D g j c hj => by
        rw [k2 _ P76.1]
        exact g j c hj
      by_cases ep : p = 6 + i
      · subst ep
        rw [hη, if_pos rfl]
        refine ⟨(zg u 202 x6).toInt, ?_, ?_, ⟨by omega, by omega, Or.inr ⟨by omega, by omega⟩, by omega⟩, w8 _ _ B6'⟩
        · rw [KI_n, k3, if_neg (by omega), if_pos rfl]
        · rw [show 12 + ((6 + i : Nat) : Int) = ((12 + (6 + i) : Nat) : Int) by omega, KI_n, k3, if_pos rfl]
          exact hx
      · rw [hη, if_neg ep]
        obtain ⟨y, y1, y2, y3, y4⟩ := g1 p hp
        refine ⟨y, ?_, ?_, y3, w8 _ _ y4⟩
        · rw [KI_n, k3, if_neg (by omega), if_neg ep, ← KI_n]
          exact y1
        · rw [show 12 + (p : Int) = ((12 + p : Nat) : Int) by omega] at y2 ⊢
          rw [KI_n, k3, if_neg (by omega), if_neg (by omega), ← KI_n]
          exact y2
    · by_cases ep : p = 6 + i
      · rw [hη, if_pos ep]
        exact B1
      · rw [hη, if_neg ep]
        exact g2 p hp
end ZVF
