/-! ===== group, byPlaces ===== -/
theorem isF_args : ∀ {n : Nat} {L : List Nat}, isF n L → ∃ As : List (List Nat), As.length = n ∧ L = As.flatten ∧ ∀ B ∈ As, isF 1 B
  | 0, L, h => ⟨[], rfl, isF_0 h, fun B hB => by cases hB⟩
  | n + 1, L, h => by
    rw [show n + 1 = 1 + n by omega] at h
    obtain ⟨A, B, rfl, h1, h2⟩ := isF_spl h
    obtain ⟨As, g1, g2, g3⟩ := isF_args h2
    refine ⟨A :: As, by rw [List.length_cons, g1], by rw [List.flatten_cons, g2], fun C hC => ?_⟩
    rcases List.mem_cons.mp hC with hC | hC
    · rw [hC]; exact h1
    · exact g3 C hC
theorem isF_flat : ∀ {As : List (List Nat)}, (∀ B ∈ As, isF 1 B) → isF As.length As.flatten
  | [], _ => rfl
  | A :: As, h => by
    rw [List.flatten_cons, List.length_cons, Nat.add_comm]
    exact isF_app (h A List.mem_cons_self) (isF_flat (fun B hB => h B (List.mem_cons_of_mem _ hB)))
theorem args_inj : ∀ {As Bs : List (List Nat)}, (∀ B ∈ As, isF 1 B) → (∀ B ∈ Bs, isF 1 B) → As.length = Bs.length → As.flatten = Bs.flatten → As = Bs
  | [], [], _, _, _, _ => rfl
  | [], B :: Bs, _, _, h, _ => by cases h
  | A :: As, [], _, _, h, _ => by cases h
  | A :: As, B :: Bs, hA, hB, hl, he => by
    rw [List.flatten_cons, List.flatten_cons] at he
    have := isF_inj (hA A List.mem_cons_self) (hB B List.mem_cons_self) he
    rw [this.1, args_inj (fun C hC => hA C (List.mem_cons_of_mem _ hC)) (fun C hC => hB C (List.mem_cons_of_mem _ hC)) (by simpa using hl) this.2]
theorem seg_flat {s : yS} : ∀ {As : List (List Nat)} {p l a : Nat} {B : List Nat}, seg s p l = As.flatten → As[a]? = some B → seg s (p + ((As.take a).flatten).length) B.length = B ∧ ((As.take a).flatten).length + B.length ≤ l
  | [], p, l, a, B, _, hB => by simp at hB
  | A :: As, p, l, 0, B, h, hB => by
    have e : A = B := by simpa using hB
    rw [List.flatten_cons] at h
    obtain ⟨h1, h2, h3⟩ := seg_cut h
    subst e
    exact ⟨h1, by show 0 + _ ≤ _; omega⟩
  | A :: As, p, l, a + 1, B, h, hB => by
    rw [List.flatten_cons] at h
    obtain ⟨h1, h2, h3⟩ := seg_cut h
    have hB' : As[a]? = some B := by simpa using hB
    obtain ⟨g1, g2⟩ := seg_flat h2 hB'
    rw [List.take_succ_cons, List.flatten_cons, List.length_append]
    refine ⟨?_, by omega⟩
    rw [← Nat.add_assoc]
    exact g1
/-- what group changes -/
def GF (i : Nat) (s s' : yS) : Prop := s'.1 = s.1 ∧ (∀ q j, ¬ ((q = 265 ∨ q = 266) ∧ j = i ∨ (q = 267 ∨ q = 268) ∧ 6 * i ≤ j ∧ j < 6 * i + 6) → s'.2.1 q j = s.2.1 q j) ∧ s'.2.2 = s.2.2
theorem GF_sa {i q j : Nat} {s s' : yS} {v : Int32} (h : GF i s s') (hq : (q = 265 ∨ q = 266) ∧ j = i ∨ (q = 267 ∨ q = 268) ∧ 6 * i ≤ j ∧ j < 6 * i + 6) : GF i s (sa s' q j v) := ⟨h.1, fun r k hr => by
  rw [sa_2, if_neg (fun e => hr (by rw [e.1, e.2]; exact hq))]
  exact h.2.1 r k hr, h.2.2⟩
theorem GF_ty {i : Nat} {s s' : yS} (h : GF i s s') : s'.2.1 264 = s.2.1 264 := by
  funext j
  exact h.2.1 264 j (fun q => by omega)
theorem GF_seg {i p l : Nat} {s s' : yS} (h : GF i s s') : seg s' p l = seg s p l := seg_eq (fun j _ _ => by rw [GF_ty h])
theorem s_189 {d e g c p l P x : Nat} {As : List (List Nat)} {a1 a2 a3 a4 : Int32} {s : yS} (hT : TYN s) (h1 : a1.toInt = (e : Int)) (he : e < 300) (h2 : a2.toInt = (g : Int)) (hg : g < 2) (h3 : a3.toInt = (c : Int)) (h4 : a4.toInt = (p : Int)) (hL : seg s p l = x :: As.flatten) (hF : ∀ B ∈ As, isF 1 B) (hx : As.length = x % 8) (h6 : As.length ≤ 6) (hP : p + l ≤ P) (hP2 : P ≤ 200000) : Tot (d + 2) 189 [.ref 213, .int a1, .int a2, .int a3, .int a4] s (fun v s' => v = none ∧ GF (2 * e + g) s s' ∧ EVg s' (2 * e + g) c P As) := by
  obtain ⟨hl1, l', rfl⟩ : 1 ≤ l ∧ ∃ l', l = l' + 1 := by
    cases l with
    | zero => cases hL
    | succ l => exact ⟨by omega, l, rfl⟩
  have hL1 : tyE s p = x := (List.cons.inj hL).1
  have hL2 : seg s (p + 1) l' = As.flatten := (List.cons.inj hL).2
  have e4 : a4.toInt.toNat = p := by omega
  have hx' : (s.2.1 264 p).toInt = (x : Int) := by
    have := hT p
    unfold tyE at hL1
    omega
  refine t_189 ?_
  unfold w_189_0
  rw [e4, hx']
  refine ⟨by omega, by omega, fun x1 hx1 => ⟨by omega, fun x2 hx2 => ⟨by omega, fun x3 hx3 => ⟨by omega, ?_⟩⟩⟩⟩
  rintro s4 rfl
  refine ⟨by omega, ?_⟩
  rintro s5 rfl
  refine ⟨by omega, fun x6 hx6 => ?_⟩
  have e3 : x3.toInt.toNat = 2 * e + g := by omega
  rw [e3]
  obtain ⟨i, hi⟩ : ∃ i, i = 2 * e + g := ⟨_, rfl⟩
  rw [← hi]
  refine ⟨fun b1 b2 b3 b4 b5 b6 b7 b8 t => b5 = x1 ∧ b6 = x3 ∧ GF i s t ∧ (t.2.1 265 i).toInt = (c : Int) ∧ (t.2.1 266 i).toInt = (As.length : Int) ∧ ∃ k : Nat, b8.toInt = (k : Int) ∧ k ≤ As.length ∧ b7.toInt = (p : Int) + 1 + ((As.take k).flatten).length ∧ ∀ a A, a < k → As[a]? = some A → ∃ q : Nat, (t.2.1 267 (6 * i + a)).toInt = (q : Int) ∧ (t.2.1 268 (6 * i + a)).toInt = (A.length : Int) ∧ seg s q A.length = A ∧ q + A.length ≤ P, fun _ _ _ _ _ _ _ b8 _ => ((As.length : Int) - b8.toInt).toNat, ⟨rfl, rfl, GF_sa (GF_sa ⟨rfl, fun _ _ _ => rfl, rfl⟩ (Or.inl ⟨Or.inl rfl, rfl⟩)) (Or.inl ⟨Or.inr rfl, rfl⟩), ?_, ?_, 0, by decide, by omega, by rw [List.take_zero]; show x6.toInt = _ + ((0 : Nat) : Int); omega, fun a A ha => absurd ha (by omega)⟩, ?_⟩
  · rw [sa_2, if_neg (fun w => by omega), sa_2, if_pos ⟨rfl, rfl⟩]
    exact h3
  · rw [sa_2, if_pos ⟨rfl, rfl⟩]
    omega
  rintro b1 b2 b3 b4 b5 b6 b7 b8 t ⟨rfl, rfl, tF, t65, t66, k, k1, k2, k3, k4⟩
  unfold w_189_29
  refine ⟨fun hend => ⟨rfl, tF, t65, t66, h6, fun a A hA => ?_⟩, fun hmore => ?_⟩
  · have ha : a < As.length := by
      by_cases q : a < As.length
      · exact q
      · rw [List.getElem?_eq_none (by omega)] at hA
        cases hA
    obtain ⟨q, w1, w2, w3, w4⟩ := k4 a A (by omega) hA
    exact ⟨hF A (List.mem_of_getElem? hA), q, w1, w2, by rw [GF_seg tF]; exact w3, w4⟩
  · have hk : k < As.length := by omega
    have hB : As[k]? = some As[k] := List.getElem?_eq_getElem hk
    obtain ⟨B, hBe⟩ : ∃ B, B = As[k] := ⟨_, rfl⟩
    rw [← hBe] at hB
    obtain ⟨f1, f2⟩ := seg_flat hL2 hB
    obtain ⟨Q, hQ⟩ : ∃ Q : Nat, Q = p + 1 + ((As.take k).flatten).length := ⟨_, rfl⟩
    rw [← hQ] at f1
    have hb7 : b7.toInt = (Q : Int) := by omega
    refine ⟨by omega, fun y1 hy1 => ⟨by omega, fun y2 hy2 => ⟨by omega, ?_⟩⟩⟩
    rintro s3 rfl
    have ey : y2.toInt.toNat = 6 * i + k := by omega
    rw [ey]
    have F3 : GF i s (sa t 267 (6 * i + k) b7) := GF_sa tF (Or.inr ⟨Or.inl rfl, by omega, by omega⟩)
    have T3 : TYN (sa t 267 (6 * i + k) b7) := fun j => by rw [GF_ty F3]; exact hT j
    refine Tot.imp (s_186 (p := Q) (l := B.length) T3 hb7 (by omega) (by rw [GF_seg F3, f1]; exact hF B (List.mem_of_getElem? hB))) ?_
    rintro v s4 ⟨e4', x6', rfl, hx6'⟩
    have e4' := e4'.symm
    subst e4'
    refine ⟨x6', rfl, by omega, fun y7 hy7 => ⟨by omega, fun y8 hy8 => ⟨by omega, fun y9 hy9 => ⟨by omega, ?_⟩⟩⟩⟩
    rintro s10 rfl
    have ey8 : y8.toInt.toNat = 6 * i + k := by omega
    rw [ey8]
    refine ⟨by omega, fun y11 hy11 => ⟨⟨rfl, rfl, GF_sa F3 (Or.inr ⟨Or.inr rfl, by omega, by omega⟩), ?_, ?_, k + 1, by omega, by omega, ?_, fun a A ha hA => ?_⟩, by show ((As.length : Int) - y11.toInt).toNat < ((As.length : Int) - b8.toInt).toNat; omega⟩⟩
    · rw [sa_2, if_neg (fun w => by omega), sa_2, if_neg (fun w => by omega)]
      exact t65
    · rw [sa_2, if_neg (fun w => by omega), sa_2, if_neg (fun w => by omega)]
      exact t66
    · rw [List.take_add_one, hB, List.flatten_append, List.length_append]
      show x6'.toInt = (p : Int) + 1 + ((((As.take k).flatten).length + ([B].flatten).length : Nat) : Int)
      rw [show [B].flatten = B by simp]
      omega
    · by_cases hak : a = k
      · subst hak
        rw [hB] at hA
        have hA : B = A := by simpa using hA
        subst hA
        refine ⟨Q, ?_, ?_, f1, by omega⟩
        · rw [sa_2, if_neg (fun w => by omega), sa_2, if_pos ⟨rfl, rfl⟩]
          exact hb7
        · rw [sa_2, if_pos ⟨rfl, rfl⟩]
          omega
      · obtain ⟨q, w1, w2, w3, w4⟩ := k4 a A (by omega) hA
        refine ⟨q, ?_, ?_, w3, w4⟩
        · rw [sa_2, if_neg (fun w => by omega), sa_2, if_neg (fun w => by omega)]
          exact w1
        · rw [sa_2, if_neg (fun w => by omega), sa_2, if_neg (fun w => by omega)]
          exact w2
/-- the six places -/
def BP (s : yS) : Prop := ∀ a, a < 6 → tyE s a = 8 * (5000 + a)
def plc (n : Nat) : List (List Nat) := (List.range n).map (fun a => [8 * (5000 + a)])
theorem s_190 {d e c n P : Nat} {a1 a2 a3 : Int32} {s : yS} (hB : BP s) (h1 : a1.toInt = (e : Int)) (he : e < 300) (h2 : a2.toInt = (c : Int)) (h3 : a3.toInt = (n : Int)) (hn : n ≤ 6) (hP : 6 ≤ P) : Tot (d + 1) 190 [.ref 213, .int a1, .int a2, .int a3] s (fun v s' => v = none ∧ GF (2 * e + 1) s s' ∧ EVg s' (2 * e + 1) c P (plc n)) := by
  refine t_190 ?_
  unfold w_190_0
  refine ⟨by omega, fun x1 hx1 => ⟨by omega, fun x2 hx2 => ⟨by omega, ?_⟩⟩⟩
  rintro s3 rfl
  refine ⟨by omega, ?_⟩
  rintro s4 rfl
  obtain ⟨i, hi⟩ : ∃ i, i = 2 * e + 1 := ⟨_, rfl⟩
  have e3 : x2.toInt.toNat = i := by omega
  rw [e3, ← hi]
  refine ⟨fun b1 b2 b3 b4 b5 t => b3 = a3 ∧ b4 = x2 ∧ GF i s t ∧ (t.2.1 265 i).toInt = (c : Int) ∧ (t.2.1 266 i).toInt = (n : Int) ∧ ∃ k : Nat, b5.toInt = (k : Int) ∧ k ≤ n ∧ ∀ a, a < k → (t.2.1 267 (6 * i + a)).toInt = (a : Int) ∧ (t.2.1 268 (6 * i + a)).toInt = 1, fun _ _ _ _ b5 _ => ((n : Int) - b5.toInt).toNat, ⟨rfl, rfl, GF_sa (GF_sa ⟨rfl, fun _ _ _ => rfl, rfl⟩ (Or.inl ⟨Or.inl rfl, rfl⟩)) (Or.inl ⟨Or.inr rfl, rfl⟩), ?_, ?_, 0, by decide, by omega, fun a ha => absurd ha (by omega)⟩, ?_⟩
  · rw [sa_2, if_neg (fun w => by omega), sa_2, if_pos ⟨rfl, rfl⟩]
    exact h2
  · rw [sa_2, if_pos ⟨rfl, rfl⟩]
    exact h3
  rintro b1 b2 b3 b4 b5 t ⟨rfl, rfl, tF, t65, t66, k, k1, k2, k4⟩
  unfold w_190_18
  refine ⟨fun hend => ⟨rfl, tF, t65, by rw [t66]; unfold plc; rw [List.length_map, List.length_range], by unfold plc; rw [List.length_map, List.length_range]; exact hn, fun a A hA => ?_⟩, fun hmore => ?_⟩
  · have ha : a < n := by
      by_cases q : a < n
      · exact q
      · rw [List.getElem?_eq_none (by unfold plc; rw [List.length_map, List.length_range]; omega)] at hA
        cases hA
    have hA : [8 * (5000 + a)] = A := by
      unfold plc at hA
      rw [List.getElem?_map, List.getElem?_range ha] at hA
      simpa using hA
    subst hA
    have := k4 a (by omega)
    refine ⟨⟨by decide, by show 1 - 1 + 8 * (5000 + a) % 8 = 0; omega⟩, a, this.1, this.2, ?_, by show a + 1 ≤ P; omega⟩
    rw [GF_seg tF]
    show [tyE s a] = _
    rw [hB a (by omega)]
  · refine ⟨by omega, fun y1 hy1 => ⟨by omega, fun y2 hy2 => ⟨by omega, ?_⟩⟩⟩
    rintro s3 rfl
    refine ⟨by omega, fun y4 hy4 => ⟨by omega, fun y5 hy5 => ⟨by omega, ?_⟩⟩⟩
    rintro s6 rfl
    have ey2 : y2.toInt.toNat = 6 * i + k := by omega
    have ey5 : y5.toInt.toNat = 6 * i + k := by omega
    rw [ey2, ey5]
    refine ⟨by omega, fun y7 hy7 => ⟨⟨rfl, rfl, GF_sa (GF_sa tF (Or.inr ⟨Or.inl rfl, by omega, by omega⟩)) (Or.inr ⟨Or.inr rfl, by omega, by omega⟩), ?_, ?_, k + 1, by omega, by omega, fun a ha => ?_⟩, by show ((n : Int) - y7.toInt).toNat < ((n : Int) - b5.toInt).toNat; omega⟩⟩
    · rw [sa_2, if_neg (fun w => by omega), sa_2, if_neg (fun w => by omega)]
      exact t65
    · rw [sa_2, if_neg (fun w => by omega), sa_2, if_neg (fun w => by omega)]
      exact t66
    · by_cases hak : a = k
      · subst hak
        refine ⟨?_, ?_⟩
        · rw [sa_2, if_neg (fun w => by omega), sa_2, if_pos ⟨rfl, rfl⟩]
          exact k1
        · rw [sa_2, if_pos ⟨rfl, rfl⟩]
          decide
      · have := k4 a (by omega)
        refine ⟨?_, ?_⟩
        · rw [sa_2, if_neg (fun w => by omega), sa_2, if_neg (fun w => by omega)]
          exact this.1
        · rw [sa_2, if_neg (fun w => by omega), sa_2, if_neg (fun w => by omega)]
          exact this.2
