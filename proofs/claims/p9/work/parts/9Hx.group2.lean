/-! ===== group, and where its arguments lie ===== -/
theorem s_189w {d e g c p l P x : Nat} {As : List (List Nat)} {a1 a2 a3 a4 : Int32} {s : yS} (hT : TYN s) (h1 : a1.toInt = (e : Int)) (he : e < 300) (h2 : a2.toInt = (g : Int)) (hg : g < 2) (h3 : a3.toInt = (c : Int)) (h4 : a4.toInt = (p : Int)) (hL : seg s p l = x :: As.flatten) (hF : ∀ B ∈ As, isF 1 B) (hx : As.length = x % 8) (h6 : As.length ≤ 6) (hP : p + l ≤ P) (hP2 : P ≤ 200000) : Tot (d + 2) 189 [.ref 213, .int a1, .int a2, .int a3, .int a4] s (fun v s' => v = none ∧ GF (2 * e + g) s s' ∧ EVg s' (2 * e + g) c P As ∧ ∀ (a : Nat) (A : List Nat), As[a]? = some A → (p : Int) < (s'.2.1 267 (6 * (2 * e + g) + a)).toInt) := by
  obtain ⟨hl1, l', rfl⟩ : 1 ≤ l ∧ ∃ l', l = l' + 1 := by
    cases l with
    | zero => cases hL
    | succ l => exact ⟨by omega, l, rfl⟩
  have hL1 : tyE s p = x := (List.cons.inj hL).1
  have hL2 : seg s (p + 1) l' = As.flatten := (List.cons.inj hL).2
  have e4 : a4.toInt.toNat = p := by omega
  have hx' : (s.2.1 264 p).toInt = (x : Int) := by
    have := hT p
    unfold tyE at hL1
    omega
  refine t_189 ?_
  unfold w_189_0
  rw [e4, hx']
  refine ⟨by omega, by omega, fun x1 hx1 => ⟨by omega, fun x2 hx2 => ⟨by omega, fun x3 hx3 => ⟨by omega, ?_⟩⟩⟩⟩
  rintro s4 rfl
  refine ⟨by omega, ?_⟩
  rintro s5 rfl
  refine ⟨by omega, fun x6 hx6 => ?_⟩
  have e3 : x3.toInt.toNat = 2 * e + g := by omega
  rw [e3]
  obtain ⟨i, hi⟩ : ∃ i, i = 2 * e + g := ⟨_, rfl⟩
  rw [← hi]
  refine ⟨fun b1 b2 b3 b4 b5 b6 b7 b8 t => b5 = x1 ∧ b6 = x3 ∧ GF i s t ∧ (t.2.1 265 i).toInt = (c : Int) ∧ (t.2.1 266 i).toInt = (As.length : Int) ∧ ∃ k : Nat, b8.toInt = (k : Int) ∧ k ≤ As.length ∧ b7.toInt = (p : Int) + 1 + ((As.take k).flatten).length ∧ ∀ a A, a < k → As[a]? = some A → ∃ q : Nat, (t.2.1 267 (6 * i + a)).toInt = (q : Int) ∧ (t.2.1 268 (6 * i + a)).toInt = (A.length : Int) ∧ seg s q A.length = A ∧ q + A.length ≤ P ∧ p < q, fun _ _ _ _ _ _ _ b8 _ => ((As.length : Int) - b8.toInt).toNat, ⟨rfl, rfl, GF_sa (GF_sa ⟨rfl, fun _ _ _ => rfl, rfl⟩ (Or.inl ⟨Or.inl rfl, rfl⟩)) (Or.inl ⟨Or.inr rfl, rfl⟩), ?_, ?_, 0, by decide, by omega, by rw [List.take_zero]; show x6.toInt = _ + ((0 : Nat) : Int); omega, fun a A ha => absurd ha (by omega)⟩, ?_⟩
  · rw [sa_2, if_neg (fun w => by omega), sa_2, if_pos ⟨rfl, rfl⟩]
    exact h3
  · rw [sa_2, if_pos ⟨rfl, rfl⟩]
    omega
  rintro b1 b2 b3 b4 b5 b6 b7 b8 t ⟨rfl, rfl, tF, t65, t66, k, k1, k2, k3, k4⟩
  unfold w_189_29
  refine ⟨fun hend => ⟨rfl, tF, ⟨t65, t66, h6, fun a A hA => ?_⟩, fun a A hA => ?_⟩, fun hmore => ?_⟩
  · have ha : a < As.length := by
      by_cases q : a < As.length
      · exact q
      · rw [List.getElem?_eq_none (by omega)] at hA
        cases hA
    obtain ⟨q, w1, w2, w3, w4, -⟩ := k4 a A (by omega) hA
    exact ⟨hF A (List.mem_of_getElem? hA), q, w1, w2, by rw [GF_seg tF]; exact w3, w4⟩
  · have ha : a < As.length := by
      by_cases q : a < As.length
      · exact q
      · rw [List.getElem?_eq_none (by omega)] at hA
        cases hA
    obtain ⟨q, w1, w2, w3, w4, w5⟩ := k4 a A (by omega) hA
    rw [w1]
    omega
  · have hk : k < As.length := by omega
    have hB : As[k]? = some As[k] := List.getElem?_eq_getElem hk
    obtain ⟨B, hBe⟩ : ∃ B, B = As[k] := ⟨_, rfl⟩
    rw [← hBe] at hB
    obtain ⟨f1, f2⟩ := seg_flat hL2 hB
    obtain ⟨Q, hQ⟩ : ∃ Q : Nat, Q = p + 1 + ((As.take k).flatten).length := ⟨_, rfl⟩
    rw [← hQ] at f1
    have hb7 : b7.toInt = (Q : Int) := by omega
    refine ⟨by omega, fun y1 hy1 => ⟨by omega, fun y2 hy2 => ⟨by omega, ?_⟩⟩⟩
    rintro s3 rfl
    have ey : y2.toInt.toNat = 6 * i + k := by omega
    rw [ey]
    have F3 : GF i s (sa t 267 (6 * i + k) b7) := GF_sa tF (Or.inr ⟨Or.inl rfl, by omega, by omega⟩)
    have T3 : TYN (sa t 267 (6 * i + k) b7) := fun j => by rw [GF_ty F3]; exact hT j
    refine Tot.imp (s_186 (p := Q) (l := B.length) T3 hb7 (by omega) (by rw [GF_seg F3, f1]; exact hF B (List.mem_of_getElem? hB))) ?_
    rintro v s4 ⟨e4', x6', rfl, hx6'⟩
    have e4' := e4'.symm
    subst e4'
    refine ⟨x6', rfl, by omega, fun y7 hy7 => ⟨by omega, fun y8 hy8 => ⟨by omega, fun y9 hy9 => ⟨by omega, ?_⟩⟩⟩⟩
    rintro s10 rfl
    have ey8 : y8.toInt.toNat = 6 * i + k := by omega
    rw [ey8]
    refine ⟨by omega, fun y11 hy11 => ⟨⟨rfl, rfl, GF_sa F3 (Or.inr ⟨Or.inr rfl, by omega, by omega⟩), ?_, ?_, k + 1, by omega, by omega, ?_, fun a A ha hA => ?_⟩, by show ((As.length : Int) - y11.toInt).toNat < ((As.length : Int) - b8.toInt).toNat; omega⟩⟩
    · rw [sa_2, if_neg (fun w => by omega), sa_2, if_neg (fun w => by omega)]
      exact t65
    · rw [sa_2, if_neg (fun w => by omega), sa_2, if_neg (fun w => by omega)]
      exact t66
    · rw [List.take_add_one, hB, List.flatten_append, List.length_append]
      show x6'.toInt = (p : Int) + 1 + ((((As.take k).flatten).length + ([B].flatten).length : Nat) : Int)
      rw [show [B].flatten = B by simp]
      omega
    · by_cases hak : a = k
      · subst hak
        rw [hB] at hA
        have hA : B = A := by simpa using hA
        subst hA
        refine ⟨Q, ?_, ?_, f1, by omega, by omega⟩
        · rw [sa_2, if_neg (fun w => by omega), sa_2, if_pos ⟨rfl, rfl⟩]
          exact hb7
        · rw [sa_2, if_pos ⟨rfl, rfl⟩]
          omega
      · obtain ⟨q, w1, w2, w3, w4⟩ := k4 a A (by omega) hA
        refine ⟨q, ?_, ?_, w3, w4⟩
        · rw [sa_2, if_neg (fun w => by omega), sa_2, if_neg (fun w => by omega)]
          exact w1
        · rw [sa_2, if_neg (fun w => by omega), sa_2, if_neg (fun w => by omega)]
          exact w2
section NW
variable {P E : Nat}
/-- newEnv, and its first group -/
theorem nenvw {e p l x c : Nat} {As : List (List Nat)} {a : Int32} {s : yS} {Φ : Option Value → yS → Prop} (hT : TYN s) (hG : GC s) (hE : (s.1 70).toInt = (E : Int)) (hE2 : E ≤ 290) (hl : seg s p l = x :: As.flatten) (hF : ∀ B ∈ As, isF 1 B) (hx : As.length = x % 8) (h6 : As.length ≤ 6) (hP : p + l ≤ P) (hP2 : P ≤ 200000) (hc : c ≤ 10000) {x1 : Int32} (h1 : x1.toInt = (E : Int) + 1) (ha : a.toInt = (p : Int)) {ac : Int32} (hac : ac.toInt = (c : Int)) (hΦ : ∀ t, XF [70] P E s t → (t.1 70).toInt = (E : Int) + 1 → EV t E (p + l) c As (t.2.1 265 (2 * E + 1)).toInt.toNat [] → (∀ (a : Nat) (A : List Nat), As[a]? = some A → (p : Int) < (t.2.1 267 (12 * E + a)).toInt) → Φ none t) : Tot (e + 2) 189 [.ref 213, .int (s.1 70), .int 0, .int ac, .int a] (sf (sa (sa s 266 (2 * E) 0) 266 (2 * E + 1) 0) 70 x1) Φ := by
  obtain ⟨u, hu⟩ : ∃ u, u = sf (sa (sa s 266 (2 * E) 0) 266 (2 * E + 1) 0) 70 x1 := ⟨_, rfl⟩
  rw [← hu]
  have uty : ∀ i, u.2.1 264 i = s.2.1 264 i := fun i => by
    rw [hu]
    show (sa (sa s 266 (2 * E) 0) 266 (2 * E + 1) 0).2.1 264 i = _
    rw [sa_2, if_neg (fun w => by omega), sa_2, if_neg (fun w => by omega)]
  have us : seg u p l = seg s p l := seg_eq (fun i _ _ => uty i)
  refine Tot.imp (s_189w (d := e) (P := p + l) (x := x) (As := As) (g := 0) (fun i => by rw [uty]; exact hT i) hE (by omega) (by decide) (by decide) hac ha (by rw [us]; exact hl) hF hx h6 (Nat.le_refl _) (Nat.le_trans hP hP2)) ?_
  rintro v t ⟨rfl, hGF, hEV, hlo⟩
  have cell : ∀ q i, ¬ ((q = 265 ∨ q = 266) ∧ i = 2 * E) → ¬ ((q = 267 ∨ q = 268) ∧ 12 * E ≤ i ∧ i < 12 * E + 6) → t.2.1 q i = u.2.1 q i := fun q i w1 w2 => hGF.2.1 q i (fun w => by omega)
  have ucell : ∀ q i, ¬ (q = 266 ∧ 2 * E ≤ i) → u.2.1 q i = s.2.1 q i := fun q i w => by
    rw [hu]
    show (sa (sa s 266 (2 * E) 0) 266 (2 * E + 1) 0).2.1 q i = _
    rw [sa_2, if_neg (fun w' => w ⟨w'.1, by omega⟩), sa_2, if_neg (fun w' => w ⟨w'.1, by omega⟩)]
  have u1 : (u.2.1 266 (2 * E + 1)).toInt = 0 := by
    rw [hu]
    show ((sa (sa s 266 (2 * E) 0) 266 (2 * E + 1) 0).2.1 266 (2 * E + 1)).toInt = 0
    rw [sa_2, if_pos ⟨rfl, rfl⟩]
    decide
  have X : XF [70] P E s t := by
    refine ⟨fun k hk => ?_, fun q i w1 w2 w3 => ?_, ?_, fun i => ?_, fun i => ?_⟩
    · rw [hGF.1, hu, sf_1, if_neg (fun w => hk (by rw [w]; decide))]
      rfl
    · rw [cell q i (fun w => w2 ⟨w.1, by omega⟩) (fun w => w3 ⟨w.1, w.2.1⟩), ucell q i (fun w => w2 ⟨Or.inr w.1, w.2⟩)]
    · rw [hGF.2.2, hu]
      rfl
    · rw [cell 264 i (fun w => by omega) (fun w => by omega), uty]
      exact hT i
    · by_cases e : i = 2 * E
      · rw [e]
        have := hEV.1
        rw [show 2 * E + 0 = 2 * E from rfl] at this
        omega
      · rw [cell 265 i (fun w => e w.2) (fun w => by omega), ucell 265 i (fun w => by omega)]
        exact hG i
  refine hΦ t X ?_ ⟨hEV, ?_⟩ (fun a A hA => by have := hlo a A hA; rw [show 6 * (2 * E + 0) + a = 12 * E + a by omega] at this; exact this)
  · rw [hGF.1, hu, sf_1, if_pos rfl]
    exact h1
  · have g := X.2.2.2.2 (2 * E + 1)
    refine ⟨by omega, ?_, by decide, fun a A hA => by simp at hA⟩
    rw [cell 266 _ (fun w => by omega) (fun w => by omega), u1]
    rfl
end NW
