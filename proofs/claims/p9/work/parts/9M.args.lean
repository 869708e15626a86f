/-! ===== a row of E, taken one by one ===== -/
section AR
variable (own : Nat → Nat × Nat) (b n W N T F H S0 : Nat) (G : PG) (fo : Option Nat) (m h hi S O P E : Nat) (fT : Nat → List Nat) (cs : List (Nat × Nat × Nat)) (t : yS)
def AIv (k : Nat) (x : Int) (u : yS) : Prop := ∃ (S' O' pos : Nat), TFr tK b h hi S P E O t u ∧ f8 t u ∧ (u.1 64).toInt = (P : Int) ∧ (u.1 65).toInt = (S' : Int) ∧ (u.1 85).toInt = (O' : Int) ∧ S ≤ S' ∧ S' ≤ S + (pos - h) ∧ O ≤ O' ∧ O' ≤ O + 60 * cM t h pos ∧ h ≤ pos ∧ pos ≤ hi ∧ k ≤ cs.length ∧ chn t x ((cs.drop k).map (·.2.2)) ∧ (∀ (j : Nat) (c : Nat × Nat × Nat), k ≤ j → cs[j]? = some c → pos ≤ c.1) ∧ ((u.1 8).toInt = 0 → ∀ (j : Nat) (c : Nat × Nat × Nat), j < k → cs[j]? = some c → c.2.1 ≤ pos ∧ ∃ B, wE G H b n (scX G fo) (tVX G fo) S' O' u m c.1 c.2.1 c.2.2 B ∧ impl G B (fT j))
/-- the row, and what it needs -/
def AIc : Prop := 4002 * b ≤ h ∧ hi ≤ N ∧ N ≤ 12006 ∧ (∀ x, h ≤ x → x < hi → (own x).1 ∉ slR) ∧ S + (hi - h) ≤ 10 + 4100 * (b + 1) ∧ O + 60 * cM t h hi ≤ 60000 * (b + 1) ∧ P + 3000 * m ≤ 199000 ∧ E + m + 2 ≤ 289 ∧ (∀ c ∈ cs, h ≤ c.1 ∧ c.1 ≤ c.2.2 ∧ c.2.2 < c.2.1 ∧ c.2.1 ≤ hi ∧ isE b n t m c.1 c.2.1 c.2.2) ∧ cs.Pairwise (fun a b => a.2.1 ≤ b.1)
end AR
section ARS
variable {own : Nat → Nat × Nat} {b n W N T F H S0 : Nat} {G : PG} {fo : Option Nat} {m h hi S O P E : Nat} {fT : Nat → List Nat} {cs : List (Nat × Nat × Nat)} {t : yS}
theorem AIv_0 {x : Int} (hW : TW own b n W N T F H S0 G fo S O P E t) (hc : AIc own b n N m h hi S O P E cs t) (hx : chn t x (cs.map (·.2.2))) (hhi : h ≤ hi) : AIv b n H G fo m h hi S O P E fT cs t 0 x t := by
  obtain ⟨c1, c2, c3, c4, c5, c6, c7, c8, c9, c10, c11, c12, c13⟩ := hW
  exact ⟨S, O, h, TF_rf c1.2.2.2.2.1 c1.2.2.2.2.2.1, f8_rf c3, c5, c7, c8, Nat.le_refl _, by omega, Nat.le_refl _, by omega, Nat.le_refl _, hhi, by omega, hx, fun j c _ hj => (hc.2.2.2.2.2.2.2.2.1 c (List.mem_of_getElem? hj)).1, fun _ j c hj => by omega⟩
theorem cs_lt {k : Nat} {c : Nat × Nat × Nat} (h : cs[k]? = some c) : k < cs.length := by
  by_cases w : k < cs.length
  · exact w
  · rw [List.getElem?_eq_none (by omega)] at h
    cases h
theorem pw_get {j k : Nat} {c c' : Nat × Nat × Nat} (hp : cs.Pairwise (fun a b => a.2.1 ≤ b.1)) (h1 : cs[j]? = some c) (h2 : cs[k]? = some c') (hjk : j < k) : c.2.1 ≤ c'.1 := by
  obtain ⟨q3, q4⟩ := List.getElem?_eq_some_iff.mp h1
  obtain ⟨q5, q6⟩ := List.getElem?_eq_some_iff.mp h2
  have := List.pairwise_iff_getElem.mp hp j k q3 q5 hjk
  rw [q4, q6] at this
  exact this
theorem drop_get {α : Type} {L : List α} {k : Nat} {c : α} (h : L[k]? = some c) : L.drop k = c :: L.drop (k + 1) := by
  obtain ⟨q3, q4⟩ := List.getElem?_eq_some_iff.mp h
  rw [List.drop_eq_getElem_cons q3, q4]
theorem AIv_step {d k q i ev b0 b1 : Nat} {c : Nat × Nat × Nat} {x : Int} {As Bs : List (List Nat)} {sc2 : Nat → Prop} {a1 a2 a3 : Int32} {u : yS} (ih : TEH own b n W N T F H S0 G fo m d) (hd : 6 ≤ d) (hW : TW own b n W N T F H S0 G fo S O P E t) (hc : AIc own b n N m h hi S O P E cs t) (hI : AIv b n H G fo m h hi S O P E fT cs t k x u) (hk : cs[k]? = some c) (h1 : a1.toInt = (c.2.2 : Int)) (hv : vS b T H t q i) (h2 : a2 = t.2.1 q i) (hok : okE G sc2 (tyS t q i)) (h3 : a3.toInt = (ev : Int)) (hev : ev < E) (hV : EV t ev P b0 As b1 Bs) (hl : EVl S t ev As Bs) (hcov : ∀ c, sc2 c → (∃ A, envS b0 As b1 Bs c = some A ∧ okE G (scX G fo) A) ∨ (envS b0 As b1 Bs c = none ∧ scX G fo c)) (hfT : fT k = subs (envS b0 As b1 Bs) (tyS t q i)) : Tot (d + 1) 222 [.ref 213, .int a1, .int a2, .int a3] u (fun v u' => v = none ∧ AIv b n H G fo m h hi S O P E fT cs t (k + 1) (t.2.1 225 c.2.2).toInt u' ∧ u'.2.1 225 = t.2.1 225) := by
  obtain ⟨hb, hn, hT24, hF60, hH, gT', gF', hS8⟩ := TW_num hW
  obtain ⟨w1, w2, w3, w4, w5, w6, w7, w8, w9, w10, w11, w12, w13⟩ := id hW
  obtain ⟨c1, c2, c3, c4, c5, c6, c7, c8, c9, c10⟩ := id hc
  obtain ⟨S', O', pos, F1, f1, k1, k2, k3, k4, k5, k6, k7, k8, k9, k10, k11, k12, k13⟩ := hI
  obtain ⟨e1, e2, e3, e4, e5⟩ := c9 c (List.mem_of_getElem? hk)
  have hkl := cs_lt hk
  have hpos := k12 k c (Nat.le_refl _) hk
  have ecM : cM u = cM t := by funext lo hi; exact cM_eq (TF_row F1 (by decide))
  have a0 := cM_add (s := t) (lo := h) (mid := pos) (hi := c.1) k8 hpos
  have a1' := cM_add (s := t) (lo := h) (mid := c.1) (hi := c.2.1) (by omega) (by omega)
  have a2' := cM_add (s := t) (lo := h) (mid := c.2.1) (hi := hi) (by omega) e4
  have W1 : TW own b n W N T F H S0 G fo S' O' P E u := TW_fr hW F1 (by decide) c4 f1.1 k1 (by rw [F1.1 70 (by decide)]; exact w6) k2 k3 k4 (by omega) k6 w13
  have C1 : TCo own b N m c.1 c.2.1 S' O' P E u := ⟨by omega, by omega, c3, fun x x1 x2 => c4 x (by omega) (by omega), by omega, by rw [ecM]; omega, c7, c8⟩
  have hv1 : vS b T H u q i := (vS_eq (fun q hq => TF_row F1 (by revert q; decide))).mpr hv
  have hqn : q ∉ [226, 230, 231, 232, 264, 265, 266, 267, 268, 270, 271, 272] := by
    have := vS_q hv
    clear hv hv1 ih hok h2 hfT
    revert q
    decide
  have eqi : u.2.1 q i = t.2.1 q i := by rw [TF_row F1 hqn]
  -- the slot's TYPE is the same
  have ety : tyS u q i = tyS t q i := by
    obtain ⟨y0, p0, l0, i1, i2, i3, i4, i5, i6, i7⟩ := w1.2.1 q i hv
    have ny : ¬ (h ≤ y0 ∧ y0 < hi) := fun w => c4 y0 w.1 w.2 (by rw [i2]; exact vS_q hv)
    have n' : NY u y0 p0 l0 := by
      unfold NY
      rw [F1.2.1 231 y0 (fun w => ny w.2) (fun w => by omega) (fun w => by omega) (fun w => by omega) (fun w => by omega), F1.2.1 232 y0 (fun w => ny w.2) (fun w => by omega) (fun w => by omega) (fun w => by omega) (fun w => by omega)]
      exact i5
    rw [SY_ty i1 i5, SY_ty (by rw [eqi]; exact i1) n']
    exact TF_seg F1 (Or.inl (by omega)) (by omega) hb
  obtain ⟨V1, L1⟩ := EV_tf hb hV hl F1 hev (Nat.le_refl _) k4
  refine Tot.imp (s_222 (d := d) ih hd W1 C1 (isE_tf F1 e5) h1 hv1 (by rw [eqi]; exact h2) (by rw [ety]; exact hok) h3 hev V1 L1 hcov) ?_
  rintro v u' ⟨rfl, F2, f2, S2, O2, m1, m2, m3, m4, m5, m6, m7, m8⟩
  rw [ety] at m8
  rw [ecM] at m7
  have F3 : TFr tK b h hi S P E O t u' := TF_tr F1 F2 (fun _ w => w) (by omega) e4 k4 (Nat.le_refl _) (Nat.le_refl _) k6
  refine ⟨rfl, ⟨S2, O2, c.2.1, F3, f8_tr f1 f2, m1, m2, m3, by omega, by omega, by omega, by omega, by omega, e4, by omega, ?_, fun j c' hj hc' => ?_, fun q j c' hj hc' => ?_⟩, TF_row F3 (by decide)⟩
  · rw [drop_get hk] at k11
    exact k11.2
  · exact pw_get c10 hk hc' (by omega)
  · by_cases ej : j = k
    · rw [ej, hk] at hc'
      cases hc'
      obtain ⟨A, q1, q2⟩ := m8 q
      rw [← hfT, ← ej] at q2
      exact ⟨Nat.le_refl _, A, q1, q2⟩
    · obtain ⟨q0, B, q1, q2⟩ := k13 (f2.2 q) j c' (by omega) hc'
      have := pw_get c10 hc' hk (by omega)
      exact ⟨by omega, B, wE_eq m4 m6 (TF_CA F2 (Or.inl (by omega)) (by omega)) q1, q2⟩
end ARS
