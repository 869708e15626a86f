/-! ===== the reference: selves, whole ===== -/
section ZER
variable {K L W ar kd : Int → Int} {n lo hi B b A x y : Int} {TN Ls : List Int} {d : Nat} {s u : yS}
set_option maxHeartbeats 2000000 in
theorem x_215 (h : PRm K L W ar kd n lo hi TN Ls) (hS : RST K L W ar kd TN Ls n B b A x y s) (h30 : (s.1 30).toInt = b) (h8 : (s.1 8).toInt = 0) : Par d 215 [.ref 213] s (SVq (ffs (L5 (eg5 K L W kd TN Ls) L TN)) s) := by
  cases d with
  | zero => exact Par_0
  | succ d =>
    have hnT := PR_nT h
    have h24 := h.2.2.1.1
    have hb0 : 0 ≤ b := hS.2.2.2.2.2.2
    have hSs := hS
    obtain ⟨⟨g75, gQ, gK, ⟨gN1, gN2⟩, gar, gkd⟩, hA, hD, -⟩ := hS
    obtain ⟨E, hEd⟩ : ∃ E, E = eg5 K L W kd TN Ls := ⟨_, rfl⟩
    have hEb : ∀ a c, E a c → a < kTy K Ls ∧ c < kTy K Ls := fun a c q => by
      rw [hEd] at q
      exact eg5_b h q
    have hE24 : ∀ a c, E a c → a < 24 ∧ c < 24 := fun a c q => by
      have := hEb a c q
      omega
    rw [← hEd]
    have hTNw : ∀ v ∈ TN, wTk K n v := fun v hv => by
      rw [h.2.1] at hv
      obtain ⟨t, ht, rfl⟩ := List.mem_map.mp hv
      obtain ⟨k, hk⟩ := List.getElem?_of_mem ht
      obtain ⟨i, h1, h6, -⟩ := tyL_inv Ls k t hk
      obtain ⟨d1, -, d3⟩ := dcC_at Ls i t lo hi h.1.2.1 h1
      have h5 := y5_fw (ty_fw (d3 h6).1).1
      have hle := y5_le (ty_fw (d3 h6).1).1
      have hp := (d3 h6).2
      have hs := srtQ_le (srt_ty (h := 0) (d3 h6).1)
      have hs' : t + 2 ≤ (p_ty K L false (0, t)).2 := hs
      have hlo := h.1.2.2.1
      have hhi := h.1.2.2.2
      exact ⟨by omega, by omega, h5.2.2.2.2.1⟩
    have hN : ∀ (i : Nat) (t : Int), TN[i]? = some t → (s.2.1 234 (24 * b + (i : Int)).toNat).toInt = B + t ∧ (s.2.1 216 (B + t).toNat).toInt = L t := fun i t ht => by
      have hw := hTNw t (List.mem_of_getElem? ht)
      exact ⟨gN2 i t ht, (gK t hw.1 hw.2.1).2⟩
    refine pb_215 ?_
    unfold ub_215_0
    rw [h30]
    intro _ x1 hx1
    -- all is cleared
    refine ⟨fun b1 b2 u => b1 = x1 ∧ SVr s u ∧ u.1 = s.1 ∧ ∃ k : Nat, k ≤ 576 ∧ b2.toInt = (k : Int) ∧ ∀ j : Nat, j < k → (u.2.1 269 j).toInt = 0, ⟨rfl, SVr_rf, rfl, 0, by decide, by decide, fun j hj => absurd hj (Nat.not_lt_zero _)⟩, ?_⟩
    rintro b1 b2 u ⟨rfl, f1, f2, k, k1, k2, k3⟩
    unfold ub_215_7
    refine ⟨fun y => ?_, fun y _ s1 hs1 _ x2 hx2 => ⟨rfl, by rw [hs1]; exact SVr_sa f1, by rw [hs1, sa_1r]; exact f2, k + 1, by omega, by omega, fun j hj => ?_⟩⟩
    · have ek : k = 576 := by omega
      subst ek
      -- the types, one by one
      refine ⟨fun e1 e2 w => e1 = b1 ∧ SVr s w ∧ w.1 = s.1 ∧ ∃ dd : Nat, dd ≤ TN.length ∧ e2.toInt = (dd : Int) ∧ ∀ i j : Nat, i < 24 → j < 24 → (mxr w i j ↔ i < dd ∧ E i j), ⟨rfl, f1, f2, 0, Nat.zero_le _, by decide, fun i j hi hj => ⟨fun q => absurd (k3 _ (by omega)) q, fun q => absurd q.1 (Nat.not_lt_zero _)⟩⟩, ?_⟩
      rintro e1 e2 w ⟨rfl, g1, g2, dd, d1, d2, d3⟩
      unfold ub_215_19
      rw [g2, h30, g1.1 233 (by decide), gN1]
      intro _
      refine ⟨fun y1 => ?_, fun y1 => ?_⟩
      · have ed : dd = TN.length := by omega
        refine sv_79 hE24 g1 (by rw [g2]; exact h8) (fun i j hi hj => ?_) (fun w' q1 q2 q3 => sv_138 h30 hb0 hx1 gN1 hN (by omega) q1 q2 q3)
        rw [d3 i j hi hj]
        refine ⟨fun q => q.2, fun q => ⟨?_, q⟩⟩
        have := (hEb i j q).1
        omega
      · have hdd : dd < kTy K Ls := by omega
        obtain ⟨i0, t, h1, h6, e0⟩ := ty_dc (K := K) (Ls := Ls) (c := (dd : Int)) (by omega) (by omega)
        have ea : dd = kTy K (Ls.take i0) := by omega
        obtain ⟨a1, a2⟩ := ((hA i0 t h1).2 h6).2
        obtain ⟨-, rt2, -⟩ := (hD i0 t h1).2 h6
        rw [← ea] at a1 a2 rt2
        obtain ⟨cnt, hcnt, hc0, hc1⟩ : ∃ cnt : Nat, (s.2.1 239 (24 * b + (dd : Int)).toNat).toInt = (cnt : Int) ∧ (¬ tSt K L false (0, t) = true → cnt = 0) ∧ (tSt K L false (0, t) = true → cnt = (tMe K L false (0, t)).length) := by
          by_cases hst : tSt K L false (0, t) = true
          · exact ⟨_, (a2.2.1 hst).1, fun q => absurd hst q, fun _ => rfl⟩
          · have hst' : tSt K L false (0, t) = false := by
              cases hb : tSt K L false (0, t) with
              | false => rfl
              | true => exact absurd hb hst
            exact ⟨0, (a2.2.2 hst').1, fun _ => rfl, fun q => absurd q hst⟩
        refine ⟨fun z1 z2 z3 v => z1 = e1 ∧ z2 = e2 ∧ SVr s v ∧ v.1 = s.1 ∧ ∃ idx : Nat, idx ≤ cnt ∧ z3.toInt = (idx : Int) ∧ ∀ i j : Nat, i < 24 → j < 24 → (mxr v i j ↔ (i < dd ∧ E i j) ∨ (i = dd ∧ ∃ (k : Nat) (f : Int), k < idx ∧ (tMe K L false (0, t))[k]? = some f ∧ cdOf W [] (tFo K L false (0, t)) TN (f + 1) = (j : Int) ∧ kd (j : Int) = 1)), ⟨rfl, rfl, g1, g2, 0, Nat.zero_le _, by decide, fun i j hi hj => ?_⟩, ?_⟩
        · rw [d3 i j hi hj]
          refine ⟨fun q => Or.inl q, fun q => ?_⟩
          rcases q with q | ⟨-, k, f, q, -⟩
          · exact q
          · exact absurd q (Nat.not_lt_zero _)
        rintro z1 z2 z3 v ⟨rfl, rfl, m1, m2, idx, i1, i2, i3⟩
        unfold ub_215_28
        intro _ y1' hy1 _
        have ey : y1'.toInt = 24 * b + (dd : Int) := by omega
        rw [ey, m1.1 239 (by decide), hcnt]
        refine ⟨fun y2 _ x2 hx2 => ⟨rfl, m1, m2, dd + 1, by omega, by omega, fun i j hi hj => ?_⟩, fun y2 _ x3 hx3 _ x4 hx4 _ x5 hx5 _ => ?_⟩
        · have ei : idx = cnt := by omega
          rw [i3 i j hi hj]
          refine ⟨fun q => ?_, fun ⟨q1, q2⟩ => ?_⟩
          · rcases q with q | ⟨q1, k, f, q2, q3, q4, q5⟩
            · exact ⟨by omega, q.2⟩
            · have hst : tSt K L false (0, t) = true := by
                by_cases z : tSt K L false (0, t) = true
                · exact z
                · have := hc0 z
                  omega
              refine ⟨by omega, ?_⟩
              rw [hEd]
              exact ⟨i0, t, h1, h6, by omega, hst, f, List.mem_of_getElem? q3, q4, q5⟩
          · by_cases ed : i = dd
            · refine Or.inr ⟨ed, ?_⟩
              rw [hEd] at q2
              obtain ⟨i', t', p1, p2, p3, p4, f, p5, p6, p7⟩ := q2
              have et : t = t' := ty_one h1 h6 p1 p2 (by omega)
              subst et
              obtain ⟨k, hk⟩ := List.getElem?_of_mem p5
              have := (List.getElem?_eq_some_iff.mp hk).1
              exact ⟨k, f, by rw [ei, hc1 p4]; exact this, hk, p6, p7⟩
            · exact Or.inl ⟨by omega, q2⟩
        · have hst : tSt K L false (0, t) = true := by
            by_cases z : tSt K L false (0, t) = true
            · exact z
            · have := hc0 z
              omega
          have hcl := hc1 hst
          have hk : idx < (tMe K L false (0, t)).length := by omega
          have hv := List.getElem?_eq_getElem hk
          obtain ⟨v0, v1, v2⟩ := (ty_fact h h1 h6).2 hst _ (List.mem_of_getElem? hv)
          have htp := (tp_fact h h1).1
          have edt : dTp K L t = tFo K L false (0, t) := if_neg h6
          rw [edt] at htp
          obtain ⟨r1, r2, r3, r4, r5⟩ := wdC_ok (PR_ar h).1 (Nat.zero_le _) htp (by omega) v1 v2
          obtain ⟨c0, l0, ew⟩ : ∃ c0 l0, wdC K L W ar TN [] (tFo K L false (0, t)) ((tMe K L false (0, t))[idx] + 1) = c0 :: l0 := by
            cases hh : wdC K L W ar TN [] (tFo K L false (0, t)) ((tMe K L false (0, t))[idx] + 1) with
            | nil => exact absurd hh (isR_ne r1)
            | cons q l => exact ⟨q, l, rfl⟩
          have ec : c0 = cdOf W [] (tFo K L false (0, t)) TN ((tMe K L false (0, t))[idx] + 1) := by
            rw [← r5, ew]
            rfl
          have r3c := r3 c0 (by rw [ew]; exact List.mem_cons_self)
          have r4c := r4 c0 (by rw [ew]; exact List.mem_cons_self)
          obtain ⟨p0, ⟨p1, p2⟩, p3, p4⟩ := RSn_e (rt2 hst idx _ hv)
          unfold wTy at p4
          rw [wdC_map, ew] at p4
          have e5 : x5.toInt = 6 * (24 * b + (dd : Int)) + (idx : Int) := by omega
          rw [e5, m1.1 241 (by decide), m1.1 231 (by decide), m1.1 264 (by decide)]
          intro _ kst
          have hac := (PR_ar h).1 c0
          have vel : (s.2.1 264 (s.2.1 231 (s.2.1 241 (6 * (24 * b + (dd : Int)) + (idx : Int)).toNat).toInt.toNat).toInt.toNat).toInt / 8 = rhC (1000 + 6 * (24 * b + (dd : Int) - 24 * b)) 2000 c0 := by
            rw [RWel_at (y := s.2.1 231 (s.2.1 241 (6 * (24 * b + (dd : Int)) + (idx : Int)).toNat).toInt.toNat) (i := 0) p4 rfl (by omega) p1]
            exact rhE_d hac
          refine Par.imp x_185 ?_
          rintro v7 s6 ⟨hs6, x8, rfl, hx8⟩
          rw [vel] at hx8
          rw [hs6]
          have stp : ∀ (v' : yS) (x8' : Int32), SVr s v' → v'.1 = s.1 → (∀ i j : Nat, i < 24 → j < 24 → (mxr v' i j ↔ mxr v i j ∨ (i = dd ∧ c0 = (j : Int) ∧ kd (j : Int) = 1))) → ub_215_73 (Par d) (fun e1' e2' w => e1' = z1 ∧ SVr s w ∧ w.1 = s.1 ∧ ∃ dd : Nat, dd ≤ TN.length ∧ e2'.toInt = (dd : Int) ∧ ∀ i j : Nat, i < 24 → j < 24 → (mxr w i j ↔ i < dd ∧ E i j)) (fun z1' z2' z3' v => z1' = z1 ∧ z2' = z2 ∧ SVr s v ∧ v.1 = s.1 ∧ ∃ idx : Nat, idx ≤ cnt ∧ z3'.toInt = (idx : Int) ∧ ∀ i j : Nat, i < 24 → j < 24 → (mxr v i j ↔ (i < dd ∧ E i j) ∨ (i = dd ∧ ∃ (k : Nat) (f : Int), k < idx ∧ (tMe K L false (0, t))[k]? = some f ∧ cdOf W [] (tFo K L false (0, t)) TN (f + 1) = (j : Int) ∧ kd (j : Int) = 1))) z1 z2 z3 x8' v' (SVq (ffs (L5 E L TN)) s) := by
            intro v' x8' q1 q2 q3
            unfold ub_215_73
            intro _ x9 hx9
            refine ⟨rfl, rfl, q1, q2, idx + 1, by omega, by omega, fun i j hi hj => ?_⟩
            rw [q3 i j hi hj, i3 i j hi hj]
            refine ⟨fun q => ?_, fun q => ?_⟩
            · rcases q with (q | ⟨p1, k, f, p2, p3⟩) | ⟨p1, p2, p3⟩
              · exact Or.inl q
              · exact Or.inr ⟨p1, k, f, by omega, p3⟩
              · exact Or.inr ⟨p1, idx, _, by omega, hv, by rw [← ec]; exact p2, p3⟩
            · rcases q with q | ⟨p1, k, f, p2, p3, p4, p5⟩
              · exact Or.inl (Or.inl q)
              · by_cases ek : k = idx
                · rw [ek, hv] at p3
                  have := Option.some.inj p3
                  rw [← this, ← ec] at p4
                  exact Or.inr ⟨p1, p4, p5⟩
                · exact Or.inl (Or.inr ⟨p1, k, f, by omega, p3, p4, p5⟩)
          have no : ¬ kd c0 = 1 → ∀ i j : Nat, i < 24 → j < 24 → (mxr v i j ↔ mxr v i j ∨ (i = dd ∧ c0 = (j : Int) ∧ kd (j : Int) = 1)) := fun hk i j _ _ => by
            refine ⟨fun q => Or.inl q, fun q => ?_⟩
            rcases q with q | ⟨-, q1, q2⟩
            · exact q
            · rw [← q1] at q2
              exact absurd q2 hk
          have kout : 24 ≤ c0 → ¬ kd c0 = 1 := fun z q => by
            have := h.2.2.2.2.2.1 c0 (Or.inr (by omega))
            omega
          refine ⟨x8, rfl, fun y3 => stp v x8 m1 m2 (no (kout ?_)), fun y3 _ x9 hx9 _ => ?_⟩
          · rcases Int.lt_or_le c0 24 with z | z
            · have : rhC (1000 + 6 * (24 * b + (dd : Int) - 24 * b)) 2000 c0 = c0 := if_pos z
              omega
            · exact z
          · have hc24 : c0 < 24 := by
              rcases Int.lt_or_le c0 24 with z | z
              · exact z
              · unfold rhC at hx8
                rw [if_neg (by omega)] at hx8
                by_cases q : c0 < 30
                · rw [if_pos q] at hx8
                  omega
                · rw [if_neg q, if_pos r3c.2.1] at hx8
                  omega
            have ecr : rhC (1000 + 6 * (24 * b + (dd : Int) - 24 * b)) 2000 c0 = c0 := if_pos hc24
            rw [ecr] at hx8
            have hcT := r4c hc24
            have e9 : x9.toInt = 24 * b + c0 := by omega
            rw [m1.1 235 (by decide), e9]
            have hkd := gkd.1 c0 r3c.1 hcT
            refine ⟨fun y4 => stp v x8 m1 m2 (no ?_), fun y4 _ x10 hx10 _ x11 hx11 _ s12 hs12 => ?_⟩
            · rcases hkd with q | q
              · omega
              · omega
            · have hk1 : kd c0 = 1 := by
                rcases hkd with q | q
                · exact q.1
                · exact absurd q.2 y4
              have e11 : x11.toInt.toNat = 24 * dd + c0.toNat := by omega
              rw [e11] at hs12
              refine stp s12 x8 (by rw [hs12]; exact SVr_sa m1) (by rw [hs12, sa_1r]; exact m2) (fun i j hi hj => ?_)
              rw [hs12, mx_sa (by omega) hj]
              by_cases e : i = dd ∧ j = c0.toNat
              · rw [if_pos e]
                refine ⟨fun _ => Or.inr ⟨e.1, by omega, ?_⟩, fun _ => by decide⟩
                rw [show (j : Int) = c0 by omega]
                exact hk1
              · rw [if_neg e]
                refine ⟨fun q => Or.inl q, fun q => ?_⟩
                rcases q with q | ⟨q1, q2, -⟩
                · exact q
                · exact absurd ⟨q1, by omega⟩ e
    · rw [hs1, sa_21]
      by_cases ej : j = b2.toInt.toNat
      · rw [if_pos ⟨rfl, ej⟩]
        decide
      · rw [if_neg (fun q => ej q.2)]
        exact k3 j (by omega)
end ZER
