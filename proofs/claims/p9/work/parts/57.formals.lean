/-! ===== readFormals ===== -/
def cF (N a1 a2 fr : Nat) (p : Nat) : Nat := if p ∈ ndB then N else if p = a1 ∨ p = a2 then fr else 20000
/-- k of the formals are read -/
def FI (own : Nat → Nat × Nat) (b n W : Nat) (a1 a2 fr : Nat) (s : yS) (A : Int) (k : Int32) (t : yS) : Prop := 0 ≤ k.toInt ∧ k.toInt ≤ 6 ∧ TS b n W 0 3 t ∧ NF b (cF (s.1 26).toInt.toNat a1 a2 fr) s t ∧ (s.1 26).toInt ≤ (t.1 26).toInt ∧ t.1 42 = s.1 42 ∧ ((t.1 8).toInt = 0 → A ≤ (t.1 7).toInt ∧ ∃ own' : Nat → Nat × Nat, (∀ x, x < (s.1 26).toInt.toNat → own' x = own x) ∧ ∀ j, j < k.toInt.toNat → tkN b n t (t.2.1 a1 (fr + j)).toInt ∧ YS own' b n (t.1 26).toInt.toNat t a2 (fr + j))
theorem FI_at {own : Nat → Nat × Nat} {b n W a1 a2 fr : Nat} {s t : yS} {A : Int} {k x y : Int32} (h : FI own b n W a1 a2 fr s A k t) (hT : TS b n W 0 3 (sf (sf t 8 y) 7 x)) (hx : (t.1 7).toInt ≤ x.toInt) (hy : y.toInt = 0 → (t.1 8).toInt = 0) : FI own b n W a1 a2 fr s A k (sf (sf t 8 y) 7 x) := by
  obtain ⟨h1, h2, h3, h4, h5, h42, h6⟩ := h
  refine ⟨h1, h2, hT, NF_sf (NF_sf h4 (by decide)) (by decide), h5, h42, fun q => ?_⟩
  obtain ⟨g1, own', g2, g3⟩ := h6 (hy q)
  refine ⟨by show A ≤ x.toInt; omega, own', g2, fun j hj => ?_⟩
  exact ⟨tkN_eq (s := t) rfl rfl (g3 j hj).1, YS_eq (s := t) ⟨fun _ _ _ _ => rfl, rfl, rfl⟩ rfl (fun _ _ => rfl) (Nat.le_refl _) (g3 j hj).2⟩
theorem s_181 {own : Nat → Nat × Nat} {d b n W a1 a2 fr M1 M2 : Nat} {a3 : Int32} {δ c : Int} {s : yS} (h : TS b n W δ c s) (hδ : 0 ≤ δ) (hg : sgAt s 91) (h3 : a3.toInt = (fr : Int)) (hM : fr < 15000) (hz1 : fr + 6 ≤ zl a1 * (b + 1)) (hz2 : fr + 6 ≤ zl a2 * (b + 1)) (hy1 : ytab a1 = some (0, M1)) (hy2 : ytab a2 = some (0, M2)) (hM1 : fr + 6 ≤ M1) (hM2 : fr + 6 ≤ M2) (hn1 : a1 ∉ 215 :: 216 :: 217 :: ndB) (hn2 : a2 ∉ 215 :: 216 :: 217 :: ndB) (hne : ¬ a1 = a2) :
    Tot (d + 26) 181 [.ref 213, .ref a1, .ref a2, .int a3] s (fun v s' => ∃ k : Int32, v = some (.int k) ∧ FI own b n W a1 a2 fr s ((s.1 7).toInt + 1) k s') := by
  have hb := h.1.1
  have hn := h.1.2.1
  refine t_181 ?_
  unfold w_181_0
  refine Tot.imp (Tot.mono (by omega) (ts_167 (d := 0) (c := 0) (ch := 91) (TS_c h hg.1) hδ (by decide))) ?_
  rintro v s1 ⟨rfl, x1, y1, rfl, T1, -, q1⟩
  refine ⟨rfl, ?_⟩
  have F0 : FI own b n W a1 a2 fr s ((s.1 7).toInt + 1) 0 (sf (sf s 8 y1) 7 x1) := ⟨by decide, by decide, TS_mo T1 (by omega) (by omega), NF_sf (NF_sf NF_rf (by decide)) (by decide), Int.le_refl _, rfl, fun q => ⟨by show _ ≤ x1.toInt; have := (q1 q).2; omega, own, fun _ _ => rfl, fun j hj => absurd hj (by rw [show (0 : Int32).toInt.toNat = 0 by decide]; omega)⟩⟩
  clear q1 T1
  refine ⟨fun b1 b2 b3 k _ t => b1 = a1 ∧ b2 = a2 ∧ b3 = a3 ∧ FI own b n W a1 a2 fr s ((s.1 7).toInt + 1) k t, fun _ _ _ _ _ s' => if (s'.1 8).toInt = 0 then (14000 - (s'.1 7).toInt).toNat + 1 else 0, ⟨rfl, rfl, rfl, F0⟩, ?_⟩
  clear F0
  rintro b1 b2 b3 k a5 t ⟨rfl, rfl, rfl, hI⟩
  obtain ⟨i1, i2, i3, i4, i5, i42, i6⟩ := id hI
  have mu : ∀ s' : yS, (t.1 8).toInt = 0 → ((s'.1 8).toInt = 0 → (t.1 7).toInt < (s'.1 7).toInt) → (if (s'.1 8).toInt = 0 then (14000 - (s'.1 7).toInt).toNat + 1 else 0) < (if (t.1 8).toInt = 0 then (14000 - (t.1 7).toInt).toNat + 1 else 0) := by
    intro s' h1 h2
    have := i3.2.1.2.2.2.1
    rw [if_pos h1]
    split
    · rename_i h3
      have := h2 h3
      omega
    · omega
  have end58 : w_181_58 (Tot (d + 25)) b1 b2 b3 k a5 t (fun v s' => ∃ k : Int32, v = some (.int k) ∧ FI own b n W b1 b2 fr s ((s.1 7).toInt + 1) k s') := by
    unfold w_181_58
    refine Tot.imp (Tot.mono (by omega) (ts_167 (d := 0) (ch := 93) i3 (by decide) (by decide))) ?_
    rintro v s1 ⟨rfl, x, y, rfl, T, hx, q⟩
    exact ⟨rfl, k, rfl, FI_at hI (TS_mo T (by decide) (Int.le_refl _)) hx (fun q2 => (q q2).1.1)⟩
  unfold w_181_7
  refine ⟨fun _ => end58, fun _ => ⟨fun _ => end58, fun t8 => ?_⟩⟩
  have cont : ∀ (k' a6 t0 : Int32) (t' : yS), FI own b n W b1 b2 fr s ((s.1 7).toInt + 1) k' t' → ((t'.1 8).toInt = 0 → (t.1 7).toInt < (t'.1 7).toInt) → w_181_53 (Tot (d + 25)) (fun a1' a2' a3' a4' _ s' => (a1' = b1 ∧ a2' = b2 ∧ a3' = b3 ∧ FI own b n W b1 b2 fr s ((s.1 7).toInt + 1) a4' s') ∧ (if (s'.1 8).toInt = 0 then (14000 - (s'.1 7).toInt).toNat + 1 else 0) < (if (t.1 8).toInt = 0 then (14000 - (t.1 7).toInt).toNat + 1 else 0)) b1 b2 b3 k' a5 a6 t0 t' (fun v s' => ∃ k : Int32, v = some (.int k) ∧ FI own b n W b1 b2 fr s ((s.1 7).toInt + 1) k s') := by
    intro k' a6 t0 t' hF hlt
    unfold w_181_53
    refine Tot.imp (Tot.mono (by omega) (ts_168 (d := 0) (ch := 44) hF.2.2.1)) ?_
    rintro v s1 ⟨r, rfl, g⟩
    refine ⟨r, rfl, ?_⟩
    rcases g with ⟨-, g1, x, g2, rfl, g3⟩ | ⟨-, -, rfl⟩
    · have e : sf t' 7 x = sf (sf t' 8 (t'.1 8)) 7 x := by rw [sf_id]
      refine ⟨⟨rfl, rfl, rfl, ?_⟩, mu _ t8 (fun q => ?_)⟩
      · rw [e] at g3 ⊢
        exact FI_at hF (TS_mo g3 (by decide) (Int.le_refl _)) (by omega) (fun q => q)
      · have := hlt q
        show _ < x.toInt
        omega
    · exact ⟨⟨rfl, rfl, rfl, hF⟩, mu _ t8 hlt⟩
  have go23 : ∀ t1 : yS, FI own b n W b1 b2 fr s ((s.1 7).toInt + 1) k t1 → TS b n W 0 0 t1 → t1.1 7 = t.1 7 → ((t1.1 8).toInt = 0 → nmAt t1 → k.toInt ≤ 5) → w_181_23 (Tot (d + 25)) (fun a1' a2' a3' a4' _ s' => (a1' = b1 ∧ a2' = b2 ∧ a3' = b3 ∧ FI own b n W b1 b2 fr s ((s.1 7).toInt + 1) a4' s') ∧ (if (s'.1 8).toInt = 0 then (14000 - (s'.1 7).toInt).toNat + 1 else 0) < (if (t.1 8).toInt = 0 then (14000 - (t.1 7).toInt).toNat + 1 else 0)) b1 b2 b3 k a5 t1 (fun v s' => ∃ k : Int32, v = some (.int k) ∧ FI own b n W b1 b2 fr s ((s.1 7).toInt + 1) k s') := by
    intro t1 hF hT h7 h5
    unfold w_181_23
    refine Tot.imp (Tot.mono (by omega) (ts_170 (d := 0) hT (by decide) (by decide))) ?_
    rintro v s2 ⟨rfl, x, y, rfl, T2, hx, q2⟩
    refine ⟨_, rfl, ?_⟩
    rintro s4 rfl
    have q8 : (sf (sf (sf t1 8 y) 7 x) 27 0).1 8 = y := rfl
    rw [q8]
    have F2 : FI own b n W b1 b2 fr s ((s.1 7).toInt + 1) k (sf (sf t1 8 y) 7 x) := FI_at hF (TS_mo T2 (by decide) (by decide)) (by omega) (fun q => (q2 q).1.1)
    have F4 : FI own b n W b1 b2 fr s ((s.1 7).toInt + 1) k (sf (sf (sf t1 8 y) 7 x) 27 0) := by
      obtain ⟨e1, e2, e3, e4, e5, e42, e6⟩ := F2
      refine ⟨e1, e2, TS_27 e3, NF_sf e4 (by decide), e5, e42, fun q => ?_⟩
      obtain ⟨g1, own', g2, g3⟩ := e6 q
      exact ⟨g1, own', g2, fun j hj => ⟨tkN_eq (s := sf (sf t1 8 y) 7 x) rfl rfl (g3 j hj).1, YS_eq (s := sf (sf t1 8 y) 7 x) ⟨fun _ _ _ _ => rfl, rfl, rfl⟩ rfl (fun _ _ => rfl) (Nat.le_refl _) (g3 j hj).2⟩⟩
    refine ⟨fun y0 => ⟨fun _ => cont _ _ _ _ F4 (fun q => absurd q y0), fun q => absurd q y0⟩, fun y0 => ?_⟩
    have nm := q2 y0
    have k5 := h5 nm.1.1 nm.1
    refine Tot.imp (ts_173 (d := d) (TS_27 (v := 0) T2) (by decide) y0 (by show (0 : Int32).toInt = 0; decide)) ?_
    rintro v s5 ⟨rfl, T5, f5, n5, q5⟩
    have e26 : (sf (sf (sf t1 8 y) 7 x) 27 0).1 26 = t1.1 26 := rfl
    have e7 : (sf (sf (sf t1 8 y) 7 x) 27 0).1 7 = x := rfl
    rw [e26] at f5 n5 q5 ⊢
    rw [e7] at q5
    refine ⟨_, rfl, ?_⟩
    have dv := TS_dv T2 (by decide)
    have dv' : (t1.1 26).toInt.toNat / 4002 = b := dv
    have nN : (s.1 26).toInt ≤ (t1.1 26).toInt := hF.2.2.2.2.1
    have N5 : NF b (cF (s.1 26).toInt.toNat b1 b2 fr) s s5 := NF_tr F4.2.2.2.1 (NF_fr (c := cF (s.1 26).toInt.toNat b1 b2 fr) f5 dv' (fun p hp => by unfold cF; rw [if_pos hp]; omega)) (fun _ => Nat.le_refl _)
    have T5' : TS b n W 0 3 s5 := TS_mo T5 (by decide) (by decide)
    have fN : (0 : Int) ≤ (s.1 26).toInt := by have := h.2.2.2.2.1; omega
    have nb1 : b1 ∉ 215 :: 217 :: ndB := fun q => hn1 (by rcases List.mem_cons.mp q with q | q; exact List.mem_cons.mpr (Or.inl q); exact List.mem_cons_of_mem _ (List.mem_cons_of_mem _ q))
    have nb2 : b2 ∉ 215 :: 217 :: ndB := fun q => hn2 (by rcases List.mem_cons.mp q with q | q; exact List.mem_cons.mpr (Or.inl q); exact List.mem_cons_of_mem _ (List.mem_cons_of_mem _ q))
    have k42 : s5.1 42 = s.1 42 := (f5.1 42 (by decide)).trans F4.2.2.2.2.2.1
    refine ⟨fun h8 => cont _ _ _ _ ⟨i1, i2, T5', N5, by omega, k42, fun q => absurd q h8⟩ (fun q => absurd q h8), fun h8 => ?_⟩
    obtain ⟨g1, g2⟩ := q5 h8
    refine ⟨by omega, fun x1 hx1 => ⟨M1, hy1, by omega, ?_⟩⟩
    rintro s6 rfl
    refine ⟨by omega, fun x3 hx3 => ⟨M2, hy2, by omega, ?_⟩⟩
    rintro s7 rfl
    refine ⟨by omega, fun x5 hx5 => cont _ _ _ _ ?_ (fun _ => by show _ < (s5.1 7).toInt; rw [← h7]; omega)⟩
    have ex1 : x1.toInt.toNat = fr + k.toInt.toNat := by omega
    have ex3 : x3.toInt.toNat = fr + k.toInt.toNat := by omega
    rw [ex1, ex3]
    have c1 : cF (s.1 26).toInt.toNat b1 b2 fr b1 = fr := by
      unfold cF
      rw [if_neg (fun q => nb1 (List.mem_cons_of_mem _ (List.mem_cons_of_mem _ q))), if_pos (Or.inl rfl)]
    have c2 : cF (s.1 26).toInt.toNat b1 b2 fr b2 = fr := by
      unfold cF
      rw [if_neg (fun q => nb2 (List.mem_cons_of_mem _ (List.mem_cons_of_mem _ q))), if_pos (Or.inr rfl)]
    have nd : ND (t1.1 26).toInt.toNat t1 (sa (sa s5 b1 (fr + k.toInt.toNat) (t1.1 7)) b2 (fr + k.toInt.toNat) (t1.1 26)) := ND_sa (ND_sa (ND_tr (s' := sf (sf (sf t1 8 y) 7 x) 27 0) ⟨fun _ _ _ _ => rfl, rfl, rfl⟩ (ND_fr f5) (Nat.le_refl _)) nb1) nb2
    have nd5 : ND (s5.1 26).toInt.toNat s5 (sa (sa s5 b1 (fr + k.toInt.toNat) (t1.1 7)) b2 (fr + k.toInt.toNat) (t1.1 26)) := ND_sa (ND_sa ND_rf nb1) nb2
    have cell : ∀ p i, p = b1 ∨ p = b2 → ¬ i = fr + k.toInt.toNat → (sa (sa s5 b1 (fr + k.toInt.toNat) (t1.1 7)) b2 (fr + k.toInt.toNat) (t1.1 26)).2.1 p i = t1.2.1 p i := by
      intro p i hp hi
      rw [sa_2, if_neg (fun e => hi e.2), sa_2, if_neg (fun e => hi e.2)]
      refine f5.2.1 p i (fun q => ?_)
      rcases hp with hp | hp
      · exact nb1 (List.mem_cons_of_mem _ (List.mem_cons_of_mem _ (by rw [← hp]; exact q.2.2)))
      · exact nb2 (List.mem_cons_of_mem _ (List.mem_cons_of_mem _ (by rw [← hp]; exact q.2.2)))
    refine ⟨by omega, by omega, TS_sa (TS_sa T5' (fun q => hn1 ((show ∀ x ∈ [215, 216, 217, 221], x ∈ 215 :: 216 :: 217 :: ndB by decide) _ q))) (fun q => hn2 ((show ∀ x ∈ [215, 216, 217, 221], x ∈ 215 :: 216 :: 217 :: ndB by decide) _ q)), NF_sa (NF_sa N5 (by rw [c1]; omega)) (by rw [c2]; omega), by show _ ≤ (s5.1 26).toInt; omega, k42, fun _ => ⟨by show _ ≤ (s5.1 7).toInt; have := (hF.2.2.2.2.2.2 nm.1.1).1; rw [h7] at hx; rw [h7] at this; omega, ?_⟩⟩
    obtain ⟨-, own', o1, o2⟩ := hF.2.2.2.2.2.2 nm.1.1
    refine ⟨fun z => if z < (t1.1 26).toInt.toNat then own' z else (b2, fr + k.toInt.toNat), fun z hz => ?_, fun j hj => ?_⟩
    · show (if z < _ then _ else _) = _
      rw [if_pos (by omega)]
      exact o1 z hz
    · by_cases hjk : j = k.toInt.toNat
      · subst hjk
        refine ⟨?_, (t1.1 26).toInt.toNat, (s5.1 26).toInt.toNat, ?_, ?_, Nat.le_refl _, ?_, fun z z1 z2 => if_neg (by omega)⟩
        · rw [sa_2, if_neg (fun e => hne e.1), sa_2, if_pos ⟨rfl, rfl⟩]
          exact tkN_eq nd.2.1 nd.2.2 nm.2
        · rw [sa_2, if_pos ⟨rfl, rfl⟩]
          omega
        · have := hT.2.2.2.2.1
          omega
        · refine isY_eq2 (s := s5) nd5.2.1 nd5.2.2 (fun z z1 z2 => ?_) g2
          have := ND_SR nd5 z2
          exact ⟨this.1, fun _ => this.2.1⟩
      · have hj2 : j < k.toInt.toNat := by omega
        obtain ⟨p1, p2⟩ := o2 j hj2
        refine ⟨?_, YS_eq nd (cell _ _ (Or.inr rfl) (by omega)) (fun z hz => if_pos hz) (by show _ ≤ (s5.1 26).toInt.toNat; omega) p2⟩
        rw [cell _ _ (Or.inl rfl) (by omega)]
        exact tkN_eq nd.2.1 nd.2.2 p1
  have hT0 := TS_c (c' := 0) i3 t8
  refine ⟨fun h6 => go23 t hI hT0 rfl (fun _ _ => by omega), fun h6 => ?_⟩
  refine Tot.imp (Tot.mono (by omega) (s_166 (d := 0) i3.1 i3.2.1)) ?_
  rintro v s7 ⟨e7, x9, rfl, h9⟩
  have e7 := e7.symm
  subst e7
  refine ⟨x9, rfl, fun h0 => go23 t hI hT0 rfl (fun _ q => absurd q ((h9.resolve_left (fun w => by omega)).2)), fun h0 => ?_⟩
  refine Tot.imp (Tot.mono (by omega) (ts_163 (d := 0) (w := 5) i3 (by decide) (by decide) t8 (i3.2.1.2.2.2.2 t8))) ?_
  rintro v s8 ⟨rfl, y, rfl, y0, hT⟩
  refine ⟨rfl, go23 _ ?_ (hT 0 0 (by decide)) rfl (fun q => absurd q y0)⟩
  have e : sf t 8 y = sf (sf t 8 y) 7 (t.1 7) := by
    rw [show t.1 7 = (sf t 8 y).1 7 from rfl, sf_id]
  have h2 := hT 0 3 (by decide)
  rw [e] at h2 ⊢
  exact FI_at hI h2 (Int.le_refl _) (fun q => absurd q y0)
