/-! ===== a call ===== -/
section CL
variable {G : PG} {H : Nat}
theorem bdT_dk {D k : Nat} (h : D < 24) (hk : k < 6) : bdT G 0 (1000 + 6 * D + k) = gfb G D k := by
  unfold bdT
  rw [if_pos (by omega), show (1000 + 6 * D + k - 1000) / 6 = D by omega, show (1000 + 6 * D + k - 1000) % 6 = k by omega]
theorem map_id2 {f : List Nat → List Nat} {L : List (List Nat)} (h : ∀ A ∈ L, f A = A) : L.map f = L := by
  conv => rhs; rw [← List.map_id L]
  exact List.map_congr_left h
/-- what stands for the places -/
def rho (Cs : List (List Nat)) (c : Nat) : Option (List Nat) := if 5000 ≤ c then Cs[c - 5000]? else none
theorem rho_cl {Cs : List (List Nat)} (hT : gT G ≤ 24) : ∀ {A : List Nat}, (∀ x ∈ A, vE G sc0 x) → subs (rho Cs) A = A
  | [], _ => rfl
  | x :: A, h => by
    have hx : x / 8 < gT G := by
      rcases h x List.mem_cons_self with w | w
      · exact w.1
      · exact absurd w.2.2 id
    have hr : rho Cs (x / 8) = none := by
      unfold rho
      rw [if_neg (by omega)]
    rw [subs_cons, sub_none hr, rho_cl hT (fun y hy => h y (List.mem_cons_of_mem _ hy))]
    rfl
theorem rho_plc {Cs : List (List Nat)} : (plc Cs.length).map (subs (rho Cs)) = Cs := by
  refine List.ext_getElem? (fun i => ?_)
  unfold plc
  rw [List.map_map, List.getElem?_map]
  by_cases hi : i < Cs.length
  · rw [List.getElem?_range hi]
    show some (subs (rho Cs) [8 * (5000 + i)]) = _
    have hr : rho Cs (8 * (5000 + i) / 8) = some Cs[i] := by
      unfold rho
      rw [if_pos (by omega), show 8 * (5000 + i) / 8 - 5000 = i by omega, List.getElem?_eq_getElem hi]
    rw [subs_cons, sub_some hr, List.getElem?_eq_getElem hi]
    show some (Cs[i] ++ []) = _
    rw [List.append_nil]
  · rw [List.getElem?_eq_none (by rw [List.length_range]; omega), List.getElem?_eq_none (by omega)]
    rfl
/-- the places of a head, filled -/
theorem plc_fill {h ca : Nat} {As Cs : List (List Nat)} {Lt : List Nat} (hW : WG G H) (hh : h < H) (hf : fitH G h ca As) (hAs : ∀ A ∈ As, okE G sc0 A) (hC : Cs.length = ghn G h) (hL : okE G (scHg G h) Lt) : subs (rho Cs) (subs (envS ca As (2000 + 6 * h) (plc (ghn G h))) Lt) = subs (envS ca As (2000 + 6 * h) Cs) Lt := by
  have hT := hW.1.1
  rw [subs_env, ← hC, rho_plc, map_id2 (fun A hA => rho_cl hT (hAs A hA).2)]
  intro x hx
  rcases hL.2 x hx with w | ⟨w1, w2, w3⟩
  · refine Or.inr ?_
    unfold rho
    rw [if_neg (by omega)]
  · obtain ⟨A, k1, -⟩ := fit_cov hW hh hf plc_len w3
    exact Or.inl ⟨A, k1⟩
theorem alk_fill {h ca g cb : Nat} {As Bs Cs : List (List Nat)} (hW : WG G H) (hh : h < H) (hg : g < H) (h1 : fitH G h ca As) (h2 : fitH G g cb Bs) (hAs : ∀ A ∈ As, okE G sc0 A) (hBs : ∀ A ∈ Bs, okE G sc0 A) (ha : alk G h ca As g cb Bs) (hC : Cs.length = ghn G h) : (∀ k, k < ghn G h → subs (envS ca As (2000 + 6 * h) Cs) (ghb G h k) = subs (envS cb Bs (2000 + 6 * g) Cs) (ghb G g k)) ∧ (∀ k, k < gvn G h → subs (envS ca As (2000 + 6 * h) Cs) (gvt G h k) = subs (envS cb Bs (2000 + 6 * g) Cs) (gvt G g k)) ∧ subs (envS ca As (2000 + 6 * h) Cs) (ght G h) = subs (envS cb Bs (2000 + 6 * g) Cs) (ght G g) := by
  obtain ⟨a1, a2, a3, a4, a5⟩ := ha
  obtain ⟨b1, b2, b3, -⟩ := hW.2.2.2.2.2.1 h hh
  obtain ⟨c1, c2, c3, -⟩ := hW.2.2.2.2.2.1 g hg
  refine ⟨fun k hk => ?_, fun k hk => ?_, ?_⟩
  · rw [← plc_fill hW hh h1 hAs hC (b1 k hk).1, ← plc_fill hW hg h2 hBs (hC.trans a1) (c1 k (by omega)).1, a2 k hk]
  · rw [← plc_fill hW hh h1 hAs hC (b2 k hk).1, ← plc_fill hW hg h2 hBs (hC.trans a1) (c2 k (by omega)).1, a4 k hk]
  · rw [← plc_fill hW hh h1 hAs hC b3, ← plc_fill hW hg h2 hBs (hC.trans a1) c3, a5]
theorem alk_rf {h ca : Nat} {As : List (List Nat)} : alk G h ca As h ca As := ⟨rfl, fun _ _ => rfl, rfl, fun _ _ => rfl, rfl⟩
/-- which function a call finds, and that it is like the head it was checked against -/
theorem call_hd {sc : Nat → Prop} {τ : Nat → Option (List Nat)} {A0 M V : List Nat} {x h cd v : Nat} {As Vs : List (List Nat)} {w : Int} (hW : WG G H) (hτ : wEnv G sc τ) (hA0 : okE G sc A0) (hm : midT G A0 M) (hcM : cutT M x As) (hM : okE G sc M) (hx : x / 8 < gT G) (hd : isHd G (x / 8) w h cd) (hV : vSt G V) (hcV : cutT V v Vs) (hi : impl G V (subs τ A0)) : ∃ kf g, kf < gF G ∧ g = gfh G kf ∧ gso G kf = v / 8 ∧ isHd G (v / 8) w g (4000 + 6 * kf) ∧ alk G h cd (As.map (subs τ)) g (4000 + 6 * kf) Vs := by
  have hT := hW.1.1
  obtain ⟨kV, v', Vs', cV', w1, w2⟩ := id hV
  obtain ⟨e1, e2⟩ := cutT_inj hcV cV'
  subst e1 e2
  -- the middle TYPE
  have hiM : impl G V (subs τ M) := by
    rcases hm with ⟨-, rfl⟩ | ⟨c, c1, rfl, rfl⟩
    · exact hi
    · have hs : sc c := by
        rcases hA0.2 (8 * c) List.mem_cons_self with q | q
        · omega
        · have := q.2.2
          rw [show 8 * c / 8 = c by omega] at this
          exact this
      obtain ⟨A', k1, -, k3⟩ := hτ.2.2 c hs
      refine k3 V hV ?_
      have : subs τ [8 * c] = A' := by
        rw [subs_cons, sub_some (by rw [show 8 * c / 8 = c by omega]; exact k1)]
        exact List.append_nil A'
      rw [← this]
      exact hi
  obtain ⟨oM, kM⟩ := wEnv_ok hT hτ hM
  have hcut := cut_subs hcM oM (hτ.1 _ (by omega))
  by_cases hst : gst G (x / 8) = 0
  · obtain ⟨y, Ds, hc', q⟩ := hiM
    obtain ⟨e1, e2⟩ := cutT_inj hcut hc'
    subst e1 e2
    rcases q with ⟨q, -⟩ | ⟨-, -, v', Vs', c', q⟩
    · rcases q with q | q
      · omega
      · exact absurd hst q
    · obtain ⟨e1, e2⟩ := cutT_inj hcV c'
      subst e1 e2
      rcases q with ⟨-, v', Vs', c', q⟩ | ⟨q, -⟩
      · obtain ⟨e1, e2⟩ := cutT_inj hcV c'
        subst e1 e2
        rcases hd with ⟨z, -⟩ | ⟨-, j, j1, j2, j3, j4, -⟩
        · exact absurd hst z
        · obtain ⟨g, cd', k1, k2⟩ := q j j1
          rw [← j2] at k1 k2
          rw [j3] at k1
          rcases id k1 with ⟨-, kf, f1, f2, f3, f4, f5, -⟩ | ⟨z, -⟩
          · subst f5
            exact ⟨kf, g, f1, f4, f2, k1, by rw [j4]; exact k2⟩
          · exact absurd z w2
      · omega
  · have e := impl_st hcut hst hiM
    rw [e] at hcV
    obtain ⟨e1, e2⟩ := cutT_inj hcV hcut
    subst e1 e2
    rcases id hd with ⟨-, kf, f1, f2, f3, f4, f5, -⟩ | ⟨z, -⟩
    · subst f5
      exact ⟨kf, h, f1, f4, f2, hd, alk_rf⟩
    · exact absurd z hst
/-- the env of the function called -/
theorem call_env {sc : Nat → Prop} {τ : Nat → Option (List Nat)} {M V : List Nat} {x h cd v kf g : Nat} {As Bs Vs : List (List Nat)} {w : Int} (hW : WG G H) (hsc : scC G H sc) (hτ : wEnv G sc τ) (hcM : cutT M x As) (hM : okE G sc M) (hx : x / 8 < gT G) (hd : isHd G (x / 8) w h cd) (hB : Bs.length = ghn G h) (hBs : ∀ B ∈ Bs, okE G sc B) (hbd : ∀ (k : Nat) (B : List Nat), Bs[k]? = some B → impl G B (subs (envS cd As (2000 + 6 * h) Bs) (ghb G h k))) (hV : vSt G V) (hcV : cutT V v Vs) (hVe : wEnv G (scDg G (v / 8)) (envS (1000 + 6 * (v / 8)) Vs 0 [])) (f1 : kf < gF G) (f2 : g = gfh G kf) (f3 : gso G kf = v / 8) (f4 : isHd G (v / 8) w g (4000 + 6 * kf)) (hal : alk G h cd (As.map (subs τ)) g (4000 + 6 * kf) Vs) : wEnv G (scHg G g) (envS (4000 + 6 * kf) Vs (2000 + 6 * g) (Bs.map (subs τ))) ∧ (∀ k, k < gvn G h → subs (envS (4000 + 6 * kf) Vs (2000 + 6 * g) (Bs.map (subs τ))) (gvt G g k) = subs τ (subs (envS cd As (2000 + 6 * h) Bs) (gvt G h k))) ∧ subs (envS (4000 + 6 * kf) Vs (2000 + 6 * g) (Bs.map (subs τ))) (ght G g) = subs τ (subs (envS cd As (2000 + 6 * h) Bs) (ght G h)) ∧ subs (envS (4000 + 6 * kf) Vs (2000 + 6 * g) (Bs.map (subs τ))) (thisT G kf) = V := by
  have hT := hW.1.1
  obtain ⟨kV, v', Vs', cV', w1, w2⟩ := id hV
  obtain ⟨e1, e2⟩ := cutT_inj hcV cV'
  subst e1 e2
  obtain ⟨vv, kVs⟩ := okE_cut hcV kV
  have hvm : v % 8 = gfm G (v / 8) := by
    rcases vv with z | z
    · exact z.2
    · exact absurd z.2.2 id
  have hVl : Vs.length = gfm G (v / 8) := by rw [hcV.2.2]; exact hvm
  obtain ⟨vx, kAs⟩ := okE_cut hcM hM
  have hAl : As.length = gfm G (x / 8) := by
    rw [hcM.2.2]
    rcases vx with z | z
    · exact z.2
    · omega
  obtain ⟨fh, hh⟩ := hd_fit (As := As) hW hx hd hAl
  obtain ⟨fh', -⟩ := hd_fit (As := As.map (subs τ)) hW hx hd (by rw [List.length_map]; exact hAl)
  obtain ⟨fg, hg⟩ := hd_fit (As := Vs) hW w1 f4 hVl
  obtain ⟨g1, g2, g3, g4⟩ := hW.2.2.2.2.2.2.1 kf f1
  have hgl : ghn G h = ghn G g := hal.1
  have hC : (Bs.map (subs τ)).length = ghn G h := by rw [List.length_map]; exact hB
  have kBs : ∀ A ∈ Bs.map (subs τ), okE G sc0 A := by
    intro A hA
    obtain ⟨B, b1, rfl⟩ := List.mem_map.mp hA
    exact (wEnv_ok hT hτ (hBs B b1)).2
  have kAt : ∀ A ∈ As.map (subs τ), okE G sc0 A := by
    intro A hA
    obtain ⟨B, b1, rfl⟩ := List.mem_map.mp hA
    exact (wEnv_ok hT hτ (kAs B b1)).2
  obtain ⟨a1, a2, a3⟩ := alk_fill hW hh hg fh' fg kAt kVs hal hC
  -- put, and put
  have put : ∀ Lt, okE G (scHg G h) Lt → subs τ (subs (envS cd As (2000 + 6 * h) Bs) Lt) = subs (envS cd (As.map (subs τ)) (2000 + 6 * h) (Bs.map (subs τ))) Lt := by
    intro Lt hL
    rw [subs_env]
    intro y hy
    rcases hL.2 y hy with z | ⟨z1, z2, z3⟩
    · exact Or.inr (hτ.1 _ (by omega))
    · obtain ⟨A, k1, -⟩ := fit_cov hW hh fh hB z3
      exact Or.inl ⟨A, k1⟩
  obtain ⟨b1, b2, b3, -⟩ := hW.2.2.2.2.2.1 h hh
  have h6 := (hW.2.1 _ w1).1
  have hg6 := (hW.2.2.1 g hg).1
  have hF := hW.1.2.1
  have hH := hW.1.2.2
  -- the receiver's parameters
  have eV : ∀ k, k < gpm G kf → ∃ A, Vs[k]? = some A ∧ envS (4000 + 6 * kf) Vs (2000 + 6 * g) (Bs.map (subs τ)) (4000 + 6 * kf + k) = some A := by
    intro k hk
    have hkl : k < Vs.length := by rw [hVl, ← f3, g4]; exact hk
    refine ⟨Vs[k], List.getElem?_eq_getElem hkl, envS_1 (by omega) ?_⟩
    unfold grp
    rw [if_pos (by omega), show 4000 + 6 * kf + k - (4000 + 6 * kf) = k by omega, List.getElem?_eq_getElem hkl]
  have prmV : (prm kf (gpm G kf)).map (subs (envS (4000 + 6 * kf) Vs (2000 + 6 * g) (Bs.map (subs τ)))) = Vs := by
    refine List.ext_getElem? (fun i => ?_)
    unfold prm
    rw [List.map_map, List.getElem?_map]
    by_cases hi : i < gpm G kf
    · rw [List.getElem?_range hi]
      obtain ⟨A, k1, k2⟩ := eV i hi
      show some (subs (envS (4000 + 6 * kf) Vs (2000 + 6 * g) (Bs.map (subs τ))) [8 * (4000 + 6 * kf + i)]) = _
      rw [subs_cons, sub_some (by rw [show 8 * (4000 + 6 * kf + i) / 8 = 4000 + 6 * kf + i by omega]; exact k2), k1]
      show some (A ++ []) = _
      rw [List.append_nil]
    · rw [List.getElem?_eq_none (by rw [List.length_range]; omega), List.getElem?_eq_none (by rw [hVl, ← f3, g4]; omega)]
      rfl
  refine ⟨⟨fun c hc => envS_lt hc, fun c hc => ?_, fun c hc => ?_⟩, fun k hk => ?_, ?_, ?_⟩
  · rw [envS_2 (by omega) (grp_none (Or.inr (by omega)))]
    exact grp_none (Or.inr (by omega))
  · obtain ⟨A, k1, k2⟩ := fit_cov hW hg fg (hC.trans hgl) hc
    refine ⟨A, k1, k2.elim (kVs A) (kBs A), fun V' hV' hi' => ?_⟩
    rcases hc with ⟨k, z1, rfl⟩ | ⟨d, z1, z2⟩ | ⟨f, z1, z2, k, z3, rfl⟩
    · have e1 : (2000 + 6 * g + k - 2000) / 6 = g := by omega
      have e2 : (2000 + 6 * g + k - 2000) % 6 = k := by omega
      have hbT : bdT G 0 (2000 + 6 * g + k) = ghb G g k := by
        unfold bdT
        rw [if_neg (by omega), if_pos (by omega), e1, e2]
      rw [hbT, ← a1 k (by omega), ← put _ (b1 k (by omega)).1]
      have hkB : k < Bs.length := by omega
      have hget : Bs[k]? = some Bs[k] := List.getElem?_eq_getElem hkB
      obtain ⟨B, hB'⟩ : ∃ B, B = Bs[k] := ⟨_, rfl⟩
      rw [← hB'] at hget
      have eA : A = subs τ B := by
        have hn : grp (4000 + 6 * kf) Vs (2000 + 6 * g + k) = none := grp_none (Or.inl (by omega))
        rw [envS_2 (by omega) hn] at k1
        unfold grp at k1
        rw [if_pos (by omega), show 2000 + 6 * g + k - (2000 + 6 * g) = k by omega, List.getElem?_map, hget] at k1
        exact (Option.some.inj k1).symm
      rw [eA] at hi'
      have okB := hBs B (List.mem_of_getElem? hget)
      refine impl_sub hW hsc hτ okB (okE_subs hT (b1 k (by omega)).1 (fun c hc => envS_lt hc) (fun c hc' => ?_)) (hbd k B hget) hV' hi'
      obtain ⟨A', q1, q2⟩ := fit_cov hW hh fh hB hc'
      exact Or.inl ⟨A', q1, q2.elim (kAs A') (hBs A')⟩
    · rw [f2] at z1
      exact absurd z1 (hW.2.2.2.2.2.2.2.2.1 kf d f1)
    · have ef : f = kf := hW.2.2.2.2.2.2.2.1 f kf z1 f1 (by rw [z2, f2])
      subst ef
      have hk6 : k < 6 := by
        have q1 := g4
        rw [f3] at q1
        omega
      have e1 : (4000 + 6 * f + k - 4000) / 6 = f := by omega
      have e2 : (4000 + 6 * f + k - 4000) % 6 = k := by omega
      have hbT : bdT G 0 (4000 + 6 * f + k) = subs (envS (1000 + 6 * gso G f) (prm f (gfm G (gso G f))) 0 []) (gfb G (gso G f) k) := by
        unfold bdT
        rw [if_neg (by omega), if_neg (by omega), e1, e2]
      have okb := (hW.2.2.2.1 _ g2 k (by omega)).1
      rw [hbT, subs_env, g4, prmV]
      · obtain ⟨A', p1, -, p3⟩ := hVe.2.2 (1000 + 6 * (v / 8) + k) ⟨k, by rw [← f3, g4]; exact z3, rfl⟩
        have hbT2 : bdT G 0 (1000 + 6 * (v / 8) + k) = gfb G (v / 8) k := bdT_dk (Nat.lt_of_lt_of_le w1 hT) hk6
        rw [hbT2] at p3
        rw [f3]
        refine p3 V' hV' ?_
        obtain ⟨A2, q1, q2⟩ := eV k z3
        rw [k1] at q2
        have : A = A2 := Option.some.inj q2
        have hA' : A' = A2 := by
          unfold envS grp at p1
          rw [if_neg (by omega), if_pos (by omega), show 1000 + 6 * (v / 8) + k - (1000 + 6 * (v / 8)) = k by omega, q1] at p1
          exact (Option.some.inj p1).symm
        rw [hA', ← this]
        exact hi'
      · intro y hy
        rcases okb.2 y hy with z | ⟨q1, q2, q3⟩
        · exact Or.inr (envS_lt (by omega))
        · obtain ⟨k', -, p2, -⟩ := prm_env (b1 := 0) q3
          exact Or.inl ⟨_, p2⟩
  · rw [put _ (b2 k hk).1, a2 k hk]
  · rw [put _ b3, a3]
  · have hcut := this_cut hW f1
    have hx0 : (8 * gso G kf + gpm G kf) / 8 = gso G kf := by
      have q1 := g4
      rw [f3] at q1 ⊢
      omega
    rw [hcut.1, subs_cons, sub_none (envS_lt (by omega)), subs_flat, prmV, hcV.1]
    have : 8 * gso G kf + gpm G kf = v := by rw [f3, ← g4, f3]; omega
    rw [this]
    rfl
end CL
