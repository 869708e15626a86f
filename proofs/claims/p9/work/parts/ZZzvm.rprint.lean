/-! ===== the reference: print, values ===== -/
/-- value v: its TYPE -/
def RVa (ar : Int → Int) (b : Nat) (s : yS) (v : Nat) (A : List Int) : Prop := ∃ p : Nat, (s.2.1 275 v).toInt = (p : Int) ∧ (s.2.1 276 v).toInt = (A.length : Int) ∧ ((10 + 4100 * b ≤ p ∧ p + A.length ≤ 10 + 4100 * (b + 1)) ∨ (13000 ≤ p ∧ p + A.length ≤ 20000)) ∧ ∀ (i : Nat) (c : Int), A[i]? = some c → (s.2.1 264 (p + i)).toInt = 8 * c + ar c
/-- values, their parts -/
def vRn (ar : Int → Int) (nT : Int) (b : Nat) (s : yS) (vs : Vls) : Prop := ∀ (v : Nat) (A : List Int) (ps : List Nat), vs[v]? = some (A, ps) → (isR ar 1 A ∧ ∀ c ∈ A, 0 ≤ c ∧ c < nT) ∧ RVa ar b s v A ∧ (s.2.1 239 (24 * b + (A.headD 0).toNat)).toInt = (ps.length : Int) ∧ ∀ (k u : Nat), ps[k]? = some u → (s.2.1 277 (6 * v + k)).toInt = (u : Int) ∧ u < v
/-- values that are open -/
def opR (w : yS) (S : List (Nat × Nat)) : Prop := (w.1 124).toInt = (S.length : Int) ∧ ∀ (j v k : Nat), S[j]? = some (v, k) → (w.2.1 286 (S.length - 1 - j)).toInt = (v : Int) ∧ (w.2.1 287 (S.length - 1 - j)).toInt = (k : Int)
section ZYF
variable {ar : Int → Int} {pw : Int → List Int} {d b : Nat} {s u : yS} {a1 : Int32} {t : List Int} {nT : Int} {vs : Vls}
theorem vRn_f {ks rs : List Nat} (h : vRn ar nT b s vs) (hx : eqx ks rs [] s u) (h1 : ∀ q ∈ [239, 264, 275, 276, 277], q ∉ rs) : vRn ar nT b u vs := fun v A ps hv => by
  obtain ⟨g1, ⟨p, p1, p2, pl, p3⟩, g3, g4⟩ := h v A ps hv
  refine ⟨g1, ⟨p, by rw [hx.2.1 275 (h1 275 (by decide))]; exact p1, by rw [hx.2.1 276 (h1 276 (by decide))]; exact p2, pl, fun i c hc => by rw [hx.2.1 264 (h1 264 (by decide))]; exact p3 i c hc⟩, by rw [hx.2.1 239 (h1 239 (by decide))]; exact g3, fun k u hu => by rw [hx.2.1 277 (h1 277 (by decide))]; exact g4 k u hu⟩
theorem vRn_q (h : vRn ar nT b s vs) : VSq vs := fun v A ps hv u hu => by
  obtain ⟨k, hk, e⟩ := List.mem_iff_getElem.mp hu
  exact ((h v A ps hv).2.2.2 k u (by rw [List.getElem?_eq_getElem hk, e])).2
theorem vR_at {v : Nat} (h : vRn ar nT b s vs) (hv : v < vs.length) : ∃ (A : List Int) (ps : List Nat), vs[v]? = some (A, ps) ∧ prt vs v = ps ∧ (isR ar 1 A ∧ ∀ c ∈ A, 0 ≤ c ∧ c < nT) ∧ RVa ar b s v A ∧ (s.2.1 239 (24 * b + (A.headD 0).toNat)).toInt = (ps.length : Int) ∧ ∀ (k u : Nat), ps[k]? = some u → (s.2.1 277 (6 * v + k)).toInt = (u : Int) ∧ u < v := by
  obtain ⟨⟨A, ps⟩, hq⟩ : ∃ q, vs[v]? = some q := ⟨_, List.getElem?_eq_getElem hv⟩
  exact ⟨A, ps, hq, prt_e hq, h v A ps hq⟩
theorem SAy_w (h : SAy s u) : eqx vK vR [] s u := eqx_mo h.1 (by decide) (by decide) (by decide)
set_option maxHeartbeats 2000000 in
/-- beginValue -/
theorem x_266 {v m : Nat} {A : List Int} (h6 : ∀ c, 0 ≤ ar c ∧ ar c ≤ 7) (hR : isR ar 1 A ∧ ∀ c ∈ A, 0 ≤ c ∧ c < nT) (hV : RVa ar b s v A) (hN : NMr b nT pw s) (hs : sOK s) (hO : OUr s (ouT t)) (ha : a1.toInt = (v : Int)) (hm : (s.1 124).toInt = (m : Int)) : Par d 266 [.ref 213, .int a1] s (fun r s' => r = none ∧ eqx vK vR [] s s' ∧ sOK s' ∧ OUr s' (ouT (t ++ (txT ar pw A ++ [123]))) ∧ (s'.1 124).toInt = (m : Int) + 1 ∧ ∀ i, (s'.2.1 286 i).toInt = (if i = m then (v : Int) else (s.2.1 286 i).toInt) ∧ (s'.2.1 287 i).toInt = (if i = m then 0 else (s.2.1 287 i).toInt)) := by
  cases d with
  | zero => exact Par_0
  | succ d =>
    obtain ⟨p, p1, p2, -, p3⟩ := hV
    refine pb_266 ?_
    unfold ub_266_0 ubl_266_2
    refine ⟨fun z1 z2 f => z1 = a1 ∧ f.1 = s.1 ∧ f.2.2 = s.2.2 ∧ (∀ q, ¬ q = 285 → f.2.1 q = s.2.1 q) ∧ ∃ i : Nat, z2.toInt = (i : Int) ∧ i ≤ A.length ∧ ∀ j, j < i → f.2.1 285 j = s.2.1 264 (p + j), ⟨rfl, rfl, rfl, fun _ _ => rfl, 0, rfl, Nat.zero_le _, fun j hj => absurd hj (Nat.not_lt_zero _)⟩, ?_⟩
    rintro z1 z2 f ⟨e1, t1, t2, t3, i, i1, i2, i3⟩
    have e1 := e1.symm
    subst e1
    unfold ub_266_2
    rw [show a1.toInt.toNat = v by omega, t3 275 (by decide), t3 276 (by decide), t3 264 (by decide), p1, p2]
    refine fun _ => ⟨fun hend => ?_, fun hmore _ _ x10 hx10 _ _ s11 hs11 _ x12 hx12 => ?_⟩
    · have ei : i = A.length := by omega
      have tx : eqx vK vR [] s f := ⟨fun k _ => by rw [t1], fun q hq => t3 q (fun w => hq (by rw [w]; decide)), fun q _ => by rw [t2]⟩
      have ts : sOK f := by unfold sOK at hs ⊢; rw [t1]; exact hs
      have tO : OUr f (ouT t) := by
        obtain ⟨o1, o2, o3⟩ := hO
        exact ⟨by rw [t1]; exact o1, o2, fun i x hx => by rw [t3 284 (by decide)]; exact o3 i x hx⟩
      refine Par.imp (x_265 (nT := nT) (b := b) (pw := pw) h6 d A 0 f 0 t hR.1 hR.2 (fun j c hc => ?_) rfl (NMr_f hN tx (by decide) (by decide) (by decide)) ts tO) ?_
      · have hj := (List.getElem?_eq_some_iff.mp hc).1
        rw [Nat.zero_add, i3 j (by omega)]
        exact p3 j c hc
      rintro r u ⟨x3, rfl, -, uS, uO⟩
      refine ⟨x3, rfl, ?_⟩
      refine Par.imp (Par_and (Par_tot (d := 1) (s_261' (d := 0) (s := u) uS.2.1)) (x_261 (x := 123) uO (by decide))) ?_
      rintro r g ⟨⟨rfl, gS, -⟩, -, -, gO⟩
      have sg := SAy_tr uS gS
      have g124 : g.1 124 = s.1 124 := by rw [sg.1.1 124 (by decide), t1]
      refine ⟨rfl, fun _ s6 hs6 _ s7 hs7 _ x8 hx8 s9 hs9 => ?_⟩
      have e6 : s6.1 = g.1 := by rw [hs6]; rfl
      have e7 : s7.1 = g.1 := by rw [hs7]; exact e6
      rw [e7, g124] at hx8
      have r86 : ∀ q, ¬ q = 284 → ¬ q = 285 → g.2.1 q = s.2.1 q := fun q q1 q2 => by
        rw [sg.1.2.1 q (fun w => q1 (List.mem_singleton.mp w)), t3 q q2]
      have R6 : ∀ q i, s9.2.1 q i = if q = 287 ∧ i = m then 0 else if q = 286 ∧ i = m then a1 else g.2.1 q i := fun q i => by
        rw [hs9, sf_2, hs7, sa_21, e6, g124, hs6, sa_21, g124, show (s.1 124).toInt.toNat = m by omega]
      have hX : eqx vK vR [] s s9 := by
        rw [hs9, hs7, hs6]
        exact eqx_sf (eqx_sa (eqx_sa (eqx_tr tx (SAy_w sg)) (by decide)) (by decide)) (by decide)
      have e120 : s9.1 120 = g.1 120 := by rw [hs9, sf_1, if_neg (by decide), e7]
      refine ⟨rfl, hX, by unfold sOK; rw [e120]; exact sg.2.1, ?_, by rw [hs9, sf_1, if_pos rfl]; omega, fun i => ?_⟩
      · obtain ⟨o1, o2, o3⟩ := gO
        rw [List.append_assoc] at o1 o2 o3
        exact ⟨by rw [e120]; exact o1, o2, fun i x hx => by rw [R6, if_neg (fun w => absurd w.1 (by decide)), if_neg (fun w => absurd w.1 (by decide))]; exact o3 i x hx⟩
      · have r6 : s9.2.1 286 i = if i = m then a1 else g.2.1 286 i := by
          rw [R6, if_neg (fun w => absurd w.1 (by decide))]
          by_cases e : i = m
          · rw [if_pos ⟨rfl, e⟩, if_pos e]
          · rw [if_neg (fun w => e w.2), if_neg e]
        have r7 : s9.2.1 287 i = if i = m then 0 else g.2.1 287 i := by
          rw [R6]
          by_cases e : i = m
          · rw [if_pos ⟨rfl, e⟩, if_pos e]
          · rw [if_neg (fun w => e w.2), if_neg (fun w => absurd w.1 (by decide)), if_neg e]
        rw [r6, r7]
        by_cases e : i = m
        · simp only [if_pos e]
          exact ⟨ha, by decide⟩
        · simp only [if_neg e]
          rw [r86 286 (by decide) (by decide), r86 287 (by decide) (by decide)]
          exact ⟨rfl, rfl⟩
    · refine ⟨rfl, ?_⟩
      have hs11' : ∀ q j, s11.2.1 q j = if q = 285 ∧ j = i then s.2.1 264 (p + i) else f.2.1 q j := fun q j => by
        rw [hs11, sa_21, show z2.toInt.toNat = i by omega, show x10.toInt.toNat = p + i by omega]
      refine ⟨by rw [hs11]; exact t1, by rw [hs11]; exact t2, fun q hq => ?_, i + 1, by omega, by omega, fun j hj => ?_⟩
      · funext j
        rw [hs11', if_neg (fun w => hq w.1), t3 q hq]
      · rw [hs11']
        by_cases ej : j = i
        · rw [if_pos ⟨rfl, ej⟩, ej]
        · rw [if_neg (fun w => ej w.2)]
          exact i3 j (by omega)
set_option maxHeartbeats 4000000 in
/-- sayValue -/
theorem x_267 {v0 : Nat} (h6 : ∀ c, 0 ≤ ar c ∧ ar c ≤ 7) (h24 : nT ≤ 24) (hV : vRn ar nT b s vs) (hN : NMr b nT pw s) (hs : sOK s) (hO : OUr s (ouT [])) (ha : a1.toInt = (v0 : Int)) (hv : v0 < vs.length) : Par d 267 [.ref 213, .int a1] s (fun r s' => r = none ∧ eqx vK vR [] s s' ∧ sOK s' ∧ OUr s' (ouT (vtx ar pw vs v0))) := by
  cases d with
  | zero => exact Par_0
  | succ d =>
    have hq := vRn_q hV
    obtain ⟨A0, ps0, q1, q2, q3, q4, q5, q6⟩ := vR_at hV hv
    refine pb_267 ?_
    unfold ub_267_0
    intro s1 hs1
    have x0 : eqx vK vR [] s s1 := by rw [hs1]; exact eqx_sf eqx_rf (by decide)
    have r1 : s1.2 = s.2 := by rw [hs1, sf_2]
    have s1O : OUr s1 (ouT []) := by
      obtain ⟨o1, o2, o3⟩ := hO
      exact ⟨by rw [hs1, sf_1, if_neg (by decide)]; exact o1, o2, fun i x hx => by cases hx⟩
    have s1s : sOK s1 := by
      unfold sOK at hs ⊢
      rw [hs1, sf_1, if_neg (by decide)]
      exact hs
    have q4' : RVa ar b s1 v0 A0 := by
      obtain ⟨p, p1, p2, pl, p3⟩ := q4
      exact ⟨p, by rw [r1]; exact p1, by rw [r1]; exact p2, pl, fun i c hc => by rw [r1]; exact p3 i c hc⟩
    refine Par.imp (x_266 (m := 0) (pw := pw) (b := b) h6 q3 q4' (NMr_f hN x0 (by decide) (by decide) (by decide)) s1s s1O ha (by rw [hs1, sf_1, if_pos rfl]; decide)) ?_
    rintro r s2 ⟨rfl, X2, S2, O2, m2, R2⟩
    refine ⟨rfl, ?_⟩
    obtain ⟨I, hI⟩ : ∃ I : Int32 → yS → Prop, ∀ c f, I c f ↔ (eqx vK vR [] s f ∧ sOK f ∧ ∃ (S : List (Nat × Nat)) (t : List Int), opR f S ∧ (∀ p ∈ S, p.1 < vs.length ∧ p.2 ≤ (prt vs p.1).length) ∧ OUr f (ouT t) ∧ ouT (t ++ vxR (vtx ar pw vs) vs S) = ouT (vtx ar pw vs v0)) := ⟨_, fun _ _ => Iff.rfl⟩
    unfold ubl_267_6
    refine ⟨I, (hI _ _).mpr ⟨eqx_tr x0 X2, S2, [(v0, 0)], txT ar pw A0 ++ [123], ⟨?_, fun j v k hj => ?_⟩, fun p hp => ?_, O2, ?_⟩, ?_⟩
    · rw [m2]
      rfl
    · match j, hj with
      | 0, hj =>
        obtain ⟨rfl, rfl⟩ := Prod.mk.inj (Option.some.inj hj)
        have := R2 0
        rw [if_pos rfl, if_pos rfl] at this
        exact this
    · rw [List.mem_singleton.mp hp]
      exact ⟨hv, Nat.zero_le _⟩
    · rw [vtx_e hq q1]
      show ouT ((txT ar pw A0 ++ [123]) ++ (vxP (vtx ar pw vs) ((prt vs v0).drop 0) 0 ++ [])) = _
      rw [q2, List.drop_zero, List.append_nil, List.append_assoc]
      rfl
    intro c f hf
    obtain ⟨Xf, Sf, S, t, ⟨o1, o2⟩, i4, fO, i8⟩ := (hI _ _).mp hf
    unfold ub_267_6
    match S, o1, o2, i4, i8 with
    | [], o1, _, _, i8 =>
      have o1 : (f.1 124).toInt = 0 := o1
      refine ⟨fun _ => ⟨rfl, Xf, Sf, ?_⟩, fun w => absurd (by omega) w⟩
      rw [← i8]
      show OUr f (ouT (t ++ []))
      rw [List.append_nil]
      exact fO
    | (v1, k1) :: S', o1, o2, i4, i8 =>
      rw [List.length_cons] at o1
      obtain ⟨g1, g2⟩ := i4 (v1, k1) List.mem_cons_self
      have g1 : v1 < vs.length := g1
      have g2 : k1 ≤ (prt vs v1).length := g2
      have fV := vRn_f hV Xf (by decide)
      have fN := NMr_f hN Xf (by decide) (by decide) (by decide)
      obtain ⟨A1, ps1, m1, m2', m3, ⟨p, p1, p2, -, p3⟩, m5, m6⟩ := vR_at fV g1
      obtain ⟨z1, z3⟩ := o2 0 v1 k1 rfl
      rw [List.length_cons, show S'.length + 1 - 1 - 0 = S'.length by omega] at z1 z3
      have h24' := m3.2 _ (List.mem_of_getElem? (hd_R m3.1))
      refine ⟨fun w => absurd w (by omega), fun _ _ x1 hx1 _ _ x2 hx2 _ _ x3 hx3 _ _ => ?_⟩
      rw [show x1.toInt.toNat = S'.length by omega, show x2.toInt.toNat = S'.length by omega, show (f.2.1 286 S'.length).toInt.toNat = v1 by omega, show (f.2.1 275 v1).toInt.toNat = p by omega]
      refine Par.imp x_185 ?_
      rintro r g ⟨e, x6, rfl, hx6⟩
      have e := e.symm
      subst e
      have hp0 := p3 0 _ (hd_R m3.1)
      rw [Nat.add_zero] at hp0
      have hac := h6 (A1.headD 0)
      rw [hp0] at hx6
      rw [fN.1] at hx3
      refine ⟨x6, rfl, fun _ x7 hx7 _ => ?_⟩
      rw [show x7.toInt.toNat = 24 * b + (A1.headD 0).toNat by omega, m5, z3]
      rw [m2'] at g2
      have pop : (ouT (t ++ (vxP (vtx ar pw vs) (ps1.drop k1) k1 ++ vxR (vtx ar pw vs) vs S')) = ouT ((t ++ [125]) ++ vxR (vtx ar pw vs) vs S')) → ub_267_74 (Par d) I c (f.2.1 286 S'.length) (f.2.1 287 S'.length) f (fun r s' => r = none ∧ eqx vK vR [] s s' ∧ sOK s' ∧ OUr s' (ouT (vtx ar pw vs v0))) := by
        intro htx
        unfold ub_267_74 ub_267_83
        refine Par.imp (Par_and (Par_tot (d := 1) (s_261' (d := 0) (s := f) Sf)) (x_261 (x := 125) fO (by decide))) ?_
        rintro r g ⟨⟨rfl, gS, -⟩, -, -, gO⟩
        have g124 : g.1 124 = f.1 124 := gS.1.1 124 (by decide)
        refine ⟨rfl, fun _ y3 hy3 s4 hs4 => (hI _ _).mpr ⟨?_, ?_, S', t ++ [125], ⟨?_, fun j v k hj => ?_⟩, fun q hq => i4 q (List.mem_cons_of_mem _ hq), ?_, ?_⟩⟩
        · rw [hs4]
          exact eqx_sf (eqx_tr Xf (SAy_w gS)) (by decide)
        · unfold sOK
          rw [hs4, sf_1, if_neg (by decide)]
          exact gS.2.1
        · rw [hs4, sf_1, if_pos rfl]
          rw [g124] at hy3
          omega
        · have hj' := (List.getElem?_eq_some_iff.mp hj).1
          have := o2 (j + 1) v k hj
          rw [List.length_cons, show S'.length + 1 - 1 - (j + 1) = S'.length - 1 - j by omega] at this
          rw [hs4, sf_2, gS.1.2.1 286 (by decide), gS.1.2.1 287 (by decide)]
          exact this
        · obtain ⟨w1, w2, w3⟩ := gO
          exact ⟨by rw [hs4, sf_1, if_neg (by decide)]; exact w1, w2, fun i x hx => by rw [hs4, sf_2]; exact w3 i x hx⟩
        · rw [← i8, ← htx]
          show _ = ouT (t ++ (vxP (vtx ar pw vs) ((prt vs v1).drop k1) k1 ++ vxR (vtx ar pw vs) vs S'))
          rw [m2']
      have push : ∀ (g : yS) (sep : List Int), SAy f g → sep = (if k1 = 0 then [] else [44]) → OUr g (ouT (t ++ sep)) → k1 < ps1.length → ub_267_52 (Par d) I c (f.2.1 286 S'.length) (f.2.1 287 S'.length) g (fun r s' => r = none ∧ eqx vK vR [] s s' ∧ sOK s' ∧ OUr s' (ouT (vtx ar pw vs v0))) := by
        intro g sep gS hsep gO hk
        have g124 : g.1 124 = f.1 124 := gS.1.1 124 (by decide)
        have gr : ∀ q, ¬ q = 284 → g.2.1 q = f.2.1 q := fun q hq => gS.1.2.1 q (fun w => hq (List.mem_singleton.mp w))
        unfold ub_267_52 ub_267_83
        rw [g124, z1, z3]
        intro _ y1 hy1 _
        rw [show y1.toInt.toNat = S'.length by omega, gr 287 (by decide), z3]
        intro _ y2 hy2 _ s3 hs3 _ y4 hy4 _ y5 hy5 _
        obtain ⟨u1, hu1⟩ : ∃ u1, ps1[k1]? = some u1 := ⟨_, List.getElem?_eq_getElem hk⟩
        obtain ⟨w1, w2⟩ := m6 k1 u1 hu1
        have R3 : ∀ q j, s3.2.1 q j = if q = 287 ∧ j = S'.length then y2 else g.2.1 q j := fun q j => by rw [hs3, sa_21]
        have X3 : eqx vK vR [] s s3 := by
          rw [hs3]
          exact eqx_sa (eqx_tr Xf (SAy_w gS)) (by decide)
        have s31 : s3.1 = g.1 := by rw [hs3]; rfl
        have e77 : (s3.2.1 277 y5.toInt.toNat).toInt = (u1 : Int) := by
          rw [R3, if_neg (fun w => absurd w.1 (by decide)), gr 277 (by decide), show y5.toInt.toNat = 6 * v1 + k1 by omega]
          exact w1
        have V3 := vRn_f hV X3 (by decide)
        obtain ⟨Au, pu, n1, n2, n3, n4, n5, n6⟩ := vR_at V3 (show u1 < vs.length by omega)
        have O3 : OUr s3 (ouT (t ++ sep)) := by
          obtain ⟨v1', v2', v3'⟩ := gO
          exact ⟨by rw [s31]; exact v1', v2', fun i x hx => by rw [R3, if_neg (fun w => absurd w.1 (by decide))]; exact v3' i x hx⟩
        refine Par.imp (x_266 (m := S'.length + 1) (pw := pw) (b := b) h6 n3 n4 (NMr_f hN X3 (by decide) (by decide) (by decide)) (by unfold sOK; rw [s31]; exact gS.2.1) O3 e77 (by rw [s31, g124, o1])) ?_
        rintro r h ⟨rfl, hX, hs', hO', h124, hR⟩
        refine ⟨rfl, (hI _ _).mpr ⟨eqx_tr X3 hX, hs', (u1, 0) :: (v1, k1 + 1) :: S', (t ++ sep) ++ (txT ar pw Au ++ [123]), ⟨?_, fun j v k hj => ?_⟩, fun p hp => ?_, hO', ?_⟩⟩
        · rw [h124, List.length_cons, List.length_cons]
          omega
        · rw [List.length_cons, List.length_cons]
          match j, hj with
          | 0, hj =>
            obtain ⟨rfl, rfl⟩ := Prod.mk.inj (Option.some.inj hj)
            have := hR (S'.length + 1)
            rw [if_pos rfl, if_pos rfl] at this
            exact this
          | 1, hj =>
            obtain ⟨rfl, rfl⟩ := Prod.mk.inj (Option.some.inj hj)
            have := hR S'.length
            rw [if_neg (by omega), if_neg (by omega), R3, if_neg (fun w => absurd w.1 (by decide)), R3, if_pos ⟨rfl, rfl⟩, gr 286 (by decide), z1] at this
            rw [show S'.length + 1 + 1 - 1 - 1 = S'.length by omega]
            exact ⟨this.1, by rw [this.2]; omega⟩
          | j + 2, hj =>
            have hj' := (List.getElem?_eq_some_iff.mp hj).1
            rw [List.length_cons, List.length_cons] at hj'
            have q := o2 (j + 1) v k hj
            rw [List.length_cons, show S'.length + 1 - 1 - (j + 1) = S'.length - 1 - j by omega] at q
            have := hR (S'.length - 1 - j)
            rw [if_neg (by omega), if_neg (by omega), R3, if_neg (fun w => absurd w.1 (by decide)), R3, if_neg (fun w => by omega), gr 286 (by decide), gr 287 (by decide), q.1, q.2] at this
            rw [show S'.length + 1 + 1 - 1 - (j + 2) = S'.length - 1 - j by omega]
            exact this
        · rcases List.mem_cons.mp hp with rfl | hp
          · exact ⟨by show u1 < vs.length; omega, Nat.zero_le _⟩
          · rcases List.mem_cons.mp hp with rfl | hp
            · refine ⟨g1, ?_⟩
              show k1 + 1 ≤ (prt vs v1).length
              rw [m2']
              omega
            · exact i4 p (List.mem_cons_of_mem _ hp)
        · rw [← i8]
          show ouT (((t ++ sep) ++ (txT ar pw Au ++ [123])) ++ (vxP (vtx ar pw vs) ((prt vs u1).drop 0) 0 ++ (vxP (vtx ar pw vs) ((prt vs v1).drop (k1 + 1)) (k1 + 1) ++ vxR (vtx ar pw vs) vs S'))) = ouT (t ++ (vxP (vtx ar pw vs) ((prt vs v1).drop k1) k1 ++ vxR (vtx ar pw vs) vs S'))
          rw [n2, m2', List.drop_zero, vx_step hu1, vtx_e hq n1, hsep]
          simp only [List.append_assoc, List.cons_append, List.nil_append]
      refine ⟨fun w => pop ?_, fun w => ⟨fun w2 => pop ?_, fun w2 => ⟨fun w3 => push f [] (SAy_rf Sf) ?_ (by rw [List.append_nil]; exact fO) (by omega), fun w3 => ?_⟩⟩⟩
      · rw [List.drop_of_length_le (by omega), List.append_assoc]
        rfl
      · have hl := fO.1
        rw [ouT_len] at hl
        rw [ouT_fu (by omega), List.append_assoc, ouT_fu (by omega)]
      · rw [if_pos (by omega)]
      · refine Par.imp (Par_and (Par_tot (d := 1) (s_261' (d := 0) (s := f) Sf)) (x_261 (x := 44) fO (by decide))) ?_
        rintro r g ⟨⟨rfl, gS, -⟩, -, -, gO⟩
        exact ⟨rfl, push g [44] gS (by rw [if_neg (by omega)]) gO (by omega)⟩
/-- main's TYPE, in the reference -/
def MNr (ar : Int → Int) (b : Nat) (s : yS) (A : List Int) : Prop := (s.2.1 274 b).toInt = (A.length : Int) ∧ ∀ (i : Nat) (c : Int), A[i]? = some c → (s.2.1 273 (60 * b + i)).toInt = 8 * c + ar c
/-- print: nothing to say -/
theorem x_268n (h0 : ¬ (a1.toInt = 0 ∧ ¬ (s.1 90).toInt = 0)) (h1 : ¬ (a1.toInt = 1 ∧ ¬ (s.1 90).toInt = 0 ∧ (s.1 91).toInt = 0)) : Par d 268 [.ref 213, .int a1] s (fun v s' => v = some (.int (-1)) ∧ s' = sf s 0 0) := by
  cases d with
  | zero => exact Par_0
  | succ d =>
    refine pb_268 ?_
    unfold ub_268_0 ub_268_17
    rintro s1 rfl
    have e90 : (sf s 0 0).1 90 = s.1 90 := rfl
    have e91 : (sf s 0 0).1 91 = s.1 91 := rfl
    rw [e90, e91]
    exact ⟨fun _ => ⟨rfl, rfl⟩, fun w => ⟨fun _ => ⟨rfl, rfl⟩, fun w1 => ⟨fun _ => ⟨rfl, rfl⟩, fun w2 => ⟨fun w3 => absurd ⟨by omega, w⟩ h0, fun w3 => ⟨fun w4 => absurd ⟨w3, w, w4⟩ h1, fun _ => ⟨rfl, rfl⟩⟩⟩⟩⟩⟩
theorem OUr_0 : OUr (sf (sf s 0 0) 120 0) (ouT []) := ⟨rfl, Nat.zero_le _, fun i x hx => by cases hx⟩
set_option maxHeartbeats 2000000 in
/-- print: main's TYPE -/
theorem x_268t {A : List Int} (h6 : ∀ c, 0 ≤ ar c ∧ ar c ≤ 7) (h0 : a1.toInt = 0) (h90 : ¬ (s.1 90).toInt = 0) (hR : isR ar 1 A ∧ ∀ c ∈ A, 0 ≤ c ∧ c < nT) (hM : MNr ar b s A) (hN : NMr b nT pw s) : Par d 268 [.ref 213, .int a1] s (fun v s' => v = some (.int (s'.1 120)) ∧ eqx pnK vR [] s s' ∧ OUr s' (ouT (txT ar pw A))) := by
  cases d with
  | zero => exact Par_0
  | succ d =>
    refine pb_268 ?_
    unfold ub_268_0
    rintro s1 rfl
    have e90 : (sf s 0 0).1 90 = s.1 90 := rfl
    rw [e90]
    refine ⟨fun w => absurd w h90, fun _ => ⟨fun w => absurd w (by omega), fun _ => ⟨fun w => absurd w (by omega), fun _ => ⟨fun _ => ?_, fun w => absurd w (by omega)⟩⟩⟩⟩
    unfold ub_268_19
    rintro s2 rfl
    refine ⟨fun _ => ?_, fun w => absurd w (by omega)⟩
    have x2 : eqx pnK vR [] s (sf (sf s 0 0) 120 0) := eqx_sf (eqx_sf eqx_rf (by decide)) (by decide)
    obtain ⟨m1, m2⟩ := hM
    unfold ubl_268_34
    refine ⟨fun _ z2 f => f.1 = (sf (sf s 0 0) 120 0).1 ∧ f.2.2 = s.2.2 ∧ (∀ q, ¬ q = 285 → f.2.1 q = s.2.1 q) ∧ ∃ i : Nat, z2.toInt = (i : Int) ∧ i ≤ A.length ∧ ∀ j, j < i → f.2.1 285 j = s.2.1 273 (60 * b + j), ⟨rfl, rfl, fun _ _ => rfl, 0, rfl, Nat.zero_le _, fun j hj => absurd hj (Nat.not_lt_zero _)⟩, ?_⟩
    rintro z1 z2 f ⟨t1, t2, t3, i, i1, i2, i3⟩
    have t29 : (f.1 29).toInt = (b : Int) := by rw [t1]; exact hN.1
    unfold ub_268_34
    rw [show (f.1 29).toInt.toNat = b by omega, t3 274 (by decide), t3 273 (by decide), t29, m1]
    refine fun _ => ⟨fun hend => ?_, fun hmore _ x4 hx4 _ x5 hx5 _ _ s6 hs6 _ x7 hx7 => ?_⟩
    · have ei : i = A.length := by omega
      have tx : eqx pnK vR [] s f := ⟨fun k hk => by rw [t1]; exact x2.1 k hk, fun q hq => t3 q (fun w => hq (by rw [w]; decide)), fun q _ => by rw [t2]⟩
      have ts : sOK f := by unfold sOK; rw [t1]; exact ⟨(show (0 : Int) ≤ (0 : Int32).toInt by decide), (show (0 : Int32).toInt ≤ 2000 by decide)⟩
      have tO : OUr f (ouT []) := ⟨by rw [t1]; rfl, Nat.zero_le _, fun i x hx => by cases hx⟩
      refine Par.imp (x_265 (nT := nT) (b := b) (pw := pw) h6 d A 0 f 0 [] hR.1 hR.2 (fun j c hc => ?_) rfl (NMr_f hN tx (by decide) (by decide) (by decide)) ts tO) ?_
      · have hj := (List.getElem?_eq_some_iff.mp hc).1
        rw [Nat.zero_add, i3 j (by omega)]
        exact m2 j c hc
      rintro r u ⟨x3, rfl, -, uS, uO⟩
      exact ⟨x3, rfl, rfl, eqx_tr tx (eqx_mo uS.1 (by decide) (by decide) (by decide)), uO⟩
    · have hs6' : ∀ q j, s6.2.1 q j = if q = 285 ∧ j = i then s.2.1 273 (60 * b + i) else f.2.1 q j := fun q j => by
        rw [hs6, sa_21, show z2.toInt.toNat = i by omega, show x5.toInt.toNat = 60 * b + i by omega]
      refine ⟨by rw [hs6]; exact t1, by rw [hs6]; exact t2, fun q hq => ?_, i + 1, by omega, by omega, fun j hj => ?_⟩
      · funext j
        rw [hs6', if_neg (fun w => hq w.1), t3 q hq]
      · rw [hs6']
        by_cases ej : j = i
        · rw [if_pos ⟨rfl, ej⟩, ej]
        · rw [if_neg (fun w => ej w.2)]
          exact i3 j (by omega)
/-- print: the latest run's value -/
theorem x_268v {v0 : Nat} (h6 : ∀ c, 0 ≤ ar c ∧ ar c ≤ 7) (h24 : nT ≤ 24) (h0 : a1.toInt = 1) (h90 : ¬ (s.1 90).toInt = 0) (h91 : (s.1 91).toInt = 0) (hV : vRn ar nT b s vs) (hv : v0 < vs.length) (h103 : (s.1 103).toInt = (v0 : Int)) (hN : NMr b nT pw s) : Par d 268 [.ref 213, .int a1] s (fun v s' => v = some (.int (s'.1 120)) ∧ eqx pnK vR [] s s' ∧ OUr s' (ouT (vtx ar pw vs v0))) := by
  cases d with
  | zero => exact Par_0
  | succ d =>
    refine pb_268 ?_
    unfold ub_268_0
    rintro s1 rfl
    have e90 : (sf s 0 0).1 90 = s.1 90 := rfl
    have e91 : (sf s 0 0).1 91 = s.1 91 := rfl
    rw [e90, e91]
    refine ⟨fun w => absurd w h90, fun _ => ⟨fun w => absurd w (by omega), fun _ => ⟨fun w => absurd w (by omega), fun _ => ⟨fun w => absurd h0 w, fun _ => ⟨fun _ => ?_, fun w => absurd h91 w⟩⟩⟩⟩⟩
    unfold ub_268_19
    rintro s2 rfl
    refine ⟨fun w => absurd h0 w, fun _ => ?_⟩
    have x2 : eqx pnK vR [] s (sf (sf s 0 0) 120 0) := eqx_sf (eqx_sf eqx_rf (by decide)) (by decide)
    refine Par.imp (x_267 (b := b) (pw := pw) (vs := vs) (v0 := v0) h6 h24 (vRn_f hV x2 (by decide)) (NMr_f hN x2 (by decide) (by decide) (by decide)) ⟨(show (0 : Int) ≤ (0 : Int32).toInt by decide), (show (0 : Int32).toInt ≤ 2000 by decide)⟩ OUr_0 h103 hv) ?_
    rintro r u ⟨rfl, uX, uS, uO⟩
    exact ⟨rfl, rfl, eqx_tr x2 (eqx_mo uX (by decide) (by decide) (by decide)), uO⟩
end ZYF
