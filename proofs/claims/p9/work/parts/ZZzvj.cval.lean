/-! ===== the class: Press, values ===== -/
/-- a value's text -/
def vtx (ar : Int → Int) (pw : Int → List Int) (vs : Vls) (v : Nat) : List Int := vxT ar pw vs (v + 1) v
/-- parts were made ahead of what holds them -/
def VSq (vs : Vls) : Prop := ∀ (v : Nat) (A : List Int) (ps : List Nat), vs[v]? = some (A, ps) → ∀ u ∈ ps, u < v
def prt (vs : Vls) (v : Nat) : List Nat := match vs[v]? with
  | some (_, ps) => ps
  | none => []
/-- what is still to be said: values that are open, the parts that were said, innermost first -/
def vxR (f : Nat → List Int) (vs : Vls) : List (Nat × Nat) → List Int
  | [] => []
  | (v, k) :: S => vxP f ((prt vs v).drop k) k ++ vxR f vs S
def opV (vs : Vls) (w : zS) (S : List (Nat × Nat)) : Prop := ∀ (j v k : Nat), S[j]? = some (v, k) → (w.2 209 (2 * (S.length - 1 - j))).toInt = (plv vs v : Int) ∧ (w.2 209 (2 * (S.length - 1 - j) + 1)).toInt = (k : Int)
/-- what putValue may write -/
def PRv (s s' : zS) : Prop := (∀ r, ¬ r = 207 → ¬ r = 209 → ¬ r = 211 → s'.2 r = s.2 r) ∧ ∀ c q, ¬ (c = 207 ∧ q = 2) → s'.1 c q = s.1 c q
/-- names of types: their signs -/
def NMz (P : Nat) (ar : Int → Int) (nT : Int) (pw : Int → List Int) (s : zS) : Prop := KI (s.2 (P + 22)) = ar ∧ ∀ c : Int, 0 ≤ c → c < nT → (0 ≤ KI (s.2 (P + 6)) (tyc s P c 0) ∧ KI (s.2 (P + 6)) (tyc s P c 0) ≤ 5000) ∧ (0 ≤ KI (s.2 (P + 8)) (tyc s P c 0) ∧ KI (s.2 (P + 8)) (tyc s P c 0) ≤ 5000) ∧ pw c = sgZ P s (tyc s P c 0)
section ZYC
variable {ar : Int → Int} {pw : Int → List Int} {vs : Vls} {d P D : Nat} {s u w : zS} {a1 a2 a3 v : Int32} {t l A : List Int} {x nT T k : Int}
theorem vxP_cg {f g : Nat → List Int} : ∀ (ps : List Nat) (k : Nat), (∀ u ∈ ps, f u = g u) → vxP f ps k = vxP g ps k
  | [], _, _ => rfl
  | u :: ps, k, h => by
    show (if k = 0 then [] else [44]) ++ f u ++ vxP f ps (k + 1) = (if k = 0 then [] else [44]) ++ g u ++ vxP g ps (k + 1)
    rw [h u List.mem_cons_self, vxP_cg ps (k + 1) (fun w hw => h w (List.mem_cons_of_mem _ hw))]
theorem vxT_e {n v : Nat} {A : List Int} {ps : List Nat} (h : vs[v]? = some (A, ps)) : vxT ar pw vs (n + 1) v = txT ar pw A ++ 123 :: vxP (vxT ar pw vs n) ps 0 := by
  show (match vs[v]? with
    | some (A, ps) => txT ar pw A ++ 123 :: vxP (vxT ar pw vs n) ps 0
    | none => []) = _
  rw [h]
theorem vxT_0 {n v : Nat} (h : vs[v]? = none) : vxT ar pw vs (n + 1) v = [] := by
  show (match vs[v]? with
    | some (A, ps) => txT ar pw A ++ 123 :: vxP (vxT ar pw vs n) ps 0
    | none => []) = _
  rw [h]
theorem vxT_s (hv : VSq vs) : ∀ (m v n : Nat), v < m → v < n → vxT ar pw vs n v = vtx ar pw vs v
  | 0, v, n, h, _ => absurd h (Nat.not_lt_zero _)
  | m + 1, v, 0, _, h => absurd h (Nat.not_lt_zero _)
  | m + 1, v, n + 1, h1, h2 => by
    unfold vtx
    cases hq : vs[v]? with
    | none => rw [vxT_0 hq, vxT_0 hq]
    | some q =>
      obtain ⟨A, ps⟩ := q
      rw [vxT_e hq, vxT_e hq, vxP_cg ps 0 (fun u hu => ?_)]
      have := hv v A ps hq u hu
      rw [vxT_s hv m u n (by omega) (by omega), vxT_s hv m u v (by omega) this]
theorem vtx_e {v : Nat} {A : List Int} {ps : List Nat} (hv : VSq vs) (h : vs[v]? = some (A, ps)) : vtx ar pw vs v = txT ar pw A ++ 123 :: vxP (vtx ar pw vs) ps 0 := by
  have e : vtx ar pw vs v = vxT ar pw vs (v + 1) v := rfl
  rw [e, vxT_e h, vxP_cg (g := vtx ar pw vs) ps 0 (fun u hu => vxT_s hv v u v (hv v A ps h u hu) (hv v A ps h u hu))]
theorem prt_e {v : Nat} {A : List Int} {ps : List Nat} (h : vs[v]? = some (A, ps)) : prt vs v = ps := by
  unfold prt
  rw [h]
theorem PRv_rf : PRv s s := ⟨fun _ _ _ _ => rfl, fun _ _ _ => rfl⟩
theorem PRv_tr (h : PRv s u) (g : PRv u w) : PRv s w := ⟨fun r a b c => (g.1 r a b c).trans (h.1 r a b c), fun c q a => (g.2 c q a).trans (h.2 c q a)⟩
theorem PRv_t (h : PRt s u) : PRv s u := ⟨fun r a _ b => h.1 r a b, h.2⟩
theorem PRv_a : PRv s (za s 207 v) := ⟨fun r a _ _ => za_r a, fun c q a => za_o a⟩
theorem PRv_9 : PRv s (zt s 209 a1 v) := ⟨fun r _ b _ => zt_o b, fun c q _ => by rw [zt_1]⟩
theorem OU_9 (h : OUz s l) : OUz (zt s 209 a1 v) l := by
  obtain ⟨h1, h2, h3⟩ := h
  exact ⟨by rw [zt_1]; exact h1, h2, fun i y hy => by rw [zt_o (by decide)]; exact h3 i y hy⟩
theorem tyc_f (hP : P = 3 ∨ P = 39) (h : PRv s u) {c k : Int} : tyc u P c k = tyc s P c k := by
  unfold tyc
  rw [h.1 (P + 24) (by omega) (by omega) (by omega)]
theorem NMz_f (hP : P = 3 ∨ P = 39) (h : PRv s u) (g : NMz P ar nT pw s) : NMz P ar nT pw u := by
  refine ⟨by rw [h.1 (P + 22) (by omega) (by omega) (by omega)]; exact g.1, fun c h0 h1 => ?_⟩
  have e : sgZ P u (tyc s P c 0) = sgZ P s (tyc s P c 0) := by
    unfold sgZ
    rw [h.1 (P + 8) (by omega) (by omega) (by omega), h.1 (P + 6) (by omega) (by omega) (by omega), h.1 (P + 2) (by omega) (by omega) (by omega)]
  rw [tyc_f hP h, h.1 (P + 6) (by omega) (by omega) (by omega), h.1 (P + 8) (by omega) (by omega) (by omega), e]
  exact g.2 c h0 h1
theorem cdW_0 {c : Int} (h : cdW 0 0 A) (hc : c ∈ A) : 0 ≤ c ∧ c < 24 := by
  obtain ⟨h1, h2, h3, h4⟩ := h c hc
  by_cases q : c < 24
  · exact ⟨h1, q⟩
  · by_cases q2 : c < 30
    · have := h3 (by omega) q2
      omega
    · have := h4 (by omega)
      omega
/-- openValue -/
theorem zs_35p (hP : P = 3 ∨ P = 39) (hN : NMz P ar nT pw s) (h6 : ∀ c, 0 ≤ ar c ∧ ar c ≤ 7) (hT : TYc ar nT 0 0 P T k s (KI (s.2 111) a2.toInt) A) (hx : KI (s.2 111) a2.toInt ≤ 100000) (hD : a3.toInt = (D : Int)) (hD2 : D ≤ 1999) (hO : OUz s (ouT t)) : Zt (d + 27) (wd2 P 35) 35 [.ref 206, .ref 111, .int a2, .int a3] s (fun v s' => v = none ∧ PRv s s' ∧ OUz s' (ouT (t ++ (txT ar pw A ++ [123]))) ∧ ∀ j : Nat, s'.2 209 j = if j = 2 * D + 1 then 0 else if j = 2 * D then a2 else s.2 209 j) := by
  have hlm : (lim 209 : Int) = 4000 := by decide +kernel
  obtain ⟨⟨t1, t2⟩, t3, t4, ⟨t5, t6⟩, t7⟩ := hT
  refine zc_35 (d := d + 18) hP ?_
  unfold v_35_0
  refine Zt.imp (Zt.mo (d := 18) (by omega) (zs_32p (d := 0) (a1 := zg s 111 a2) (l := t) (pw := pw) hP hN.1 h6 t4 t5 (by rw [zg_K]; exact ⟨t1, hx⟩) (by rw [zg_K]; exact t3) (fun c hc => cdW_0 t7 hc) (fun c hc => hN.2 c (cdW_0 t7 hc).1 (t6 c hc (cdW_0 t7 hc).2)) hO)) ?_
  rintro v1 s2 ⟨rfl, F2, O2⟩
  refine ⟨rfl, fun s3 hs3 x4 hx4 s5 hs5 x6 hx6 x7 hx7 s8 hs8 => ?_⟩
  have e4 := hx4 (by omega)
  have e6 := hx6 (by omega)
  have e7 := hx7 (by omega)
  refine ⟨rfl, PRv_tr (PRv_t F2) (PRv_tr (show PRv s2 s3 by rw [hs3]; exact PRv_a) (PRv_tr (show PRv s3 s5 by rw [hs5]; exact PRv_9) (show PRv s5 s8 by rw [hs8]; exact PRv_9))), ?_, fun j => ?_⟩
  · rw [hs8, hs5, hs3]
    exact OU_9 (OU_9 (OU_s O2 (by decide)))
  · rw [hs8, zt_e, hs5, zt_e, hs3, za_r (by decide), F2.1 209 (by decide) (by decide), hlm]
    by_cases c1 : j = 2 * D + 1
    · rw [if_pos ⟨rfl, by omega, by omega⟩, if_pos c1]
    · rw [if_neg (fun q => c1 (by omega)), if_neg c1]
      by_cases c2 : j = 2 * D
      · rw [if_pos ⟨rfl, by omega, by omega⟩, if_pos c2]
      · rw [if_neg (fun q => c2 (by omega)), if_neg c2]
theorem ouT_len : ((ouT t).length : Int) = min 2000 (t.length : Int) := by
  unfold ouT
  rw [List.length_take]
  omega
theorem ouT_fu (h : 2000 ≤ t.length) : ouT (t ++ l) = ouT t := by
  unfold ouT
  rw [List.take_append_of_le_length h]
theorem vx_step {f : Nat → List Int} {ps : List Nat} {k u1 : Nat} (h : ps[k]? = some u1) : vxP f (ps.drop k) k = (if k = 0 then [] else [44]) ++ f u1 ++ vxP f (ps.drop (k + 1)) (k + 1) := by
  have hk := (List.getElem?_eq_some_iff.mp h).1
  have e : ps[k] = u1 := (List.getElem?_eq_some_iff.mp h).2
  rw [List.drop_eq_getElem_cons hk, e]
  rfl
/-- what a value is, where it lies -/
def VLp (ar : Int → Int) (nT : Int) (P : Nat) (T k : Int) (s : zS) (vs : Vls) : Prop := VLk ar nT P T k s vs ∧ VSq vs ∧ (∀ (v : Nat) (A : List Int) (ps : List Nat), vs[v]? = some (A, ps) → tyc s P (A.headD 0) 4 = (ps.length : Int)) ∧ (T ≤ 100000 ∧ k ≤ 100000) ∧ ∀ v, v < vs.length → plv vs v ≤ 100000
theorem VL_pl {v : Nat} (h : VLp ar nT P T k s vs) (hv : v < vs.length) : ∃ (A : List Int) (ps : List Nat), vs[v]? = some (A, ps) ∧ prt vs v = ps ∧ TYc ar nT 0 0 P T k s (KI (s.2 111) (plv vs v : Int)) A ∧ KI (s.2 111) (plv vs v : Int) ≤ 100000 ∧ ps.length ≤ 6 ∧ tyc s P (A.headD 0) 4 = (ps.length : Int) ∧ plv vs v ≤ 100000 ∧ ∀ (i u : Nat), ps[i]? = some u → u < vs.length ∧ KI (s.2 111) ((plv vs v : Int) + 1 + (i : Int)) = (plv vs u : Int) := by
  obtain ⟨h1, -, h3, h4, h5⟩ := h
  obtain ⟨⟨A, ps⟩, hq⟩ : ∃ q, vs[v]? = some q := ⟨_, List.getElem?_eq_getElem hv⟩
  obtain ⟨g1, g2, g3⟩ := h1 v A ps hq
  refine ⟨A, ps, hq, prt_e hq, g1, ?_, g2.1, h3 v A ps hq, h5 v hv, g3⟩
  have := g1.1.2
  omega
theorem VLp_f (hP : P = 3 ∨ P = 39) (h : PRv s u) (g : VLp ar nT P T k s vs) : VLp ar nT P T k u vs := by
  obtain ⟨g1, g2, g3, g4, g5⟩ := g
  refine ⟨fun v A ps hv => ?_, g2, fun v A ps hv => by rw [tyc_f hP h]; exact g3 v A ps hv, g4, g5⟩
  obtain ⟨q1, q2, q3⟩ := g1 v A ps hv
  rw [h.1 111 (by decide) (by decide) (by decide)]
  refine ⟨⟨q1.1, fun i c hc => ?_, q1.2.2⟩, q2, q3⟩
  rw [h.1 (P + 18) (by omega) (by omega) (by omega)]
  exact q1.2.1 i c hc
theorem hd_R {A : List Int} (h : isR ar 1 A) : A[0]? = some (A.headD 0) := by
  cases A with
  | nil =>
    have h : (1 : Int) = 0 := h
    omega
  | cons c l => rfl
set_option maxHeartbeats 4000000 in
/-- putValue -/
theorem zs_34p {v0 : Nat} (hP : P = 3 ∨ P = 39) (hN : NMz P ar nT pw s) (h6 : ∀ c, 0 ≤ ar c ∧ ar c ≤ 7) (hV : VLp ar nT P T k s vs) (hv : v0 < vs.length) (ha : a2.toInt = (plv vs v0 : Int)) (hO : OUz s (ouT [])) : Zt (d + 36) (wd2 P 34) 34 [.ref 206, .ref 111, .int a2] s (fun v s' => v = none ∧ PRv s s' ∧ OUz s' (ouT (vtx ar pw vs v0))) := by
  have hVq := hV.2.1
  obtain ⟨A0, ps0, q1, q2, q3, q4, q5, q6, q7, q8⟩ := VL_pl hV hv
  refine zc_34 (d := d + 27) hP ?_
  unfold v_34_0
  refine Zt.imp (Zt.mo (d := 27) (by omega) (zs_35p (d := 0) (D := 0) (t := []) (pw := pw) hP hN h6 (by rw [ha]; exact q3) (by rw [ha]; exact q4) (by decide) (by decide) hO)) ?_
  rintro v1 s2 ⟨rfl, F2, O2, r2⟩
  refine ⟨rfl, ?_⟩
  obtain ⟨I, hI⟩ : ∃ I : Int32 → Int32 → Int32 → zS → Prop, ∀ c2 c3 c4 w, I c2 c3 c4 w ↔ (PRv s w ∧ ∃ (i : Nat) (S : List (Nat × Nat)) (t : List Int), c4.toInt = (i : Int) ∧ c3.toInt = (S.length : Int) - 1 ∧ opV vs w S ∧ (∀ p ∈ S, p.1 < vs.length ∧ p.2 ≤ (prt vs p.1).length) ∧ (S.length ≤ t.length ∧ i ≤ t.length) ∧ OUz w (ouT t) ∧ t ++ vxR (vtx ar pw vs) vs S = vtx ar pw vs v0) := ⟨_, fun _ _ _ _ => Iff.rfl⟩
  refine ⟨I, fun _ _ c4 _ => (2000 - c4.toInt).toNat, (hI _ _ _ _).mpr ⟨F2, 0, [(v0, 0)], txT ar pw A0 ++ [123], by decide, (show (0 : Int32).toInt = ((1 : Nat) : Int) - 1 by decide), fun j v k hj => ?_, fun p hp => ?_, ⟨?_, Nat.zero_le _⟩, O2, ?_⟩, ?_⟩
  · match j, hj with
    | 0, hj =>
      have e := Option.some.inj hj
      obtain ⟨rfl, rfl⟩ := Prod.mk.inj e
      show (s2.2 209 0).toInt = _ ∧ (s2.2 209 1).toInt = _
      rw [r2, r2, if_neg (by decide), if_pos (by decide), if_pos (by decide)]
      exact ⟨ha, by decide⟩
  · rw [List.mem_singleton.mp hp]
    exact ⟨hv, Nat.zero_le _⟩
  · rw [List.length_append]
    exact Nat.le_add_left _ _
  · rw [vtx_e hVq q1]
    show (txT ar pw A0 ++ [123]) ++ (vxP (vtx ar pw vs) ((prt vs v0).drop 0) 0 ++ []) = _
    rw [q2, List.drop_zero, List.append_nil, List.append_assoc]
    rfl
  intro c2 c3 c4 w hw0
  obtain ⟨Fw, i, S, t, i1, i2, i3, i4, ⟨i5, i6⟩, i7, i8⟩ := (hI _ _ _ _).mp hw0
  have fin : (2000 ≤ t.length ∨ S = []) → v_34_85 (fun j => Zt (d + 27 + 8) (wd2 P j) j) P c2 c3 c4 w (fun v s' => v = none ∧ PRv s s' ∧ OUz s' (ouT (vtx ar pw vs v0))) := fun e => by
    unfold v_34_85
    refine ⟨rfl, Fw, ?_⟩
    rw [← i8]
    rcases e with e | rfl
    · rw [ouT_fu e]
      exact i7
    · show OUz w (ouT (t ++ []))
      rw [List.append_nil]
      exact i7
  unfold v_34_9
  refine ⟨fun y => fin (Or.inl (by omega)), fun y => ⟨fun y0 => fin (Or.inr (List.length_eq_zero_iff.mp (by omega))), fun y0 => ⟨fun y1 => fin (Or.inl ?_), fun y1 x1 hx1 x2 hx2 x3 hx3 => ?_⟩⟩⟩
  · rw [i7.1, ouT_len] at y1
    omega
  rw [i7.1, ouT_len] at y1
  have t2 : t.length < 2000 := by omega
  match S, i2, i3, i4, i5, i8 with
  | [], i2, _, _, _, _ =>
    have i2 : c3.toInt = (0 : Int) - 1 := i2
    omega
  | (v1, k1) :: S', i2, i3, i4, i5, i8 =>
    rw [List.length_cons] at i2 i5
    have hN' := NMz_f hP Fw hN
    have hV' := VLp_f hP Fw hV
    obtain ⟨g1, g2⟩ := i4 (v1, k1) List.mem_cons_self
    have g1 : v1 < vs.length := g1
    have g2 : k1 ≤ (prt vs v1).length := g2
    obtain ⟨A1, ps1, m1, m2, m3, m4, m5, m6, m7, m8⟩ := VL_pl hV' g1
    obtain ⟨o1, o2⟩ := i3 0 v1 k1 rfl
    rw [List.length_cons, show S'.length + 1 - 1 - 0 = S'.length by omega] at o1 o2
    have e1 := hx1 (by omega)
    have e2 := hx2 (by omega)
    have e3 := hx3 (by omega)
    have z1 : (zg w 209 x1).toInt = (plv vs v1 : Int) := by
      rw [zg_K, show x1.toInt = ((2 * S'.length : Nat) : Int) by omega, KI_n]
      exact o1
    have z3 : (zg w 209 x3).toInt = (k1 : Int) := by
      rw [zg_K, show x3.toInt = ((2 * S'.length + 1 : Nat) : Int) by omega, KI_n]
      exact o2
    have hh : (zg w (P + 18) (zg w 111 (zg w 209 x1))).toInt = A1.headD 0 := by
      rw [zg_K, zg_K, z1]
      have := m3.2.1 0 _ (hd_R m3.2.2.1)
      rw [show KI (w.2 111) (plv vs v1 : Int) + ((0 : Nat) : Int) = KI (w.2 111) (plv vs v1 : Int) by omega] at this
      exact this
    have h24 := cdW_0 m3.2.2.2.2 (List.mem_of_getElem? (hd_R m3.2.2.1))
    have ec : (zg w (P + 24) ((zg w (P + 18) (zg w 111 (zg w 209 x1))) * 6 + 4)).toInt = (ps1.length : Int) := by
      rw [zg_ty (k := 4) (by decide) (by decide) (by rw [hh]; omega), hh]
      exact m6
    rw [ec, z3]
    rw [m2] at g2
    have up : ∀ (u : zS) (sep : List Int), PRv w u → u.2 209 = w.2 209 → sep = (if k1 = 0 then [] else [44]) → OUz u (ouT (t ++ sep)) → k1 < ps1.length → v_34_60 (fun j => Zt (d + 27 + 8) (wd2 P j) j) P (fun a2' a3' a4' s' => I a2' a3' a4' s' ∧ (2000 - a4'.toInt).toNat < (2000 - c4.toInt).toNat) c2 c3 c4 (zg w 209 x1) (zg w 209 x3) u (fun v s' => v = none ∧ PRv s s' ∧ OUz s' (ouT (vtx ar pw vs v0))) := by
      intro u sep Fu ru hsep Ou hk
      unfold v_34_60
      intro y1 hy1 y2 hy2 y3 hy3 s4 hs4 y5 hy5 y6 hy6 y7 hy7
      have f1 := hy1 (by omega)
      have f2 := hy2 (by omega)
      rw [z3] at hy3
      have f3 := hy3 (by omega)
      have f5 := hy5 (by omega)
      rw [z1] at hy6
      have f6 := hy6 (by omega)
      rw [z3] at hy7
      have f7 := hy7 (by omega)
      obtain ⟨u1, hu1⟩ : ∃ u1, ps1[k1]? = some u1 := ⟨_, List.getElem?_eq_getElem hk⟩
      obtain ⟨u1v, u1p⟩ := m8 k1 u1 hu1
      have F4 : PRv w s4 := PRv_tr Fu (by rw [hs4]; exact PRv_9)
      have hV4 := VLp_f hP F4 hV'
      have hN4 := NMz_f hP F4 hN'
      obtain ⟨Au, pu, n1, n2, n3, n4, n5, n6, n7, n8⟩ := VL_pl hV4 u1v
      have z7 : (zg s4 111 y7).toInt = (plv vs u1 : Int) := by
        rw [zg_K, f7, f6, F4.1 111 (by decide) (by decide) (by decide)]
        exact u1p
      have O4 : OUz s4 (ouT (t ++ sep)) := by
        rw [hs4]
        exact OU_9 Ou
      refine Zt.imp (Zt.mo (d := 27) (by omega) (zs_35p (d := 0) (D := S'.length + 1) (a2 := zg s4 111 y7) (t := t ++ sep) (pw := pw) hP hN4 h6 (by rw [z7]; exact n3) (by rw [z7]; exact n4) (by omega) (by omega) O4)) ?_
      rintro v8 s9 ⟨rfl, F9, O9, r9⟩
      refine ⟨rfl, ?_⟩
      unfold v_34_83
      intro x9 hx9
      have e9 := hx9 (by omega)
      have hlm : (lim 209 : Int) = 4000 := by decide +kernel
      have r4 : ∀ j : Nat, s4.2 209 j = if j = 2 * S'.length + 1 then y3 else w.2 209 j := fun j => by
        rw [hs4, zt_e, ru, hlm]
        by_cases c1 : j = 2 * S'.length + 1
        · rw [if_pos ⟨rfl, by omega, by omega⟩, if_pos c1]
        · rw [if_neg (fun q => c1 (by omega)), if_neg c1]
      refine ⟨(hI _ _ _ _).mpr ⟨PRv_tr Fw (PRv_tr F4 F9), i + 1, (u1, 0) :: (v1, k1 + 1) :: S', (t ++ sep) ++ (txT ar pw Au ++ [123]), by omega, by rw [List.length_cons, List.length_cons]; omega, fun j v k hj => ?_, fun p hp => ?_, ?_, O9, ?_⟩, by omega⟩
      · rw [List.length_cons, List.length_cons]
        match j, hj with
        | 0, hj =>
          obtain ⟨rfl, rfl⟩ := Prod.mk.inj (Option.some.inj hj)
          rw [show S'.length + 1 + 1 - 1 - 0 = S'.length + 1 by omega, r9, r9, if_neg (by omega), if_pos rfl, if_pos rfl]
          exact ⟨z7, by decide⟩
        | 1, hj =>
          obtain ⟨rfl, rfl⟩ := Prod.mk.inj (Option.some.inj hj)
          rw [show S'.length + 1 + 1 - 1 - 1 = S'.length by omega, r9, r9, if_neg (by omega), if_neg (by omega), if_neg (by omega), if_neg (by omega), r4, r4, if_neg (by omega), if_pos rfl]
          exact ⟨o1, by omega⟩
        | j + 2, hj =>
          have hj' := (List.getElem?_eq_some_iff.mp hj).1
          rw [List.length_cons, List.length_cons] at hj'
          have := i3 (j + 1) v k hj
          rw [List.length_cons, show S'.length + 1 - 1 - (j + 1) = S'.length - 1 - j by omega] at this
          rw [show S'.length + 1 + 1 - 1 - (j + 2) = S'.length - 1 - j by omega, r9, r9, if_neg (by omega), if_neg (by omega), if_neg (by omega), if_neg (by omega), r4, r4, if_neg (by omega), if_neg (by omega)]
          exact this
      · rcases List.mem_cons.mp hp with rfl | hp
        · exact ⟨u1v, Nat.zero_le _⟩
        · rcases List.mem_cons.mp hp with rfl | hp
          · refine ⟨g1, ?_⟩
            show k1 + 1 ≤ (prt vs v1).length
            rw [m2]
            omega
          · exact i4 p (List.mem_cons_of_mem _ hp)
      · simp only [List.length_append, List.length_cons, List.length_nil]
        omega
      · rw [← i8]
        show ((t ++ sep) ++ (txT ar pw Au ++ [123])) ++ (vxP (vtx ar pw vs) ((prt vs u1).drop 0) 0 ++ (vxP (vtx ar pw vs) ((prt vs v1).drop (k1 + 1)) (k1 + 1) ++ vxR (vtx ar pw vs) vs S')) = t ++ (vxP (vtx ar pw vs) ((prt vs v1).drop k1) k1 ++ vxR (vtx ar pw vs) vs S')
        rw [n2, m2, List.drop_zero, vx_step hu1, vtx_e hVq n1, hsep]
        simp only [List.append_assoc, List.cons_append, List.nil_append]
    refine ⟨fun y2 => ⟨fun y3 => up w [] PRv_rf rfl ?_ (by rw [List.append_nil]; exact i7) (by omega), fun y3 s5 hs5 => up s5 [44] (by rw [hs5]; exact PRv_a) (by rw [hs5]; exact za_r (by decide)) ?_ (by rw [hs5]; exact OU_s (t := []) (by rw [List.append_nil]; exact i7) (by decide)) (by omega)⟩, fun y2 s6 hs6 x7 hx7 => ?_⟩
    · rw [if_pos (by omega)]
    · rw [if_neg (by omega)]
    · unfold v_34_83
      intro x9 hx9
      have e9 := hx9 (by omega)
      have e7 := hx7 (by omega)
      have F6 : PRv w s6 := by rw [hs6]; exact PRv_a
      refine ⟨(hI _ _ _ _).mpr ⟨PRv_tr Fw F6, i + 1, S', t ++ [125], by omega, by omega, fun j v k hj => ?_, fun p hp => i4 p (List.mem_cons_of_mem _ hp), by rw [List.length_append, List.length_singleton]; omega, by rw [hs6]; exact OU_s (t := []) (by rw [List.append_nil]; exact i7) (by decide), ?_⟩, by dsimp only; omega⟩
      · have hj' := (List.getElem?_eq_some_iff.mp hj).1
        have := i3 (j + 1) v k hj
        rw [List.length_cons, show S'.length + 1 - 1 - (j + 1) = S'.length - 1 - j by omega] at this
        rw [hs6, za_r (by decide)]
        exact this
      · rw [← i8]
        show (t ++ [125]) ++ vxR (vtx ar pw vs) vs S' = t ++ (vxP (vtx ar pw vs) ((prt vs v1).drop k1) k1 ++ vxR (vtx ar pw vs) vs S')
        rw [m2, List.drop_of_length_le (by omega), List.append_assoc]
        rfl
/-- print: nothing to say -/
theorem zs_148n (hP : P = 3 ∨ P = 39) (h0 : ¬ (a1.toInt = 0 ∧ ¬ (s.1 0 11).toInt = 0)) (h1 : ¬ (a1.toInt = 1 ∧ (s.1 105 13).toInt = 0)) : Zu (d + 45) [(206, 3)] [(0, 9, P)] [] 148 [.ref 0, .int a1] s (fun v s' => v = some (.int (-1)) ∧ s' = s) := by
  refine zc_148 (d := d + 36) hP ?_
  have f21 : v_148_21 (fun j => Zt (d + 36 + 8) (wd2 P j) j) P (d + 36 + 8) a1 s (fun v s' => v = some (.int (-1)) ∧ s' = s) := by
    unfold v_148_21 v_148_47
    exact ⟨fun _ => ⟨rfl, rfl⟩, fun y => ⟨fun _ => ⟨rfl, rfl⟩, fun y2 => absurd ⟨y, y2⟩ h1⟩⟩
  unfold v_148_0
  exact ⟨fun _ => f21, fun y => ⟨fun _ => f21, fun y2 => absurd ⟨y, y2⟩ h0⟩⟩
/-- nothing in OUT -/
theorem OU_0 : OUz (zf s 207 2 0) (ouT []) := ⟨by rw [zf_1, if_pos ⟨rfl, rfl⟩]; decide, Nat.zero_le _, fun i x hx => by cases hx⟩
theorem PRv_0 : PRv s (zf s 207 2 0) := ⟨fun _ _ _ _ => rfl, fun c q h => by rw [zf_1, if_neg h]⟩
/-- print: main's TYPE -/
theorem zs_148t {A : List Int} (hP : P = 3 ∨ P = 39) (h0 : a1.toInt = 0) (h11 : ¬ (s.1 0 11).toInt = 0) (hN : NMz P ar nT pw s) (h6 : ∀ c, 0 ≤ ar c ∧ ar c ≤ 7) (hT : TYc ar nT 0 0 P T k s (s.1 P 13).toInt A) (hx : (s.1 P 13).toInt ≤ 100000) : Zu (d + 45) [(206, 3)] [(0, 9, P)] [] 148 [.ref 0, .int a1] s (fun v s' => v = some (.int (s'.1 207 2)) ∧ PRv s s' ∧ OUz s' (ouT (txT ar pw A))) := by
  refine zc_148 (d := d + 36) hP ?_
  unfold v_148_0
  refine ⟨fun y => absurd h0 y, fun _ => ⟨fun y => absurd y h11, fun _ => ?_⟩⟩
  refine Zu.mo (d := 9) (by omega) (zc_31 (d := 0) hP ?_)
  unfold v_31_0
  intro s1 hs1
  refine ⟨rfl, ?_⟩
  have F1 : PRv s s1 := by rw [hs1]; exact PRv_0
  obtain ⟨t1, t3, t4, ⟨t5, t6⟩, t7⟩ := hT
  have e13 : s1.1 P 13 = s.1 P 13 := F1.2 P 13 (fun z => by omega)
  have hN1 := NMz_f hP F1 hN
  refine Zt.imp (Zt.mo (d := 18) (by omega) (zs_32p (d := 0) (a1 := s1.1 P 13) (l := []) (pw := pw) (A := A) hP hN1.1 h6 t4 t5 (by rw [e13]; exact ⟨t1.1, hx⟩) (fun i c hc => by rw [e13, F1.1 (P + 18) (by omega) (by omega) (by omega)]; exact t3 i c hc) (fun c hc => cdW_0 t7 hc) (fun c hc => hN1.2 c (cdW_0 t7 hc).1 (t6 c hc (cdW_0 t7 hc).2)) (by rw [hs1]; exact OU_0))) ?_
  rintro v3 s4 ⟨rfl, F4, O4⟩
  exact ⟨rfl, rfl, PRv_tr F1 (PRv_t F4), O4⟩
/-- print: the latest run's value -/
theorem zs_148v {v0 : Nat} (hP : P = 3 ∨ P = 39) (h0 : a1.toInt = 1) (h13 : (s.1 105 13).toInt = 0) (hN : NMz P ar nT pw s) (h6 : ∀ c, 0 ≤ ar c ∧ ar c ≤ 7) (hV : VLp ar nT P T k s vs) (hv : v0 < vs.length) (h14 : (s.1 105 14).toInt = (plv vs v0 : Int)) : Zu (d + 45) [(206, 3)] [(0, 9, P)] [] 148 [.ref 0, .int a1] s (fun v s' => v = some (.int (s'.1 207 2)) ∧ PRv s s' ∧ OUz s' (ouT (vtx ar pw vs v0))) := by
  refine zc_148 (d := d + 36) hP ?_
  unfold v_148_0
  refine ⟨fun _ => ?_, fun y => absurd y (by omega)⟩
  unfold v_148_21
  refine ⟨fun y => absurd h0 y, fun _ => ⟨fun y => absurd h13 y, fun _ => ?_⟩⟩
  refine Zu.mo (d := 9) (by omega) (zc_31 (d := 0) hP ?_)
  unfold v_31_0
  intro s1 hs1
  refine ⟨rfl, ?_⟩
  have F1 : PRv s s1 := by rw [hs1]; exact PRv_0
  have e14 : s1.1 105 14 = s.1 105 14 := F1.2 105 14 (fun z => by omega)
  refine Zt.imp (Zt.mo (d := 36) (by omega) (zs_34p (d := 0) (v0 := v0) (pw := pw) (vs := vs) hP (NMz_f hP F1 hN) h6 (VLp_f hP F1 hV) hv (by rw [e14]; exact h14) (by rw [hs1]; exact OU_0))) ?_
  rintro v3 s4 ⟨rfl, F4, O4⟩
  exact ⟨rfl, rfl, PRv_tr F1 F4, O4⟩
end ZYC
