/-! ===== the reference: FIELDS, what is put for PARAMS, E held against slots ===== -/
section ZNF
variable {K L W ar kd : Int → Int} {n lo hi B b A0 x y β0 β1 : Int} {TN Ls : List Int} {S : Scp} {s s' u : yS} {d m g e : Nat} {a1 a2 a3 a4 : Int32} {z z' t c l nT nX nY T w : Int} {X Y : List (List Int)} {Z A' : List Int} {η : Nat → List Int} {ev : Int → Int × List Int}
/-- an env is made and left again -/
theorem EFl_env (h : WFr T w s s') (hT : (s.1 64).toInt = T) (hA : (s.1 65).toInt ≤ T) (he : (s.1 70).toInt = w) (h64 : s'.1 64 = s.1 64) (he' : (s'.1 70).toInt = w + 1) (g : EFl s' u) {v : Int32} (hv : v.toInt = w) : EFl s (sf u 70 v) := by
  obtain ⟨h1, -, -, h4, h5, h6⟩ := h
  obtain ⟨⟨-, g2, g3, g4⟩, ⟨g5, g6⟩, g7, g8, g9⟩ := g
  have k : ∀ k, 75 ≤ k → s'.1 k = s.1 k := fun k hk => h1 k (by omega) (by omega) (by omega) (by omega) (by omega) (by omega) (by omega)
  have e65 : s'.1 65 = s.1 65 := h1 65 (by decide) (by decide) (by decide) (by decide) (by decide) (by decide) (by decide)
  rw [e65] at g5 g7
  rw [h64] at g6 g7
  refine ⟨⟨?_, ?_, ?_, ?_⟩, ⟨?_, ?_⟩, fun j hj => ?_, fun q j hq hj => ?_, fun q j hq hj => ?_⟩
  · rw [sfr_1, if_pos rfl]
    exact Int32.toInt_inj.mp (by omega)
  · rw [sfr_1, if_neg (by decide), g2, k 76 (by decide)]
  · rw [sfr_1, if_neg (by decide), g3, k 77 (by decide)]
  · rw [sfr_1, if_neg (by decide), g4, k 78 (by decide)]
  · rw [sfr_1, if_neg (by decide)]
    exact g5
  · rw [sfr_1, if_neg (by decide)]
    exact g6
  · rw [sfr_2, g7 j (by omega), h4 j (by omega)]
  · rw [sfr_2, g8 q j hq (by omega), h5 q j hq (by omega)]
  · rw [sfr_2, g9 q j hq (by omega), h6 q j hq (by omega)]
/-- the FIELDS of a struct -/
theorem fld_r (h : PRm K L W ar kd n lo hi TN Ls) (hS : RST K L W ar kd TN Ls n B b A0 x y u) (hk : kd c = 1) : (0 ≤ c ∧ c < (TN.length : Int)) ∧ ((fTy K L W ar TN Ls c).length ≤ 6 ∧ (fNm K L Ls c).length = (fTy K L W ar TN Ls c).length) ∧ (u.2.1 239 (24 * b + c).toNat).toInt = ((fTy K L W ar TN Ls c).length : Int) ∧ (∀ (k : Nat) (v : Int), (fNm K L Ls c)[k]? = some v → (u.2.1 240 (6 * (24 * b + c) + (k : Int)).toNat).toInt = B + v) ∧ ∀ (k : Nat) (Z : List Int), (fTy K L W ar TN Ls c)[k]? = some Z → RSe u A0 (u.2.1 241 (6 * (24 * b + c) + (k : Int)).toNat).toInt (Z.map (rhE ar (1000 + 6 * c) 2000)) ∧ isR ar 1 Z ∧ Z.length ≤ 60 ∧ cdW (ar c) 0 Z ∧ cdT (TN.length : Int) Z := by
  have hnT := PR_nT h
  have hl24 := h.2.2.1.1
  have hc : 0 ≤ c ∧ c < (TN.length : Int) := by
    rcases Int.lt_or_le c 0 with q | q
    · have := h.2.2.2.2.2.1 c (Or.inl q)
      omega
    · rcases Int.lt_or_le c (TN.length : Int) with q2 | q2
      · exact ⟨q, q2⟩
      · have := h.2.2.2.2.2.1 c (Or.inr (by omega))
        omega
  obtain ⟨i, t, h1, h6, ec⟩ := ty_dc (K := K) (Ls := Ls) hc.1 (by have := hc.2; omega)
  obtain ⟨k1, k2⟩ := h.2.2.2.2.1 i t h1 h6
  rw [← ec] at k1 k2
  have hst : tSt K L false (0, t) = true := by
    by_cases q : tSt K L false (0, t) = true
    · exact q
    · rw [if_neg q] at k2
      omega
  have hat : (tyL K Ls)[c.toNat]? = some t := by
    rw [ec, Int.toNat_natCast]
    exact tyL_at Ls i t h1 h6
  have eN : fNm K L Ls c = tMe K L false (0, t) := by
    unfold fNm
    rw [hat]
  have eT : fTy K L W ar TN Ls c = (tMe K L false (0, t)).map (fun v => wdC K L W ar TN [] (tFo K L false (0, t)) (v + 1)) := by
    unfold fTy
    rw [hat]
  obtain ⟨-, hA, hD, -⟩ := hS
  obtain ⟨m1, m2, -⟩ := ((hA i t h1).2 h6).2.2
  obtain ⟨m3, -, m4⟩ := m2 hst
  have tp6 := (tp_fact h h1).1
  unfold dTp at tp6
  rw [if_neg h6] at tp6
  obtain ⟨-, ff⟩ := ty_fact h h1 h6
  rw [eN, eT, List.length_map]
  rw [← ec] at m3 m4
  refine ⟨hc, ⟨m1, rfl⟩, m3, fun k v hv => (m4 k v hv).1, fun k Z hZ => ?_⟩
  rw [List.getElem?_map] at hZ
  obtain ⟨v, hv, rfl⟩ := Option.map_eq_some_iff.mp hZ
  obtain ⟨-, f2, f3⟩ := ff hst v (List.mem_of_getElem? hv)
  obtain ⟨o1, o2, o3, o4, -⟩ := wdC_ok (PR_ar h).1 (Nat.zero_le _) tp6 (by omega) f2 f3
  have := RSn_e (((hD i t h1).2 h6).2.1 hst k v hv)
  unfold wTy at this
  rw [wdC_map, ← ec, show 1000 + 6 * (24 * b + c - 24 * b) = 1000 + 6 * c by omega] at this
  rw [← k1] at o3
  exact ⟨this, o1, o2, o3, o4⟩
/-- what is put -/
theorem eta_at (hX : X.length ≤ 6) {c : Int} (hc : (24 ≤ c → c < 30 → c - 24 < (X.length : Int)) ∧ (30 ≤ c → c - 30 < (Y.length : Int))) : (24 ≤ c → c < 30 → eta X Y (c - 24).toNat = X.getD (c - 24).toNat []) ∧ (30 ≤ c → eta X Y (c - 24).toNat = Y.getD (c - 30).toNat []) := by
  refine ⟨fun w1 w2 => ?_, fun w1 => ?_⟩
  · have := hc.1 w1 w2
    unfold eta
    rw [if_pos (by omega), if_pos (by omega)]
  · have := hc.2 w1
    unfold eta
    rw [if_neg (by omega), show (c - 24).toNat - 6 = (c - 30).toNat by omega, if_pos (by omega)]
theorem gtD_mem {α : Type} {l : List α} {i : Nat} {v : α} (h : i < l.length) : l.getD i v ∈ l := by
  rw [List.getD_eq_getElem?_getD, List.getElem?_eq_getElem h]
  exact List.getElem_mem h
theorem pOK_eta (lX : X.length ≤ 6) (hX : ∀ v ∈ X, isR ar 1 v ∧ cdW nX nY v ∧ cdT nT v) (hY : ∀ v ∈ Y, isR ar 1 v ∧ cdW nX nY v ∧ cdT nT v) (hZ : cdW (X.length : Int) (Y.length : Int) Z) : pOK ar nT nX nY (eta X Y) Z := fun c hc w => by
  obtain ⟨-, -, z1, z2⟩ := hZ c hc
  obtain ⟨e1, e2⟩ := eta_at lX ⟨z1, z2⟩
  rcases Int.lt_or_le c 30 with q | q
  · rw [e1 w q]
    have := z1 w q
    exact hX _ (gtD_mem (by omega))
  · rw [e2 q]
    have := z2 q
    exact hY _ (gtD_mem (by omega))
theorem argT_P (ha : ∀ c, 0 ≤ ar c ∧ ar c ≤ 7) (hR : isR ar 1 (c :: A')) (hc : cdW nX nY (c :: A')) (ht : cdT nT (c :: A')) : (∀ v ∈ argT ar (c :: A'), isR ar 1 v ∧ cdW nX nY v ∧ cdT nT v) ∧ ((argT ar (c :: A')).length : Int) = ar c := by
  obtain ⟨o1, o2, o3⟩ := argT_ok ha hR
  have hm : ∀ v ∈ argT ar (c :: A'), ∀ q ∈ v, q ∈ c :: A' := fun v hv q hq => by
    refine List.mem_cons_of_mem _ ?_
    rw [← o1]
    exact List.mem_flatten.mpr ⟨v, hv, hq⟩
  exact ⟨fun v hv => ⟨o2 v hv, fun q hq => hc q (hm v hv q hq), fun q hq => ht q (hm v hv q hq)⟩, o3⟩
/-- the TYPES behind a TYPE's name, as a group that stays -/
theorem gx_189 (ha : ∀ c, 0 ≤ ar c ∧ ar c ≤ 7) (h6c : ar c ≤ 6) (hTY : TYp ar nT β0 β1 nX nY s a4.toInt l (c :: A')) (h1 : a1.toInt = (e : Int)) : Par d 189 [.ref 213, .int a1, .int 0, .int a3, .int a4] s (fun v s' => v = none ∧ GRf (2 * e) s s' ∧ s'.2.1 265 (2 * e) = a3 ∧ (s'.2.1 266 (2 * e)).toInt = (((argT ar (c :: A')).map (List.map (rhE ar β0 β1))).length : Int) ∧ GRk s' (2 * e) ((argT ar (c :: A')).map (List.map (rhE ar β0 β1)))) := by
  obtain ⟨k0, -, k1, k2, k3, k4, k5⟩ := hTY
  obtain ⟨o1, o2, o3⟩ := argT_ok ha k3
  have z0 : (0 : Int32).toInt = 0 := by decide
  have hfl : ((argT ar (c :: A')).map (List.map (rhE ar β0 β1))).flatten = A'.map (rhE ar β0 β1) := by rw [fl_map, o1]
  have hac := ha c
  rw [List.length_cons] at k1 k0
  have hw0 : RWel s a4.toInt (rhE ar β0 β1 c :: ((argT ar (c :: A')).map (List.map (rhE ar β0 β1))).flatten) := by
    rw [hfl]
    exact k2
  have hw1 : RWel s (a4.toInt + 1) ((argT ar (c :: A')).map (List.map (rhE ar β0 β1))).flatten := fun j c' hj => by
    have := hw0 (j + 1) c' hj
    rw [show a4.toInt + ((j + 1 : Nat) : Int) = a4.toInt + 1 + (j : Int) by omega] at this
    exact this
  have hl6 : ((argT ar (c :: A')).map (List.map (rhE ar β0 β1))).length ≤ 6 := by
    rw [List.length_map]
    omega
  refine Par.imp (x_189p (g := 2 * e) (c := rhE ar β0 β1 c) (X := (argT ar (c :: A')).map (List.map (rhE ar β0 β1))) (by rw [h1, z0]; omega) hw0 ?_ ?_ hl6) ?_
  · rw [List.length_map, o3]
    exact rhE_m hac
  · intro v hv
    obtain ⟨q, hq, rfl⟩ := List.mem_map.mp hv
    exact isR_m8 ha q 1 (o2 q hq)
  rintro v s' ⟨rfl, f1, f2, f3, f4⟩
  refine ⟨rfl, f1, f2, f3, hl6, fun i Y hY => ?_⟩
  obtain ⟨q1, q2⟩ := f4 i Y hY
  have w1 := fl_take hY
  have w2 := fl_le ((argT ar (c :: A')).map (List.map (rhE ar β0 β1))) (i + 1)
  rw [hfl, List.length_map] at w2
  refine ⟨_, q1, q2, ?_, ?_, ?_⟩
  · rw [f1.1]
    omega
  · rw [f1.1]
    omega
  · exact GRf_el f1 (RWel_fl _ i Y _ hw1 hY)
/-- one E, held against the TYPE of its slot -/
def tkv (K L W ar kd : Int → Int) (TN Ls : List Int) (S : Scp) (ev : Int → Int × List Int) (η : Nat → List Int) (p : Int × List Int) : Int := if (ev p.1).1 = 0 then ftk L (exK K L W ar kd TN Ls S (ev p.1).2 η p.2) p.1 else (ev p.1).1
theorem exP_ffs : ∀ l : List (Int × List Int), exP K L W ar kd TN Ls S ev η l = ffs (l.map (tkv K L W ar kd TN Ls S ev η))
  | [] => rfl
  | p :: l => by
    rw [List.map_cons]
    show (if (ev p.1).1 = 0 then (if exK K L W ar kd TN Ls S (ev p.1).2 η p.2 = 0 then exP K L W ar kd TN Ls S ev η l else exK K L W ar kd TN Ls S (ev p.1).2 η p.2 + 16 * L p.1) else (ev p.1).1) = (if tkv K L W ar kd TN Ls S ev η p = 0 then ffs (l.map (tkv K L W ar kd TN Ls S ev η)) else tkv K L W ar kd TN Ls S ev η p)
    rw [exP_ffs l]
    unfold tkv ftk
    by_cases h1 : (ev p.1).1 = 0
    · rw [if_pos h1, if_pos h1]
      by_cases h2 : exK K L W ar kd TN Ls S (ev p.1).2 η p.2 = 0
      · rw [if_pos h2, if_pos h2, if_pos rfl]
      · rw [if_neg h2, if_neg h2, if_neg (by have := @exK_b K L W ar kd TN Ls S p.2 η (ev p.1).2; omega)]
    · rw [if_neg h1, if_neg h1, if_neg h1]
/-- fieldOf -/
theorem x_224 (hW : EWd K L W ar kd TN Ls n lo hi B b β0 β1 S) (hI : EIn K L W ar kd TN Ls n B b A0 x y β0 β1 S s) (hA : (s.1 65).toInt ≤ 100000) (hTY : TYp ar (TN.length : Int) β0 β1 (S.2.1.length : Int) (S.1.length : Int) s a1.toInt l (c :: A')) (hk : kd c = 1) {k : Nat} (h2 : a2.toInt = (k : Int)) (hZ : (fTy K L W ar TN Ls c)[k]? = some Z) : Par d 224 [.ref 213, .int a1, .int a2] s (fun v s' => EF0 (nsD K L Ls) B A0 s s' ∧ EFl s s' ∧ (s'.1 8 = s.1 8 ∧ s'.1 65 = s.1 65 ∧ NFx z z' s s') ∧ ∃ r : Int32, v = some (.int r) ∧ ((r.toInt = 0 ∧ 60 < (sbs (eta (argT ar (c :: A')) []) Z).length) ∨ (r.toInt = 1 ∧ ¬ 60 < (sbs (eta (argT ar (c :: A')) []) Z).length ∧ TYp ar (TN.length : Int) β0 β1 (S.2.1.length : Int) (S.1.length : Int) s' (s'.1 80).toInt (s'.1 81).toInt (sbs (eta (argT ar (c :: A')) []) Z)))) := by
  cases d with
  | zero => exact Par_0
  | succ d =>
    have hWs := hW
    obtain ⟨hP, -, hSP, hB, hb⟩ := hWs
    obtain ⟨ha, h24⟩ := PR_ar hP
    have h100 := hI.2.2.1.2.1
    have hA0 := hI.2.2.1.1
    have hc24 := hP.2.2.1.1
    have hnT := PR_nT hP
    obtain ⟨e, hee⟩ : ∃ e : Nat, (s.1 70).toInt = (e : Int) := ⟨_, (Int.toNat_of_nonneg hI.2.2.1.2.2).symm⟩
    obtain ⟨T, hT⟩ : ∃ T, (s.1 64).toInt = T := ⟨_, rfl⟩
    obtain ⟨hc, -, -, -, -⟩ := fld_r (c := c) hP hI.1 hk
    have h6c : ar c ≤ 6 := ar_6 (PG_of hP hI.1) hc.1 (fun _ => hc.2)
    have rc : rhC β0 β1 c = c := by
      unfold rhC
      rw [if_pos (by omega)]
    have el : ∀ {u : yS}, TYp ar (TN.length : Int) β0 β1 (S.2.1.length : Int) (S.1.length : Int) u a1.toInt l (c :: A') → (u.2.1 264 a1.toInt.toNat).toInt / 8 = c := fun {u} hu => by
      rw [(TYp_c hSP.1 ha hu).1, rc]
    obtain ⟨gP, gL⟩ := argT_P ha hTY.2.2.2.2.1 hTY.2.2.2.2.2.2 hTY.2.2.2.2.2.1.2
    refine pb_224 ?_
    unfold ub_224_0
    refine Par.imp (nw_188 hee) ?_
    rintro v2 s1 ⟨x3, rfl, n1, n2, n3, n4, n5, n6, n7⟩
    have TY1 : TYp ar (TN.length : Int) β0 β1 (S.2.1.length : Int) (S.1.length : Int) s1 a1.toInt l (c :: A') := by
      obtain ⟨t1, t2, t3, t4, t5⟩ := hTY
      refine ⟨by rw [n3 65 (by decide)]; exact t1, t2, ?_⟩
      rw [n3 64 (by decide)]
      exact TYe_w (n4 _) ⟨t3, t4, t5⟩
    refine ⟨x3, rfl, fun _ => Par.imp x_185 ?_⟩
    rintro v5 s4 ⟨hs4, x6, rfl, hx6⟩
    subst hs4
    rw [el TY1] at hx6
    refine ⟨x6, rfl, fun _ x7 hx7 _ x8 hx8 => Par.imp (gx_189 ha h6c TY1 n1) ?_⟩
    rintro v10 s9 ⟨rfl, f1, f2, f3, f4⟩
    have W9 : WFr T (e : Int) s s9 := WFr_tr (n4 T) (WFr_gr f1 (by omega)) (Int.le_refl _) (Int.le_refl _)
    have fld : ∀ k, ¬ k = 70 → s9.1 k = s.1 k := fun k hk => by rw [f1.1, n3 k hk]
    have h75 : (s9.1 75).toInt = b := by
      rw [fld 75 (by decide)]
      exact hI.1.1.1
    have TY9 : TYp ar (TN.length : Int) β0 β1 (S.2.1.length : Int) (S.1.length : Int) s9 a1.toInt l (c :: A') := by
      obtain ⟨t1, t2, t3, t4, t5⟩ := TY1
      refine ⟨by rw [f1.1]; exact t1, t2, ?_⟩
      rw [f1.1]
      exact ⟨t3, GRf_el f1 t4, t5⟩
    refine ⟨rfl, fun _ x11 hx11 _ => Par.imp x_185 ?_⟩
    rintro v13 s12 ⟨hs12, x14, rfl, hx14⟩
    subst hs12
    rw [el TY9] at hx14
    rw [h75] at hx11
    refine ⟨x14, rfl, fun _ x15 hx15 _ x16 hx16 _ x17 hx17 _ _ _ => ?_⟩
    have E9 : EF0 (nsD K L Ls) B A0 s s12 := EF0_wf W9 (by omega)
    obtain ⟨-, -, -, -, g5⟩ := fld_r (c := c) hP (RST_e hP E9 hI.1) hk
    obtain ⟨q1, q2, q3, q4, q5⟩ := g5 k Z hZ
    have e17 : x17.toInt = 6 * (24 * b + c) + (k : Int) := by omega
    rw [e17]
    obtain ⟨y1, y2, y3, y4⟩ := q1
    have e64 : (s12.1 64).toInt = T := by rw [fld 64 (by decide)]; exact hT
    obtain ⟨C1, hC1⟩ : ∃ C1, C1 = (s12.2.1 265 (2 * e + 1)).toInt := ⟨_, rfl⟩
    have EV : EVr s12 e T (1000 + 6 * c) ((argT ar (c :: A')).map (List.map (rhE ar β0 β1))) C1 [] := by
      have g := GRk_e f4
      rw [e64] at g
      exact ⟨⟨by rw [f2]; omega, f3, g⟩, hC1.symm, by rw [f1.2.2 266 _ (fun q => by omega) (fun q => by omega)]; exact n7, fun i Y hi => absurd hi (Nat.not_lt_zero _)⟩
    have P1 := x_191 (d := d) (E := Z.map (rhE ar (1000 + 6 * c) 2000)) e64 EV n1 y3 ⟨y2.1, by omega⟩ y4
    have l6 : (argT ar (c :: A')).length ≤ 6 := by omega
    have q4' : cdW ((argT ar (c :: A')).length : Int) 0 Z := by rw [gL]; exact q4
    rw [bd_put ha ⟨hc.1, by omega⟩ l6 q4'] at P1
    refine Par.imp P1 ?_
    rintro v19 s18 ⟨p1, x20, rfl, hcase⟩
    rw [List.length_map] at hcase
    refine ⟨x20, rfl, fun _ x21 hx21 s22 hs22 => Par.imp x_216 ?_⟩
    rintro v24 s23 ⟨rfl, hs23⟩
    refine ⟨rfl, fun _ => ?_⟩
    have k18 : ∀ k, ¬ k = 64 → ¬ k = 71 → ¬ k = 72 → s18.1 k = s12.1 k := by
      rcases hcase with ⟨-, -, q⟩ | ⟨-, -, -, -, -, q, -⟩
      · exact fun k _ _ _ => by rw [q]
      · exact q
    have W18 : WFr T (e : Int) s s18 := WFr_tr W9 (WFr_pk p1 k18) (Int.le_refl _) (Int.le_refl _)
    have W22 : WFr T (e : Int) s s22 := WFr_tr W18 (by rw [hs22]; exact WFr_sf (Or.inr (Or.inr ⟨by decide, by decide⟩))) (Int.le_refl _) (Int.le_refl _)
    have e70 : (s18.1 70).toInt = (e : Int) + 1 := by rw [k18 70 (by decide) (by decide) (by decide), f1.1]; exact n2
    have e22 : (s22.1 70).toInt = (e : Int) := by
      rw [hs22, sfr_1, if_pos rfl]
      omega
    have T22 : T ≤ (s22.1 64).toInt := by
      rw [hs22, sfr_1, if_neg (by decide)]
      rcases hcase with ⟨-, -, q⟩ | ⟨-, -, -, -, q, -, -⟩
      · rw [q]
        omega
      · omega
    have F23 : EFl s s23 := by
      rw [hs23]
      exact EFl_tr (EFl_wf W22 hT hee e22 T22 (by omega)) (EFl_tr (EFl_sf (by omega)) (EFl_sf (by omega)))
    refine ⟨?_, F23, ⟨?_, ?_, ?_⟩, x20, rfl, ?_⟩
    · rw [hs23]
      exact EF0_tr (EF0_wf W22 (by omega)) (EF0_tr (EF0_sf (by unfold fEx; omega)) (EF0_sf (by unfold fEx; omega)))
    · rw [hs23, sfr_1, if_neg (by decide), sfr_1, if_neg (by decide), hs22, sfr_1, if_neg (by decide), k18 8 (by decide) (by decide) (by decide), fld 8 (by decide)]
    · rw [hs23, sfr_1, if_neg (by decide), sfr_1, if_neg (by decide), hs22, sfr_1, if_neg (by decide), k18 65 (by decide) (by decide) (by decide), fld 65 (by decide)]
    · intro q j hq hj
      rw [hs23]
      exact NFx_wf (x := z) (y := z') W22 q j hq hj
    · rcases hcase with ⟨r1, r2, -⟩ | ⟨r1, r2, r3, r4, r5, -, r7⟩
      · exact Or.inl ⟨r1, r2⟩
      · refine Or.inr ⟨r1, by omega, ?_⟩
        have hη : pOK ar (TN.length : Int) (S.2.1.length : Int) (S.1.length : Int) (eta (argT ar (c :: A')) []) Z := pOK_eta l6 gP (fun v hv => absurd hv (List.not_mem_nil)) q4'
        have e80 : (s23.1 80).toInt = T := by
          rw [hs23, sfr_1, if_neg (by decide), sfr_1, if_pos rfl, hs22, sfr_1, if_neg (by decide)]
          exact r3
        have e81 : (s23.1 81).toInt = ((sbs (eta (argT ar (c :: A')) []) Z).length : Int) := by
          rw [hs23, sfr_1, if_pos rfl, hs22, sfr_1, if_neg (by decide)]
          exact r4
        have e64' : (s23.1 64).toInt = T + ((sbs (eta (argT ar (c :: A')) []) Z).length : Int) := by
          rw [hs23, sfr_1, if_neg (by decide), sfr_1, if_neg (by decide), hs22, sfr_1, if_neg (by decide)]
          exact r5
        rw [e80, e81]
        refine ⟨Or.inr (by omega), rfl, ⟨by omega, by omega⟩, ?_, sbs_R Z 1 q2 (fun c hc w => ⟨h24 c w, (hη c hc w).1⟩), ⟨r2, sbs_cdT hη q5⟩, sbs_cdW hη q4'⟩
        rw [hs23, hs22]
        exact r7
end ZNF
