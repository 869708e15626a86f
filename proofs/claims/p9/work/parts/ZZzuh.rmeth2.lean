/-! ===== the reference's run beside the pure machine: a METHOD ===== -/
section ZUM
variable {K L W ar kd : Int → Int} {TN Ls : List Int} {nI A0 A1 : Int} {own : Nat → Nat × Nat} {b n W' N T F H S0 : Nat} {G : PG} {S O E pl plx c Vn vt Lc Vn' vt' L' : Nat} {s u w : yS} {fo : Option Nat} {S' : Scp} {β0 β1 fa lo' hi' q0 Bf : Int} {fr ev b0 b1 : Nat} {As Bs Zs : List (List Nat)} {Ev : Env} {st : List Itm} {bs : Nat} {frs : List Frm} {vs : Vls} {C : List Ins} {Ai : List Int} {nm w0 : Nat} {Ys : List (List Int)} {XS : PMs} {ys : List Nat}
theorem MEq_j {ar : Int → Int} {fc : Int → Int → Option (Nat × List Ins)} {mv : List Int → List Int → Int} {nT l wq en : Int} {s0 : yS} {j j' : Nat} (hne : ¬ en = 0) (h : MEq ar fc mv nT G XS Ai nm Ys wq C st w0 bs Ev frs vs l fa Bf pl s0 j en u) : MEq ar fc mv nT G XS Ai nm Ys wq C st w0 bs Ev frs vs l fa Bf pl s0 j' en u := by
  obtain ⟨vs', cl', N, h1, h2, h3, h4⟩ := h
  rcases h4 with ⟨w, -⟩ | h4
  · exact absurd w hne
  · exact ⟨vs', cl', N, h1, h2, h3, Or.inr h4⟩
set_option maxHeartbeats 2000000 in
/-- from the new env to the end -/
theorem m52 {d e v kf g t hm m' : Nat} {Vs : List (List Nat)} {wd : Int} {A : List Nat} {a1 a2 a3 a4 a5 a6 : Int32} {AW : List Int} {ps : List Nat} (hPR : PRm K L W ar kd nI lo' hi' TN Ls) (hFO : FOk K L W ar kd TN Ls nI) (hA1 : A1 ≤ 13000) (ih : REH own b n W' N T F H S0 G S O (c + 1) 11 d) (ihS : RSm K L W ar kd TN Ls nI A0 A1 own b n W' N T F H S0 G S O (c + 1) 11 d) (hd : 4 ≤ d) (hvt0 : 13000 ≤ vt ∧ vt ≤ 18000) (hX : RX rK E pl Vn vt s u) (hR : RTm own b n W' N T F H S0 G S O E plx c Vn' vt' L' u) (hE : E ≤ c + 1) (hplx : pl < plx ∧ plx ≤ pl + 7) (hpl : c < 40 → plx + 77 + 80 * (39 - c) ≤ 4000) (hN : N ≤ 12006) (he : e < 12006) (hhm : hm ≤ 12006) (h1 : a1.toInt = (e : Int)) (h3 : a3.toInt = (ev : Int)) (h4 : a4.toInt = (pl : Int)) (h5 : 0 ≤ a5.toInt) (hV : Vn ≤ Vn') (hv : vt ≤ vt') (hev : ev < E) (hEV : EV u ev vt' b0 As b1 Bs) (hτ : wEnv G (scX G fo) (envS b0 As b1 Bs)) (hY : wY G b (scX G fo) S u (u.2.1 229 e).toInt e hm Zs) (hZ : Zs.length ≤ 6)
    (ht : (u.2.1 222 e).toInt = (t : Int)) (ht2 : t < 12006) (hwd : (u.2.1 217 t).toInt = wd) (h278 : (u.2.1 278 pl).toInt = (w0 : Int)) (hw0 : w0 < Vn') (hcV : cutT (VT u w0) v Vs) (f1 : kf < F) (f2 : g = gfh G kf) (f4 : isHd G (v / 8) wd g (4000 + 6 * kf)) (hvT : v / 8 < gT G) (hZF : ∀ B ∈ Zs, isF 1 (subs (envS b0 As b1 Bs) B)) (hτ2 : wEnv G (scHg G g) (envS (4000 + 6 * kf) Vs (2000 + 6 * g) (Zs.map (subs (envS b0 As b1 Bs))))) (hthis : subs (envS (4000 + 6 * kf) Vs (2000 + 6 * g) (Zs.map (subs (envS b0 As b1 Bs)))) (thisT G kf) = VT u w0) (hres : subs (envS (4000 + 6 * kf) Vs (2000 + 6 * g) (Zs.map (subs (envS b0 As b1 Bs)))) (ght G g) = subs (envS b0 As b1 Bs) A)
    (hpx : a5.toInt = 0 → plx = pl + 1 + gvn G g ∧ ∀ j, j < gvn G g → ∃ w : Nat, (u.2.1 278 (pl + 1 + j)).toInt = (w : Int) ∧ w < Vn' ∧ impl G (VT u w) (subs (envS (4000 + 6 * kf) Vs (2000 + 6 * g) (Zs.map (subs (envS b0 As b1 Bs)))) (gvt G g j)))
    (hSC : SCx K L W ar kd TN Ls nI A0 A1 b G S' β0 β1 b0 b1 As Bs Ev st bs fr pl frs vs c Vn s) (hq : wTk K nI q0) (hqt : (t : Int) = 4002 * (b : Int) + q0) (hvw : vs[w0]? = some (AW, ps)) (hM0 : MEq ar (fcD K L W ar kd TN Ls) (mvC K L W ar kd TN Ls) (TN.length : Int) G XS Ai nm Ys (W q0) C st w0 bs Ev frs vs (lft s) fa (8 * (m' : Int) + 6 + 100 * (41 - (c : Int))) pl s 0 a5.toInt u) (hZY : Zs = Ys.map (enN ar β0 β1)) (hZg : Zs.length = ghn G g) (hnm : a5.toInt = 0 → nm = gvn G g) (hYs : ∀ A ∈ Ys, TGo ar (TN.length : Int) (Ev.1.length : Int) (Ev.2.length : Int) A) (hh : st.length + 8 ≤ 88 * (c + 1)) : w_244_52 (Tot (d + 1)) a1 a2 a3 a4 a5 a6 u (SmQ ar (fcD K L W ar kd TN Ls) (mvC K L W ar kd TN Ls) (TN.length : Int) G XS C st bs Ev frs vs (lft s) fa 0 (8 * (m' : Int) + 6 + 100 * (41 - (c : Int))) s) := by
  obtain ⟨ha, h24⟩ := PR_ar hPR
  have hEv := hSC.2.1.1.1
  have hRl := hSC.2.1.1.2
  have lZY : Zs.length = Ys.length := by rw [hZY, List.length_map]
  have hvu := RT_vt hR
  have h13 := hR.2.2.2.2.2.2.2.2.2.2.2.2.2.2.1
  have hc40 := hR.2.2.2.2.2.2.2.2.2.2.2.2.2.2.2.2.2.2
  obtain ⟨r1, r2, r3, r4, r5, r6, r7, r8, r9, r10, r11, r12, r13, r14, r15, r16, r17, r18, r19⟩ := id hR
  obtain ⟨ys, y1, y2, y3⟩ := hY
  unfold w_244_52
  refine Tot.imp (Tot.mono (by omega) (s_188 (d := 0) r4 (by omega))) ?_
  rintro v' u1 ⟨rfl, x, hx, hu1⟩
  refine ⟨u.1 70, rfl, by omega, ?_⟩
  rw [show a1.toInt.toNat = e by omega]
  have uc : ∀ q i, ¬ (q = 266 ∧ 2 * E ≤ i) → u1.2.1 q i = u.2.1 q i := fun q i w => by
    rw [hu1]
    show (sa (sa u 266 (2 * E) 0) 266 (2 * E + 1) 0).2.1 q i = _
    rw [sa_2, if_neg (fun w' => w ⟨w'.1, by omega⟩), sa_2, if_neg (fun w' => w ⟨w'.1, by omega⟩)]
  have u6 : (u1.2.1 266 (2 * E + 1)).toInt = 0 := by
    rw [hu1]
    show ((sa (sa u 266 (2 * E) 0) 266 (2 * E + 1) 0).2.1 266 (2 * E + 1)).toInt = 0
    rw [sa_2, if_pos ⟨rfl, rfl⟩]
    decide
  have uk : ∀ k, ¬ k = 70 → u1.1 k = u.1 k := fun k hk => by
    rw [hu1, sf_1, if_neg hk]
    rfl
  have u70 : (u1.1 70).toInt = ((E + 1 : Nat) : Int) := by
    rw [hu1]
    show x.toInt = _
    omega
  have ul : u1.2.2 = u.2.2 := by rw [hu1]; rfl
  clear hu1
  have uX : RX rK7 E plx Vn' vt' u u1 := ⟨fun k hk => uk k (fun w => hk (by rw [w]; decide)), fun q i _ c2 _ _ _ _ => uc q i (fun w => c2 ⟨Or.inr w.1, by omega⟩), ul, fun i => by rw [uc 264 i (fun w => by omega)]; exact r1.2.2.2.2.1 i, fun i => by rw [uc 265 i (fun w => by omega)]; exact r1.2.2.2.2.2.1 i⟩
  have u1R : RTm own b n W' N T F H S0 G S O (E + 1) plx c Vn' vt' L' u1 := RT_rx hR uX (by decide) u70 (by rw [uk 105 (by decide)]; exact r5) (by rw [uk 106 (by decide)]; exact r6) (by rw [uk 98 (by decide)]; exact r7) (by rw [uk 97 (by decide)]; exact r8) (by rw [uk 95 (by decide)]; exact r9) (by rw [uk 96 (by decide)]; exact r11) (by rw [uk 94 (by decide)]; exact r12) (by rw [uk 93 (by decide)]; exact r13) (Nat.le_refl _) (Nat.le_refl _) r16 r19
  have hMu : MEq ar (fcD K L W ar kd TN Ls) (mvC K L W ar kd TN Ls) (TN.length : Int) G XS Ai nm Ys (W q0) C st w0 bs Ev frs vs (lft s) fa (8 * (m' : Int) + 6 + 100 * (41 - (c : Int))) pl s 0 a5.toInt u1 := MEq_e (u := u) (fun k hk => uk k (by omega)) (fun q hq => funext fun i => uc q i (fun w => by omega)) hM0
  rw [uc 229 e (fun w => by omega)]
  refine ⟨fun z1 z2 z3 z4 z5 z6 z7 w => z1 = a1 ∧ z3 = a3 ∧ z4 = a4 ∧ z6 = u.1 70 ∧ ∃ j : Nat, MEI own b n W' N T F H S0 G S O E plx c Vn' vt' L' (envS b0 As b1 Bs) Zs ys a5.toInt u j z7.toInt z5.toInt w ∧ MEq ar (fcD K L W ar kd TN Ls) (mvC K L W ar kd TN Ls) (TN.length : Int) G XS Ai nm Ys (W q0) C st w0 bs Ev frs vs (lft s) fa (8 * (m' : Int) + 6 + 100 * (41 - (c : Int))) pl s j z5.toInt w, fun _ _ _ _ _ _ _ w => (20 - (w.2.1 266 (2 * E + 1)).toInt).toNat, ⟨rfl, rfl, rfl, rfl, 0, ⟨vt', L', uX, u1R, Nat.le_refl _, Nat.le_refl _, by omega, u6, h5, (fun h0 => ⟨h0, y1, fun a B ha => by omega⟩)⟩, hMu⟩, ?_⟩
  rintro z1 z2 z3 z4 z5 z6 z7 w ⟨e1, e3, e4, e6, j, hI, hM⟩
  have e1 := e1.symm
  have e3 := e3.symm
  have e4 := e4.symm
  have e6 := e6.symm
  subst e1 e3 e4 e6
  obtain ⟨vt2, L2, wX, wR, k1, k2, k3, k4, k5, k6⟩ := id hI
  have hv2 := RT_vt wR
  have swX : RX rK7 E pl Vn vt s w := RX_tr (RX_mo hX (ks := rK7) (fun k hk => List.mem_cons_of_mem _ hk) (Nat.le_refl _) (Nat.le_refl _) (Nat.le_refl _) (Nat.le_refl _)) wX (fun _ w => w) (Nat.le_refl _) (by omega) hV hv
  have fin : (z5.toInt = 0 → j = Zs.length) → w_244_115 (Tot (d + 1)) a1 z2 a3 a4 z5 (u.1 70) z7 w (SmQ ar (fcD K L W ar kd TN Ls) (mvC K L W ar kd TN Ls) (TN.length : Int) G XS C st bs Ev frs vs (lft s) fa 0 (8 * (m' : Int) + 6 + 100 * (41 - (c : Int))) s) := by
    intro hend
    have hMY : MEq ar (fcD K L W ar kd TN Ls) (mvC K L W ar kd TN Ls) (TN.length : Int) G XS Ai nm Ys (W q0) C st w0 bs Ev frs vs (lft s) fa (8 * (m' : Int) + 6 + 100 * (41 - (c : Int))) pl s Ys.length z5.toInt w := by
      by_cases h0 : z5.toInt = 0
      · have ej := hend h0
        rw [lZY] at ej
        rw [← ej]
        exact hM
      · exact MEq_j h0 hM
    refine m115 (w0 := w0) (v := v) (kf := kf) (g := g) (t := t) (Vs := Vs) (Ds := Zs.map (subs (envS b0 As b1 Bs))) (Ar := subs (envS b0 As b1 Bs) A) (wd := wd) hPR hFO hA1 ih ihS hd hvt0 swX wR hE hplx hpl hN he h1 h4 r4 (fun h0 => ?_) hSC hq hqt hvw hMY (fun h0 => ⟨?_, by rw [List.length_map]; exact hZg, hnm (k6 h0).1⟩) hYs hh
    rotate_left
    · rw [hZY, List.map_map, List.map_map]
      exact List.map_congr_left (fun D hD => (put_enN ha hEv hRl (hYs D hD)).1)
    have ej := hend h0
    obtain ⟨k7, k8, k9⟩ := k6 h0
    obtain ⟨p1, p2⟩ := hpx k7
    have VTw : ∀ z, z < Vn' → VT w z = VT u z := fun z hz => RX_VT wX hz (r17 z hz) (by omega)
    have c278 : ∀ i, i < plx → w.2.1 278 i = u.2.1 278 i := fun i hi => wX.2.1 278 i (fun w => by omega) (fun w => by omega) (fun w => by omega) (fun w => by omega) (fun w => by omega) (fun w => by omega)
    refine ⟨by rw [RX_row wX (by decide)]; exact ht, ht2, by rw [RX_row wX (by decide)]; exact hwd, by rw [c278 pl hplx.1]; exact h278, hw0, by rw [VTw w0 hw0]; exact hcV, f1, f2, f4, hvT, by rw [List.length_map]; omega, by rw [List.length_map]; exact hZ, fun a A' hA' => ?_, hτ2, by rw [VTw w0 hw0]; exact hthis, hres, p1, fun i hi => ?_⟩
    · rw [List.getElem?_map] at hA'
      obtain ⟨B, b1', b2'⟩ := Option.map_eq_some_iff.mp hA'
      rw [← b2']
      have hal : a < Zs.length := by
        by_cases q : a < Zs.length
        · exact q
        · rw [List.getElem?_eq_none (by omega)] at b1'
          cases b1'
      obtain ⟨q, q1, q2, q3, q4⟩ := k9 a B (by omega) b1'
      exact ⟨hZF B (List.mem_of_getElem? b1'), q, q1, q2, q3, q4⟩
    · obtain ⟨z, z1', z2', z3'⟩ := p2 i hi
      refine ⟨z, by rw [c278 _ (by omega)]; exact z1', z2', ?_⟩
      rw [VTw z z2']
      exact z3'
  unfold w_244_60
  refine ⟨fun hneg => fin (fun h0 => ?_), fun hpos => ⟨fun hne => fin (fun q => absurd q hne), fun h0 => ?_⟩⟩
  · obtain ⟨-, k8, -⟩ := k6 h0
    cases hdr : ys.drop j with
    | nil =>
      have := List.drop_eq_nil_iff.mp hdr
      omega
    | cons q ys' =>
      rw [hdr] at k8
      have : z7.toInt = (q : Int) := k8.1
      omega
  · obtain ⟨-, k8, -⟩ := k6 h0
    cases hdr : ys.drop j with
    | nil =>
      rw [hdr] at k8
      have : z7.toInt = -1 := k8
      omega
    | cons q ys' =>
      rw [hdr] at k8
      have hz7 : z7.toInt = (q : Int) := k8.1
      have hyj : ys[j]? = some q := by
        have := congrArg List.head? hdr
        rw [List.head?_drop] at this
        exact this
      obtain ⟨c1, c2, B, c3, c4⟩ := y3 j q hyj
      rw [h0] at hI
      have hjl : j < Zs.length := by
        by_cases q : j < Zs.length
        · exact q
        · rw [List.getElem?_eq_none (by omega)] at c3
          cases c3
      rw [h0] at hM
      obtain ⟨D, hYD, hBD⟩ : ∃ D, Ys[j]? = some D ∧ B = enN ar β0 β1 D := by
        rw [hZY, List.getElem?_map] at c3
        obtain ⟨D, d1, d2⟩ := Option.map_eq_some_iff.mp c3
        exact ⟨D, d1, d2.symm⟩
      have ha5 := (k6 h0).1
      have hp5 := (hpx ha5).1
      have hn5 := hnm ha5
      have h13w := wR.2.2.2.2.2.2.2.2.2.2.2.2.2.2.1
      have wS : S ≤ 8210 := wR.2.2.2.2.2.2.2.2.2.2.2.2.2.2.2.2.2.1
      refine Tot.imp (Tot.mono (by omega) (Tot_and (MEI_step (d := 0) hR hev hEV hτ (by omega) hZ hI hyj c3 c4 hz7 h3) (MEq_step (d := 0) (D := D) ha wR (by omega) (by omega) (RX_EV hEV wX hev (by omega) k1) hτ (wT_eq (lo := q) (hi := q + 1) (RX_CA (b := b) (n := n) (S := S) (O := O) wX (by omega) (by omega)) (Nat.le_refl _) (Nat.le_refl _) (by omega) c4) hz7 h3 hEv hRl (hYs D (List.mem_of_getElem? hYD)) hBD hYD hvw (by omega) (by omega) (by omega) (by omega) hM))) ?_
      rintro v' s1 ⟨⟨x3, rfl, n1, n2, n3⟩, x3', ex3, n5⟩
      have ex3' : x3 = x3' := by
        have := Option.some.inj ex3
        injection this
      subst ex3'
      refine ⟨x3, rfl, by omega, fun x4 hx4 => ⟨by omega, fun x5 hx5 => ⟨by omega, fun x6 hx6 => ⟨by omega, ?_⟩⟩⟩⟩
      rw [show x5.toInt.toNat = 2 * E + 1 by omega]
      refine ⟨by omega, fun x7 hx7 => ⟨by omega, ?_⟩⟩
      rintro s8 rfl
      rw [show x7.toInt.toNat = 12 * E + 6 + j by omega]
      have e66 : (sa s1 267 (12 * E + 6 + j) (s1.1 107)).2.1 266 (2 * E + 1) = s1.2.1 266 (2 * E + 1) := by rw [sa_2, if_neg (fun w => by omega)]
      rw [e66]
      refine ⟨by omega, fun x9 hx9 => ⟨by omega, by omega, fun x10 hx10 => ⟨by omega, ?_⟩⟩⟩
      rintro s11 rfl
      rw [show x10.toInt.toNat = 12 * E + 6 + j by omega]
      have e66' : (sa (sa s1 267 (12 * E + 6 + j) (s1.1 107)) 268 (12 * E + 6 + j) ((sa s1 267 (12 * E + 6 + j) (s1.1 107)).1 108)).2.1 266 (2 * E + 1) = s1.2.1 266 (2 * E + 1) := by rw [sa_2, if_neg (fun w => by omega), e66]
      rw [e66']
      refine ⟨by omega, by omega, fun x12 hx12 => ⟨by omega, ?_⟩⟩
      rintro s13 rfl
      have n4 := n3 x12 (by omega)
      obtain ⟨f, hf⟩ : ∃ f, f = sa (sa (sa s1 267 (12 * E + 6 + j) (s1.1 107)) 268 (12 * E + 6 + j) (s1.1 108)) 266 (2 * E + 1) x12 := ⟨_, rfl⟩
      have hf' : sa (sa (sa s1 267 (12 * E + 6 + j) (s1.1 107)) 268 (12 * E + 6 + j) ((sa s1 267 (12 * E + 6 + j) (s1.1 107)).1 108)) 266 (2 * E + 1) x12 = f := by rw [hf]; rfl
      rw [hf']
      rw [← hf] at n4
      have f25 : f.2.1 225 = u.2.1 225 := by
        rw [← n2]
        funext i
        rw [hf, sa_2, if_neg (fun w => by omega), sa_2, if_neg (fun w => by omega), sa_2, if_neg (fun w => by omega)]
      have f66 : (f.2.1 266 (2 * E + 1)).toInt = (j : Int) + 1 := by
        rw [hf, sa_2, if_pos ⟨rfl, rfl⟩]
        omega
      have fa1 : f.1 = s1.1 := by rw [hf]; rfl
      have fa2 : ∀ q, q = 264 ∨ q = 275 ∨ q = 276 ∨ q = 277 ∨ q = 278 → f.2.1 q = s1.2.1 q := fun q hq => by
        funext i
        rw [hf, sa_2, if_neg (fun w => by omega), sa_2, if_neg (fun w => by omega), sa_2, if_neg (fun w => by omega)]
      clear hf hf'
      rw [f25, show z7.toInt.toNat = q by omega]
      refine ⟨by omega, ⟨rfl, rfl, rfl, rfl, j + 1, n4, n5 f fa1 fa2⟩, ?_⟩
      show (20 - (f.2.1 266 (2 * E + 1)).toInt).toNat < (20 - (w.2.1 266 (2 * E + 1)).toInt).toNat
      omega
end ZUM
