/-! ===== addBody: its row, its env ===== -/
section AB2
variable {own : Nat → Nat × Nat} {b n N T F H S0 : Nat} {G : PG} {S O R M P E : Nat} {s w : yS}
/-- both TYPES are copied: the row, and what follows from it -/
theorem ab74 {d ic p l v Q mc : Nat} {I : List Nat} {Vs Ds : List (List Nat)} {wd : Int} {a1 a2 a3 a4 a5 a6 a7 : Int32} {R74 : Int32 → Int32 → Int32 → Int32 → Int32 → Int32 → Int32 → yS → Prop} (ih : AEH own b n N T F H S0 G S O 11 d) (hd : 3 ≤ d) (hI : IWm own b n N T F H S0 G S R M P s) (hPT : PT b n N F H G S O s) (hN : N ≤ 12006) (hO : O ≤ 120000) (h70 : (s.1 70).toInt = (E : Int)) (hE : E ≤ 279) (hic : ic < R) (h3 : a3.toInt = (ic : Int)) (h1 : a1.toInt = (p : Int)) (h2 : a2.toInt = (l : Int)) (hl : l ≤ 60) (hp : p + l ≤ M) (hcV : cutT (seg s p l) v Vs) (hoV : okL G 1 (seg s p l)) (hst : v / 8 < gT G ∧ ¬ gst G (v / 8) = 0) (hDs : ∀ D ∈ Ds, okL G 1 D) (hDl : Ds.flatten.length ≤ 420) (h280 : (s.2.1 280 ic).toInt = wd) (h281 : (s.2.1 281 ic).toInt = (Ds.length : Int) + 1) (hRM : RM G wd I Ds) (him : impl G (seg s p l) I) (h5 : a5 = s.1 64) (hP : P + 1200 ≤ 199000) (hJ : JF bK R M P E s w) (hW : RW G R M w) (w64 : (w.1 64).toInt = (Q : Int)) (w70 : w.1 70 = s.1 70) (hQ : Q = P + l + Ds.flatten.length) (hseg : seg w P (Q - P) = seg s p l ++ Ds.flatten) (hend : (s.2.1 282 ic).toInt + (s.2.1 283 ic).toInt ≤ a7.toInt) (hb1 : 0 ≤ (s.2.1 282 ic).toInt ∧ (s.2.1 282 ic).toInt ≤ 200000 ∧ 0 ≤ (s.2.1 283 ic).toInt ∧ (s.2.1 283 ic).toInt ≤ 200000) : w_256_74 (Tot d) R74 a1 a2 a3 a4 a5 a6 a7 w (ABP own b n N T F H S0 G S R M P E s) := by
  obtain ⟨c1, c2, c3, c4, c5, c6⟩ := id hI
  obtain ⟨M92, M20⟩ := RW_M c2
  have hR150 := c2.2.1
  have a5i : a5.toInt = (P : Int) := by rw [h5]; exact c3
  have hWG := c1.2.2.2.2.2.2.2.2.1
  have gg := pgA c1.1
  rw [c1.2.2.2.2.2.2.2.1] at gg
  obtain ⟨gT', gF', -, -, -, -, gg7⟩ := gg
  obtain ⟨hb, hn, hT24, hF60, hH, r33, r52, hA⟩ := id c1.1
  have row : ∀ q, q ∈ [279, 280, 281, 282, 283] → w.2.1 q ic = s.2.1 q ic := fun q hq => hJ.2.1 q ic (fun x => by omega) (fun x => by rw [x.1] at hq; revert hq; decide) (fun x => by rcases x.1 with y | y <;> (rw [y] at hq; revert hq; decide)) (fun x => by rcases x.1 with y | y <;> (rw [y] at hq; revert hq; decide))
  unfold w_256_74
  rw [show a3.toInt.toNat = ic by omega, row 282 (by decide), row 283 (by decide)]
  refine ⟨by omega, by omega, by omega, fun x1 hx1 => ⟨fun _ => ⟨by omega, by omega, by omega, fun x2 hx2 => ?_⟩, fun z => by omega⟩⟩
  have oF := okL_flat hDs
  have hr : RK G 2 (w.2.1 280 ic).toInt (Ds.length + 1) (seg w P (Q - P)) := by
    rw [hseg]
    have := okL_app hoV oF
    exact ⟨by rw [Nat.add_comm]; exact this.1, this.2.1, fun z => absurd z (by decide), fun z => absurd z (by decide)⟩
  refine Tot.imp (Tot.mono (by omega) (s_250 (d := 0) (p := P) (l := Q - P) (m := Ds.length + 1) (a1 := 2) hW hJ.2.2.2.1 (by rw [row 281 (by decide)]; omega) (by rw [h5]; exact c3) (by omega) (by omega) (Or.inr (by omega)) hr)) ?_
  rintro vv f ⟨rfl, fM, R1, M1, fW, g1, g2⟩
  refine ⟨rfl, ?_⟩
  have fJ : JF bK R M P E s f := JF_tr hJ (JF_mfr (P := P) (E := E) fM hJ.2.2.2.2) (by decide) (Nat.le_refl _) (Nat.le_refl _) (Nat.le_refl _) (Nat.le_refl _)
  refine ⟨fun hne => ⟨by omega, ?_⟩, fun heq => ?_⟩
  · have f280 : f.2.1 280 ic = s.2.1 280 ic := by rw [fM.2.1 280 ic (fun x => by omega) (fun x => by omega)]; exact row 280 (by decide)
    rw [f280]
    have fC : CK own b n N T F H S0 G f := JF_CK c1 fJ (by decide) M20 c4
    obtain ⟨d1, d2, d3, d4, d5, d6, d7, d8, d9, d10⟩ := id fC
    have fV : seg f p l = seg s p l := seg_eq (fun j j1 j2 => fJ.2.1 264 j (fun x => by have := x.1; revert this; decide) (fun x => by omega) (fun x => by omega) (fun x => by omega))
    have hcf := hcV
    rw [← fV] at hcf
    have vst : vSt G (seg s p l) := ⟨⟨hoV.1, hoV.2.1⟩, v, Vs, hcV, hst.1, hst.2⟩
    obtain ⟨kf, g, f1, f2, f3, f4, f5, f6⟩ := hRM (seg s p l) v Vs vst hcV (hoV.2.2 0 (seg s p l) [] (by rw [List.append_nil]; rfl) hoV.1 v Vs hcV hst.1) him
    refine Tot.imp (Tot.mono (by omega) (s_193 (e := 0) (H := H) (p := p) (c := v / 8) d1 d5 d7 h1 (by omega) (by rw [(cut_len hcf).2]) (by omega) d3)) ?_
    rintro vv u ⟨X, Y, rfl, r, rfl, hr'⟩
    rw [d8, h280] at hr'
    obtain ⟨-, h', cd', q1, q2, q3, q4⟩ := hr'.resolve_right (fun w => hd_no f4 w.2.2)
    clear hr'
    obtain ⟨e3, e4⟩ := isHd_inj q4 f4
    subst e3 e4
    refine ⟨r, rfl, ?_⟩
    obtain ⟨u, hu⟩ : ∃ u, u = sf (sf f 73 X) 74 Y := ⟨_, rfl⟩
    rw [← hu]
    have u2 : u.2 = f.2 := by rw [hu]; rfl
    have uk : ∀ k, ¬ k = 73 → ¬ k = 74 → u.1 k = f.1 k := fun k k1 k2 => by rw [hu, sf_1, if_neg k2, sf_1, if_neg k1]
    have u73 : u.1 73 = X := by rw [hu]; rfl
    have u74 : u.1 74 = Y := by rw [hu]; rfl
    have uJ : JF bK R M P E s u := by rw [hu]; exact JF_sf (JF_sf fJ (by decide)) (by decide)
    clear hu
    rw [u73]
    have n57 : ∀ f', f' < F → (f.2.1 257 (60 * b + f')).toInt = 204 * (b : Int) + (gfh G f' : Int) := fun f' hf => by
      rw [JF_row fJ (by decide)]
      have := (hA.2.2.1 f' hf).2.1
      rw [(gg7 f' hf).2.1]
      unfold nT
      omega
    refine Tot.imp (Tot.mono (by omega) (s_246 (d := 0) (b := b) (F := F) (k := kf) (a1 := X) hb (by rw [uk 75 (by decide) (by decide)]; exact d7) hF60 (by omega) (by rw [u2, n57 kf (by omega)]; omega) (fun f' hf heq => ?_))) ?_
    · rw [u2, n57 f' hf] at heq
      exact hWG.2.2.2.2.2.2.2.1 f' kf (by omega) (by omega) (by omega)
    rintro vv u' ⟨es, x6, rfl, hx6⟩
    have es := es.symm
    subst es
    refine ⟨x6, rfl, ?_⟩
    have u70 : u.1 70 = s.1 70 := by rw [uk 70 (by decide) (by decide), fM.1 70 (by decide)]; exact w70
    refine Tot.imp (Tot.mono (by omega) (s_188 (d := 0) (E := E) (by rw [u70]; exact h70) (by omega))) ?_
    rintro vv y ⟨rfl, X7, hX7, hy⟩
    refine ⟨u.1 70, rfl, ?_⟩
    have yk : ∀ k, ¬ k = 70 → y.1 k = u.1 k := fun k hk => by rw [hy, sf_1, if_neg hk]; rfl
    have y70 : y.1 70 = X7 := by rw [hy]; rfl
    have yc : ∀ q i, ¬ (q = 266 ∧ 2 * E ≤ i) → y.2.1 q i = f.2.1 q i := fun q i x => by
      rw [hy]
      show (sa (sa u 266 (2 * E) 0) 266 (2 * E + 1) 0).2.1 q i = _
      rw [sa_2, if_neg (fun z => x ⟨z.1, by omega⟩), sa_2, if_neg (fun z => x ⟨z.1, by omega⟩), u2]
    have yl : y.2.2 = f.2.2 := by rw [hy]; show u.2.2 = _; rw [u2]
    clear hy
    rw [yk 74 (by decide), u74]
    have sy : seg y P (Q - P) = v :: (Vs.flatten ++ Ds.flatten) := by
      have e1 : seg y P (Q - P) = seg w P (Q - P) := seg_eq (fun j j1 j2 => by rw [yc 264 j (fun x => by omega), fM.2.1 264 j (fun x => by have := x.1; revert this; decide) (fun x => by omega)])
      rw [e1, hseg, hcV.1]
      rfl
    have hlV : (seg s p l).length = l := seg_len
    have hlV' : l = 1 + Vs.flatten.length := by
      rw [← hlV, hcV.1, List.length_cons]
      omega
    have syV : seg y P l = v :: Vs.flatten := by
      have : seg y P (Q - P) = (v :: Vs.flatten) ++ Ds.flatten := sy
      have q := (seg_cut this).1
      rw [List.length_cons, show Vs.flatten.length + 1 = l by omega] at q
      exact q
    have hV6 : Vs.length ≤ 6 := by
      rw [hcV.2.2]
      have := (hWG.2.1 _ hst.1).1
      rcases hoV.2.1 v (by rw [hcV.1]; exact List.mem_cons_self) with z | z
      · omega
      · exact absurd z.2.2 id
    have hD6 : Ds.length ≤ 6 := by
      rw [f5]
      exact (hWG.2.2.1 h' q1).1
    refine Tot.imp (Tot.mono (by omega) (s_189w (d := 0) (e := E) (g := 0) (c := 4000 + 6 * kf) (p := P) (l := l) (P := Q) (x := v) (As := Vs) (fun i => by rw [yc 264 i (fun x => by omega)]; exact d5 i) (by rw [u70]; exact h70) (by omega) (by decide) (by decide) q3 (by rw [h5]; exact c3) syV hcV.2.1 hcV.2.2 hV6 (by omega) (by omega))) ?_
    rintro vv z ⟨rfl, hGF, hEV, hlo⟩
    refine ⟨rfl, ?_⟩
    have z75 : (z.1 75).toInt = (b : Int) := by rw [hGF.1, yk 75 (by decide), uk 75 (by decide) (by decide)]; exact d7
    have z73 : (z.1 73).toInt = 204 * (b : Int) + h' := by rw [hGF.1, yk 73 (by decide), u73]; exact q2
    rw [u70]
    refine ⟨by omega, fun y9 hy9 => ⟨by omega, fun y10 hy10 => ⟨by omega, fun y11 hy11 => ⟨by omega, fun y12 hy12 => ⟨by omega, fun y13 hy13 => ⟨by omega, fun y14 hy14 => ⟨by omega, ?_⟩⟩⟩⟩⟩⟩⟩
    rintro s22 rfl
    rw [show y10.toInt.toNat = 2 * E + 1 by omega]
    have zc : ∀ q i, ¬ ((q = 265 ∨ q = 266) ∧ 2 * E ≤ i) → ¬ ((q = 267 ∨ q = 268) ∧ 12 * E ≤ i) → z.2.1 q i = f.2.1 q i := fun q i w1 w2 => by rw [hGF.2.1 q i (fun w => by omega), yc q i (fun w => w1 ⟨Or.inr w.1, w.2⟩)]
    have z281 : (sa z 265 (2 * E + 1) y14).2.1 281 ic = s.2.1 281 ic := by
      rw [sa_2, if_neg (fun x => by omega), zc 281 ic (fun x => by omega) (fun x => by omega), fM.2.1 281 ic (fun x => by omega) (fun x => by omega)]
      exact row 281 (by decide)
    rw [z281]
    refine ⟨by omega, by omega, fun x23 hx23 => ⟨by omega, ?_⟩⟩
    rintro s24 rfl
    refine ⟨by rw [h5]; omega, fun x25 hx25 => ?_⟩
    obtain ⟨t, ht⟩ : ∃ t, t = sa (sa z 265 (2 * E + 1) y14) 266 (2 * E + 1) x23 := ⟨_, rfl⟩
    rw [← ht]
    have tc : ∀ q i, ¬ ((q = 265 ∨ q = 266) ∧ i = 2 * E + 1) → t.2.1 q i = z.2.1 q i := fun q i x => by
      rw [ht, sa_2, if_neg (fun y => x ⟨Or.inr y.1, y.2⟩), sa_2, if_neg (fun y => x ⟨Or.inl y.1, y.2⟩)]
    have t1 : t.1 = z.1 := by rw [ht]; rfl
    have tl : t.2.2 = f.2.2 := by rw [ht]; show z.2.2 = _; rw [hGF.2.2, yl]
    have t265 : (t.2.1 265 (2 * E + 1)).toInt = ((2000 + 6 * h' : Nat) : Int) := by
      rw [ht, sa_2, if_neg (fun y => by omega), sa_2, if_pos ⟨rfl, rfl⟩]
      omega
    have t266 : (t.2.1 266 (2 * E + 1)).toInt = (Ds.length : Int) := by
      rw [ht, sa_2, if_pos ⟨rfl, rfl⟩]
      omega
    clear ht
    have tk : ∀ k, k ∉ [70, 73, 74] → t.1 k = f.1 k := fun k hk => by
      rw [t1, hGF.1, yk k (fun x => hk (by rw [x]; decide)), uk k (fun x => hk (by rw [x]; decide)) (fun x => hk (by rw [x]; decide))]
    have t64 : ∀ j, t.2.1 264 j = f.2.1 264 j := fun j => by rw [tc 264 j (fun x => by omega)]; exact zc 264 j (fun x => by omega) (fun x => by omega)
    have tG : GC t := fun i => by
      by_cases x : i = 2 * E + 1
      · rw [x]; omega
      · rw [tc 265 i (fun x' => x x'.2)]
        by_cases x' : i = 2 * E
        · rw [x']
          have := hEV.1
          rw [show 2 * E + 0 = 2 * E from rfl] at this
          omega
        · rw [hGF.2.1 265 i (fun w => by omega), yc 265 i (fun w => by omega)]
          exact d6 i
    have tJ : JF bK R M P E s t := JF_tr fJ (ks' := [70, 73, 74]) (R' := R) (M' := M) (P' := P) (E' := E) ⟨tk, fun q i _ _ x3 x4 => by rw [tc q i (fun x => x3 ⟨x.1, by omega⟩)]; exact zc q i x3 x4, tl, fun i => by rw [t64]; exact d5 i, tG⟩ (by decide) (Nat.le_refl _) (Nat.le_refl _) (Nat.le_refl _) (Nat.le_refl _)
    have tW : RW G R1 M1 t := RW_eq fW (tk 112 (by decide)) (tk 118 (by decide)) (by rw [tk 111 (by decide)]; exact fW.2.2.2.2.2.1) (fun q i hq => by
      rcases hq with ⟨hq, -⟩ | ⟨hq, -⟩
      · simp only [List.mem_cons, List.not_mem_nil, or_false] at hq
        rw [tc q i (fun x => by omega)]
        exact zc q i (fun x => by omega) (fun x => by omega)
      · rw [hq]
        exact t64 i)
    have oVs : ∀ D ∈ Vs, okL G 1 D := by
      have := okL_vs hcV hoV
      exact this
    refine ab189 (l := l) (Q := Q) (kf := kf) (g := h') (Vs := Vs) (Ds := Ds) ih (by omega) hI hPT hN hO h70 hE tJ tW (by omega) (by omega) ?_ ?_ (by omega) (by omega) ?_ hDs oVs hD6 (by omega) f2 f6 ?_ ?_ t265 t266 h5 hx6 (by omega) (by omega) (by rw [hx25, h5]; omega)
    · rw [t1, hGF.1, y70]
      exact hX7
    · rw [tk 64 (by decide), fM.1 64 (by decide)]
      exact w64
    · have e1 : seg t (P + l) (Q - (P + l)) = seg y (P + l) (Q - (P + l)) := seg_eq (fun j _ _ => by rw [t64, yc 264 j (fun x => by omega)])
      rw [e1, show Q - (P + l) = Ds.flatten.length by omega]
      have : seg y P (Q - P) = (v :: Vs.flatten) ++ Ds.flatten := sy
      have q := (seg_cut this).2.1
      rw [List.length_cons, show P + (Vs.flatten.length + 1) = P + l by omega] at q
      exact q
    · rw [show 2 * E + 0 = 2 * E from rfl] at hEV
      exact EVg_mv (s := z) hEV (tc _ _ (fun x => by omega)) (tc _ _ (fun x => by omega)) (fun a ha => ⟨tc _ _ (fun x => by omega), tc _ _ (fun x => by omega)⟩) (fun j _ => tc _ _ (fun x => by omega)) (Nat.le_refl _)
    · intro a ha
      have := hlo a Vs[a] (List.getElem?_eq_getElem ha)
      rw [show 6 * (2 * E + 0) + a = 12 * E + a by omega] at this
      rw [tc 267 _ (fun x => by omega)]
      omega
  · rintro s26 rfl
    have J2 : JF bK R M P E s (sf f 64 a5) := JF_sf fJ (by decide)
    refine ⟨rfl, J2, ?_, R1, M1, ⟨JF_CK c1 J2 (by decide) M20 c4, RW_eq (s := f) fW rfl rfl fW.2.2.2.2.2.1 (fun _ _ _ => rfl), by show a5.toInt = _; rw [h5]; exact c3, c4, c5, c6⟩, g1, g2⟩
    show f.1 70 = _
    rw [fM.1 70 (by decide)]
    exact w70
end AB2
