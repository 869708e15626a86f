/-! ===== the reference: bounds ===== -/
/-- a code in a scope -/
def cdP (nT nX nY c : Int) : Prop := 0 ≤ c ∧ c < 36 ∧ (24 ≤ c → c < 30 → c - 24 < nX) ∧ (30 ≤ c → c - 30 < nY) ∧ (c < 24 → c < nT)
section YXB
variable {ar kd K L cd : Int → Int} {cf : Nat → Int} {fs : Nat → Nat} {F H : Nat} {nT : Int} {tm tn : Int → Nat} {hd : Nat → Nat × Nat × List (List Int)} {hb ow hw : Nat → Int} {Bf : Int → List (List Int)} {b A T β0 β1 nX nY B : Int} {bn : Int → List Int} {tok : Nat → Int} {mv : List Int → List Int → List Int → Int}
theorem bdGs_nn (htk : ∀ j, 0 ≤ tok j) (hmv : mv = mtV ar kd (rso kd cf fs F tm tn hw) hw hd tm tn) (c : Int) (X : List (List Int)) (j : Nat) : ∀ v ∈ bdGs mv Bf bn tok c X j, 0 ≤ v := by
  intro v hv
  unfold bdGs at hv
  obtain ⟨i, -, rfl⟩ := List.mem_map.mp hv
  have h1 := htk (j + 1 + (X.take i).flatten.length)
  have h2 : bdK mv Bf bn c X i = 0 ∨ bdK mv Bf bn c X i = 7 ∨ bdK mv Bf bn c X i = 9 := by
    unfold bdK
    by_cases h : 60 < (sbs (eta X []) ((Bf c).getD i [])).length
    · rw [if_pos h]
      exact Or.inr (Or.inr rfl)
    · rw [if_neg h, hmv]
      exact mtV_b
  by_cases h3 : bdK mv Bf bn c X i = 0
  · rw [if_pos h3]
    exact Int.le_refl _
  · rw [if_neg h3]
    omega
theorem ffs_take {l : List Int} {k : Nat} (h : ¬ ffs (l.take k) = 0) : ffs l = ffs (l.take k) := by
  have e1 : ffs l = ffs (l.take k ++ l.drop k) := by rw [List.take_append_drop]
  rw [e1, ffs_app, if_neg h]
/-- a BOUND put for a type's TYPES -/
theorem bd_put {c c1 : Int} {Z : List (List Int)} {D : List Int} (ha : ∀ c, 0 ≤ ar c ∧ ar c ≤ 7) (hc : 0 ≤ c ∧ c < 24) (hl : Z.length ≤ 6) (hD : cdW (Z.length : Int) 0 D) : (D.map (rhE ar (1000 + 6 * c) 2000)).flatMap (rpt (1000 + 6 * c) (Z.map (List.map (rhE ar β0 β1))) c1 []) = (sbs (eta Z []) D).map (rhE ar β0 β1) := by
  have e1 : (D.map (rhE ar (1000 + 6 * c) 2000)).flatMap (rpt (1000 + 6 * c) (Z.map (List.map (rhE ar β0 β1))) c1 []) = (D.map (rhE ar (1000 + 6 * c) 2000)).flatMap (rpt (1000 + 6 * c) (Z.map (List.map (rhE ar β0 β1))) 2000 (([] : List (List Int)).map (List.map (rhE ar β0 β1)))) := by
    congr 1
    funext x
    exact rpt_c1
  rw [e1]
  refine enc_put ha ⟨Or.inl ⟨by omega, by omega⟩, by omega, by omega⟩ hl D hD (fun x hx => ⟨fun w1 w2 => ?_, fun w1 => ?_⟩)
  · have := (hD x hx).2.2.1 w1 w2
    unfold eta
    rw [if_pos (by omega), if_pos (by omega)]
  · have := (hD x hx).2.2.2 w1
    omega
theorem yRw_xm {s : yS} {w : Nat → Int → List Int} {m : Nat} {x y t : Int} (h : yRw K L B s w A m x y t) : (0 ≤ x ∧ x < y) ∧ (s.2.1 222 x.toNat).toInt = B + t ∧ RSe s A x (w m t) := by
  cases m with
  | zero => exact h.1.elim
  | succ m => exact yRw_x h
set_option maxHeartbeats 8000000 in
/-- bounds, by the levels of the TYPE -/
theorem x_211 (hSP : SPe ar cf F H nT hd hb ow Bf β0 β1 nX nY bn) (hA : A ≤ T) (hcd : ∀ t, 0 ≤ cd t → cdP nT nX nY (cd t)) (hmv : mv = mtV ar kd (rso kd cf fs F tm tn hw) hw hd tm tn) (htk : ∀ j, 0 ≤ tok j) : ∀ (m : Nat), m ≤ 10 → ∀ (d : Nat) (a1 : Int32) (x y t : Int) (p e : Nat) (s : yS), PGr ar kd cf fs F H nT tm tn hd hb ow hw Bf b A s → (s.1 64).toInt = T → (s.1 70).toInt = (e : Int) → (s.1 8).toInt = 0 → a1.toInt = x → yRw K L B s (wdT K L cd ar β0 β1) A m x y t → (tlT K L cd ar m t).1 = 0 → (p_t K L m false (0, t)).1 = 0 → (∀ q ∈ (tlT K L cd ar m t).2, (s.2.1 216 (B + q.2).toNat).toInt = L q.2) → (∀ (j : Nat) (q : Int × Int), (tlT K L cd ar m t).2[j]? = some q → tok (p + j) = L q.2) → Par d 211 [.ref 213, .int a1] s (BNq T (e : Int) (ffs (bdD ar (fun c X j => bdGs mv Bf bn tok c X (p + j)) ((tlT K L cd ar m t).2.map Prod.fst) (tlT K L cd ar m t).2.length)) s) := by
  intro m
  induction m with
  | zero =>
    intro _ d a1 x y t p e s _ _ _ _ _ h
    exact h.1.elim
  | succ m ih =>
    intro hm d a1 x y t p e s hG hT he h8 h1 hR h0 hp hL htok
    cases d with
    | zero => exact Par_0
    | succ d =>
      have hGs := hG
      obtain ⟨⟨g75, gb, gA, gH, gF, gT⟩, gt, -, -, -, -, ha, h24⟩ := hG
      obtain ⟨⟨t1, t2⟩, t3, t4⟩ := tlT_ok h0
      obtain ⟨pK, pu, pn⟩ := pt_u (m := m) (by omega) hp
      obtain ⟨n, hn⟩ : ∃ n, n = ntc K L t := ⟨_, rfl⟩
      obtain ⟨c, hc⟩ : ∃ c, c = cd t := ⟨_, rfl⟩
      obtain ⟨Zp, hZp⟩ : ∃ Zp : Nat → List (Int × Int), Zp = fun i => (tlT K L cd ar m (uS (nxT K L) (t + 2) i)).2 := ⟨_, rfl⟩
      obtain ⟨Z, hZ⟩ : ∃ Z : List (List Int), Z = (List.range n).map (fun i => (Zp i).map Prod.fst) := ⟨_, rfl⟩
      obtain ⟨z, c226, c224, cz⟩ := yRw_ch hR (fun q => (pu q).1.1)
      rw [← hn, ← hc] at t2
      rw [← hc] at t1
      rw [← hn] at t3 c226 c224 cz
      rw [← hn, ← hc] at t4
      have e4 : (tlT K L cd ar (m + 1) t).2 = (c, t) :: ((List.range n).map Zp).flatten := by rw [t4, hZp]
      have hZl : Z.length = n := by rw [hZ, List.length_map, List.length_range]
      have hZat : ∀ i, i < n → Z[i]? = some ((Zp i).map Prod.fst) := fun i hi => by rw [hZ, List.getElem?_map, List.getElem?_range hi]; rfl
      have hpt : ∀ i, i < n → (p_t K L m false (0, uS (nxT K L) (t + 2) i)).1 = 0 := fun i hi => by
        have hK : K (t + 1) = 91 := by
          by_cases q : K (t + 1) = 91
          · exact q
          · have : ntc K L t = 0 := if_neg q
            omega
        have en : ntc K L t = NT K L (t + 1) := if_pos hK
        exact (pu hK).2.1 i (by omega)
      have hcP : ∀ (i : Nat), i < n → ∀ q ∈ Zp i, cdP nT nX nY q.1 := fun i hi q hq => by
        rw [hZp] at hq
        exact tlT_P hcd m _ (t3 i hi) q hq
      have hcPc : cdP nT nX nY c := by rw [hc]; exact hcd t (by rw [← hc]; exact t1)
      have hZR : ∀ i, i < n → (isR ar 1 ((Zp i).map Prod.fst) ∧ ∀ q ∈ (Zp i).map Prod.fst, 0 ≤ q ∧ q < 36) ∧ ((Zp i).map Prod.fst).length ≤ 60 := fun i hi => by
        rw [hZp, List.length_map]
        exact tlT_R (fun t => by
          rcases Int.lt_or_le (cd t) 0 with q | q
          · omega
          · exact (hcd t q).2.1) (fun c => (ha c).1) m _ (by omega) (hpt i hi) (t3 i hi)
      have hZm : ∀ x ∈ Z, ∃ i, i < n ∧ x = (Zp i).map Prod.fst := fun x hx => by
        rw [hZ] at hx
        obtain ⟨i, hi, rfl⟩ := List.mem_map.mp hx
        exact ⟨i, List.mem_range.mp hi, rfl⟩
      have hZ1 : ∀ x ∈ Z, isR ar 1 x := fun x hx => by
        obtain ⟨i, hi, rfl⟩ := hZm x hx
        exact (hZR i hi).1.1
      have mapP : ∀ {l : List (Int × Int)}, (∀ q ∈ l, cdP nT nX nY q.1) → cdW nX nY (l.map Prod.fst) ∧ cdT nT (l.map Prod.fst) := fun {l} hl => by
        refine ⟨fun v hv => ?_, fun v hv => ?_⟩
        · obtain ⟨q, hq, rfl⟩ := List.mem_map.mp hv
          obtain ⟨k1, k2, k3, k4, k5⟩ := hl q hq
          exact ⟨k1, k2, k3, k4⟩
        · obtain ⟨q, hq, rfl⟩ := List.mem_map.mp hv
          exact (hl q hq).2.2.2.2
      have hZc : ∀ x ∈ Z, cdW nX nY x ∧ cdT nT x := fun x hx => by
        obtain ⟨i, hi, rfl⟩ := hZm x hx
        exact mapP (hcP i hi)
      have hac := ha c
      have h6c := ar_6 hGs t1 hcPc.2.2.2.2
      have hcZ : ar c = (Z.length : Int) := by rw [hZl]; exact t2.symm
      have eFl : (((List.range n).map Zp).flatten).map Prod.fst = Z.flatten := by
        rw [List.map_flatten, List.map_map, hZ]
        rfl
      have eW : (tlT K L cd ar (m + 1) t).2.map Prod.fst = c :: Z.flatten := by
        rw [e4, List.map_cons, eFl]
      have eWl : (tlT K L cd ar (m + 1) t).2.length = Z.flatten.length + 1 := by
        rw [← List.length_map (f := Prod.fst), eW]
        rfl
      have RR := isR_cfl hcZ hZ1
      have hW60 : (c :: Z.flatten).length ≤ 60 := by
        rw [← eW, List.length_map]
        exact (tlT_R (fun t => by
          rcases Int.lt_or_le (cd t) 0 with q | q
          · omega
          · exact (hcd t q).2.1) (fun c => (ha c).1) (m + 1) t (by omega) hp h0).2
      have hWc : cdW nX nY (c :: Z.flatten) ∧ cdT nT (c :: Z.flatten) := by
        rw [← eW]
        exact mapP (fun q hq => tlT_P hcd (m + 1) t h0 q hq)
      -- tokens
      have hoff : ∀ i, i < n → ∀ (j : Nat) (q : Int × Int), (Zp i)[j]? = some q → (tlT K L cd ar (m + 1) t).2[1 + (Z.take i).flatten.length + j]? = some q := fun i hi j q hq => by
        have el : (Z.take i).flatten.length = (((List.range n).map Zp).take i).flatten.length := by
          rw [hZ, ← List.map_take, ← List.map_take, ← List.length_map (f := Prod.fst), List.map_flatten, List.map_map]
          rfl
        have ez : ((List.range n).map Zp)[i]? = some (Zp i) := by rw [List.getElem?_map, List.getElem?_range hi]; rfl
        have es : (List.range n).map Zp = ((List.range n).map Zp).take i ++ (Zp i :: ((List.range n).map Zp).drop (i + 1)) := by
          rw [← drop_at ez, List.take_append_drop]
        rw [e4, show 1 + (Z.take i).flatten.length + j = ((Z.take i).flatten.length + j) + 1 by omega, List.getElem?_cons_succ, es, List.flatten_append, el, app_at rfl, List.flatten_cons, List.getElem?_append_left (List.getElem?_eq_some_iff.mp hq).1]
        exact hq
      have hZp0 : ∀ i, i < n → (Zp i)[0]? = some (cd (uS (nxT K L) (t + 2) i), uS (nxT K L) (t + 2) i) := fun i hi => by
        cases m with
        | zero => exact absurd (cz i hi).1.1 id
        | succ m =>
          obtain ⟨-, -, q⟩ := tlT_ok (t3 i hi)
          rw [hZp]
          show (tlT K L cd ar (m + 1) (uS (nxT K L) (t + 2) i)).2[0]? = _
          rw [q]
          rfl
      -- the faults
      obtain ⟨G1, hG1⟩ : ∃ G1 : Int → List (List Int) → Nat → List Int, G1 = fun c X j => bdGs mv Bf bn tok c X (p + 1 + j) := ⟨_, rfl⟩
      have hfin : bdD ar (fun c X j => bdGs mv Bf bn tok c X (p + j)) ((tlT K L cd ar (m + 1) t).2.map Prod.fst) (tlT K L cd ar (m + 1) t).2.length = bdD ar G1 Z.flatten Z.flatten.length ++ (if 0 < ar c then bdGs mv Bf bn tok c Z p else []) := by
        have es : (fun c X j => bdGs mv Bf bn tok c X (p + (j + 1))) = G1 := by
          rw [hG1]
          funext c X j
          rw [show p + (j + 1) = p + 1 + j by omega]
        rw [eW, eWl, bdD_cons RR, argT_fl hcZ hZ1]
        show bdD ar (fun c X j => bdGs mv Bf bn tok c X (p + (j + 1))) Z.flatten Z.flatten.length ++ (if 0 < ar c then bdGs mv Bf bn tok c Z (p + 0) else []) = _
        rw [es, Nat.add_zero]
      rw [hfin, ffs_app]
      have nn1 : ∀ k : Nat, 0 ≤ ffs (bdD ar G1 (Z.take k).flatten (Z.take k).flatten.length) := fun k => ffs_nn _ (bdD_nn (fun c X j => by rw [hG1]; exact bdGs_nn htk hmv c X (p + 1 + j)) _)
      have hmore : ∀ k : Nat, k ≤ n → ¬ ffs (bdD ar G1 (Z.take k).flatten (Z.take k).flatten.length) = 0 → ffs (bdD ar G1 Z.flatten Z.flatten.length) = ffs (bdD ar G1 (Z.take k).flatten (Z.take k).flatten.length) := by
        intro k hk hne
        have key : ∀ i : Nat, k + i ≤ n → ffs (bdD ar G1 (Z.take (k + i)).flatten (Z.take (k + i)).flatten.length) = ffs (bdD ar G1 (Z.take k).flatten (Z.take k).flatten.length) := by
          intro i
          induction i with
          | zero => exact fun _ => rfl
          | succ i ih2 =>
            intro hi
            have e5 := bdD_fs (G := G1) (fun c => (ha c).1) hZ1 (hZat (k + i) (by omega))
            rw [show k + (i + 1) = k + i + 1 by omega, e5, ffs_app, ih2 (by omega), if_neg hne]
        have := key (n - k) (by omega)
        rw [show k + (n - k) = Z.length by omega, List.take_length] at this
        exact this
      have hx := yRw_x hR
      refine pb_211 ?_
      unfold ub_211_0
      rw [h1]
      intro ka
      -- behind the inner TYPES
      have f19 : ∀ (b2 : Int32) (u : yS), WFr T (e : Int) s u → u.1 64 = s.1 64 → (u.1 70).toInt = (e : Int) → (u.1 8).toInt = ffs (bdD ar G1 Z.flatten Z.flatten.length) → ub_211_19 (Par d) a1 b2 u (BNq T (e : Int) (if ffs (bdD ar G1 Z.flatten Z.flatten.length) = 0 then ffs (if 0 < ar c then bdGs mv Bf bn tok c Z p else []) else ffs (bdD ar G1 Z.flatten Z.flatten.length)) s) := by
        intro b2 u u1 u2 u3 u8
        have r : ∀ q, q < 264 → u.2.1 q = s.2.1 q := fun q hq => funext fun j => u1.2.2.1 q j (Or.inl hq)
        have nnF : 0 ≤ ffs (bdD ar G1 Z.flatten Z.flatten.length) := by
          have := nn1 n
          rw [← hZl, List.take_length] at this
          exact this
        unfold ub_211_19
        rw [h1]
        refine ⟨fun w => ⟨rfl, u1, ⟨u2, u3⟩, by rw [if_neg (by omega)]; exact u8⟩, fun w _ => ⟨fun w2 => ?_, fun w2 => ⟨rfl, u1, ⟨u2, u3⟩, ?_⟩⟩⟩
        · have F0 : ffs (bdD ar G1 Z.flatten Z.flatten.length) = 0 := by omega
          have u80 : (u.1 8).toInt = 0 := by omega
          rw [r 226 (by decide), c226] at w2
          have hn0 : 0 < n := by omega
          have hc24 : c < 24 := by
            rcases Int.lt_or_le c 24 with q | q
            · exact q
            · have := h24 c q
              omega
          have hcT := hcPc.2.2.2.2 hc24
          rw [if_pos F0, if_pos (show 0 < ar c by omega)]
          obtain ⟨-, -, b3, b4, b5⟩ := gt c t1 hcT
          have eD : wdT K L cd ar β0 β1 (m + 1) t = (c :: Z.flatten).map (rhE ar β0 β1) := by
            show (tlT K L cd ar (m + 1) t).2.map (fun p => rhE ar β0 β1 p.1) = _
            rw [← eW, List.map_map]
            rfl
          obtain ⟨-, x222, x0, x231, x232, xel⟩ := hx
          rw [eD] at x231 xel
          rw [List.length_map] at x231
          have TYs : TYe ar nT β0 β1 nX nY T s (s.2.1 231 x.toNat).toInt (c :: Z.flatten) := ⟨⟨x231.1, by omega⟩, xel, RR, ⟨hW60, hWc.2⟩, hWc.1⟩
          have el : ∀ {u : yS}, WFr T (e : Int) s u → (u.2.1 264 (u.2.1 231 x.toNat).toInt.toNat).toInt / 8 = c := fun {u} hu => by
            rw [hu.2.2.1 231 _ (by decide), RWel_at (y := s.2.1 231 x.toNat) (i := 0) (TYe_w hu TYs).2.1 rfl (by omega) x231.1, rhE_d hac]
            exact if_pos hc24
          have e75 : (u.1 75).toInt = b := by
            rw [u1.1 75 (by decide) (by decide) (by decide) (by decide) (by decide) (by decide) (by decide)]
            exact g75
          rw [e75]
          intro _ x1 hx1 _ kst
          refine Par.imp x_185 ?_
          rintro v3 s2 ⟨hs2, x4, rfl, hx4⟩
          rw [el u1] at hx4
          refine ⟨x4, rfl, fun _ x5 hx5 => ?_⟩
          rw [hs2]
          refine Par.imp (nw_188 u3) ?_
          rintro v7 s6 ⟨x8, rfl, n1, n2, n3, n4, n5, n6, n7⟩
          have W6 : WFr T (e : Int) s s6 := WFr_tr u1 (n4 T) (Int.le_refl _) (Int.le_refl _)
          refine ⟨x8, rfl, fun _ kst2 => ?_⟩
          refine Par.imp x_185 ?_
          rintro v10 s9 ⟨hs9, x11, rfl, hx11⟩
          rw [el W6] at hx11
          refine ⟨x11, rfl, fun _ x12 hx12 _ x13 hx13 _ => ?_⟩
          have e231 : s6.2.1 231 x.toNat = s.2.1 231 x.toNat := W6.2.2.1 _ _ (by decide)
          rw [hs9, e231]
          refine Par.imp (gr_189 ha h6c (TYe_w W6 TYs) n1) ?_
          rintro v15 s14 ⟨rfl, F14, c14, k14, G14⟩
          rw [argT_fl hcZ hZ1] at k14 G14
          have W14 : WFr T (e : Int) s s14 := WFr_tr W6 (WFr_gr F14 (by omega)) (Int.le_refl _) (Int.le_refl _)
          obtain ⟨C1, hC1⟩ : ∃ C1, C1 = (s14.2.1 265 (2 * e + 1)).toInt := ⟨_, rfl⟩
          have EV14 : EVr s14 e T (1000 + 6 * c) (Z.map (List.map (rhE ar β0 β1))) C1 [] := ⟨⟨by rw [c14]; omega, k14, G14⟩, hC1.symm, by rw [F14.2.2 266 _ (fun q => by omega) (fun q => by omega)]; exact n7, fun i Y hi => absurd hi (Nat.not_lt_zero _)⟩
          have f107 : ∀ (d1 d2 d3 d4 d5 : Int32) (v : yS), WFr T (e : Int) s v → v.1 64 = s.1 64 → (v.1 70).toInt = (e : Int) + 1 → (v.1 8).toInt = ffs (bdGs mv Bf bn tok c Z p) → ub_211_107 (Par d) d1 d2 d3 d4 d5 v (BNq T (e : Int) (ffs (bdGs mv Bf bn tok c Z p)) s) := by
            intro d1 d2 d3 d4 d5 v v1 v2 v3 v4
            unfold ub_211_107
            intro _ y1 hy1 s2' hs2'
            refine ⟨rfl, WFr_tr v1 (by rw [hs2']; exact WFr_sf (Or.inr (Or.inr ⟨by decide, by decide⟩))) (Int.le_refl _) (Int.le_refl _), ⟨?_, ?_⟩, ?_⟩
            · rw [hs2', sfr_1, if_neg (by decide)]
              exact v2
            · rw [hs2', sfr_1, if_pos rfl]
              omega
            · rw [hs2', sfr_1, if_neg (by decide)]
              exact v4
          refine ⟨rfl, fun _ => ?_⟩
          have hbl : (bdGs mv Bf bn tok c Z p).length = n := by rw [bdGs_len, hZl]
          refine ⟨fun d1 d2 d3 d4 d5 v => d1 = a1 ∧ d2 = x5 ∧ d3 = x8 ∧ WFr T (e : Int) s v ∧ v.1 64 = s.1 64 ∧ (v.1 70).toInt = (e : Int) + 1 ∧ EVr v e T (1000 + 6 * c) (Z.map (List.map (rhE ar β0 β1))) C1 [] ∧ ∃ k : Nat, k ≤ n ∧ d4.toInt = (k : Int) ∧ d5.toInt = (if k < n then z k else -1) ∧ (v.1 8).toInt = ffs ((bdGs mv Bf bn tok c Z p).take k), ⟨rfl, rfl, rfl, W14, ?_, ?_, EV14, 0, Nat.zero_le _, by decide, ?_, ?_⟩, ?_⟩
          · rw [F14.1, n3 64 (by decide)]
            exact u2
          · rw [F14.1]
            exact n2
          · rw [W14.2.2.1 _ _ (by decide)]
            exact c224
          · rw [F14.1, n3 8 (by decide), u80, List.take_zero]
            rfl
          rintro d1 d2 d3 d4 d5 v ⟨r1, r2, r3, v1, v2, v3, v4, k, k1, k2, k3, k4⟩
          subst r1 r2 r3
          unfold ub_211_72
          refine ⟨fun w => f107 _ _ _ _ _ v v1 v2 v3 ?_, fun w => ⟨fun w3 => f107 _ _ _ _ _ v v1 v2 v3 ?_, fun w3 _ _ _ y1 hy1 _ y2 hy2 _ _ => ?_⟩⟩
          · have ek : k = n := by
              by_cases q : k < n
              · rw [if_pos q] at k3
                have := (cz k q).2.1.1
                omega
              · omega
            rw [k4, ek, List.take_of_length_le (by omega)]
          · rw [k4] at w3
            rw [k4, ffs_take w3]
          · have hk : k < n := by
              by_cases q : k < n
              · exact q
              · rw [if_neg q] at k3
                omega
            rw [if_pos hk] at k3
            obtain ⟨q1, q2, q3⟩ := cz k hk
            obtain ⟨-, z222, z0, z231, z232, zel⟩ := yRw_xm q1
            have ew : wdT K L cd ar β0 β1 m (uS (nxT K L) (t + 2) k) = ((Zp k).map Prod.fst).map (rhE ar β0 β1) := by
              rw [hZp, List.map_map]
              rfl
            rw [ew] at z231 z232 zel
            rw [List.length_map] at z231 z232
            obtain ⟨⟨m1, m2⟩, m3⟩ := hZR k hk
            obtain ⟨m4, m5⟩ := mapP (hcP k hk)
            obtain ⟨ca, A', eA⟩ : ∃ ca A', (Zp k).map Prod.fst = ca :: A' := by
              cases hh : (Zp k).map Prod.fst with
              | nil => exact absurd hh (isR_ne m1)
              | cons q l => exact ⟨q, l, rfl⟩
            have eZk : Z.getD k [] = ca :: A' := by
              rw [List.getD_eq_getElem?_getD, hZat k hk, ← eA]
              rfl
            rw [eA] at z231 z232 zel m1 m3 m4 m5
            have TYk : TYe ar nT β0 β1 nX nY T s (s.2.1 231 (z k).toNat).toInt (ca :: A') := ⟨⟨z231.1, by omega⟩, zel, m1, ⟨m3, m5⟩, m4⟩
            have rv : ∀ q, q < 264 → v.2.1 q = s.2.1 q := fun q hq => funext fun j => v1.2.2.1 q j (Or.inl hq)
            have hkB : k < (Bf c).length := by omega
            obtain ⟨o1, o2, o3, o4, o5⟩ := b4 _ (getD_mem hkB)
            have e2 : y2.toInt = 6 * (24 * b + c) + (k : Int) := by omega
            have tk0 := hoff k hk 0 _ (hZp0 k hk)
            rw [k3, e2, rv 231 (by decide), rv 232 (by decide), rv 238 (by decide), rv 222 (by decide)]
            have hX6 : Z.length ≤ 6 := by omega
            refine Par.imp (x_212 (e := e + 1) (e0 := e) (E := ((Bf c).getD k []).map (rhE ar (1000 + 6 * c) 2000)) (η := eta Z []) (Z := (Bf c).getD k []) (L := L) (B := B) (t := uS (nxT K L) (t + 2) k) (k := bdK mv Bf bn c Z k) (PGr_w v1 hA hGs) hSP (by rw [v2]; exact hT) hA (by rw [v3]; omega) w3 (TYe_w v1 TYk) z232 (RSe_w v1 hA (b5 k (by omega))) v4 n1 (bd_put ha ⟨t1, hc24⟩ hX6 (by rw [← hcZ]; exact o1)) o2 o1 o5 (fun c' hc' w4 => ?_) z222 (by rw [rv 216 (by decide)]; exact hL _ (List.mem_of_getElem? tk0)) ?_) ?_
            · have hlt := (o1 c' hc').2.2
              have h30 : c' < 30 := by
                rcases Int.lt_or_le c' 30 with q | q
                · exact q
                · have := hlt.2 q
                  omega
              have hlt2 := hlt.1 w4 h30
              have hix : (c' - 24).toNat < Z.length := by omega
              have ee : eta Z [] (c' - 24).toNat = Z.getD (c' - 24).toNat [] := by
                unfold eta
                rw [if_pos (by omega), if_pos hix]
              rw [ee]
              have hmm := getD_mem hix
              exact ⟨hZ1 _ hmm, (hZc _ hmm).1, (hZc _ hmm).2⟩
            · unfold bdK
              rw [eZk, hmv]
            rintro v5 s3 ⟨rfl, p1, ⟨p2, p3⟩, p4⟩
            refine ⟨rfl, fun _ x9 hx9 _ => ⟨rfl, rfl, rfl, WFr_tr v1 (WFr_mo p1 (Int.le_refl _) (by omega)) (Int.le_refl _) (Int.le_refl _), p2.trans v2, by rw [p3]; omega, EVr_w p1 (by omega) (by rw [List.length_map]; exact hX6) (Nat.zero_le _) v4, k + 1, by omega, by omega, ?_, ?_⟩⟩
            · rw [p1.2.2.1 _ _ (by decide), v1.2.2.1 _ _ (by decide)]
              exact q3
            · rw [k4] at w3
              rw [take_s (bdGs_at (by omega)), ffs_s, if_pos w3, p4]
              have := htok _ _ tk0
              rw [show p + 1 + (Z.take k).flatten.length = p + (1 + (Z.take k).flatten.length + 0) by omega, this]
        · rw [r 226 (by decide), c226] at w2
          rw [if_pos (by omega), if_neg (show ¬ 0 < ar c by omega), u8]
          show ffs (bdD ar G1 Z.flatten Z.flatten.length) = 0
          omega
      refine ⟨fun b1 b2 u => b1 = a1 ∧ WFr T (e : Int) s u ∧ u.1 64 = s.1 64 ∧ (u.1 70).toInt = (e : Int) ∧ ∃ i : Nat, i ≤ n ∧ b2.toInt = (if i < n then z i else -1) ∧ (u.1 8).toInt = ffs (bdD ar G1 (Z.take i).flatten (Z.take i).flatten.length), ⟨rfl, WFr_rf, rfl, he, 0, Nat.zero_le _, c224, by rw [h8]; rfl⟩, ?_⟩
      rintro b1 b2 u ⟨e1, u1, u2, u3, i, i1, i2, i3⟩
      subst e1
      unfold ub_211_5
      refine ⟨fun w => f19 _ u u1 u2 u3 ?_, fun w => ⟨fun w2 => f19 _ u u1 u2 u3 ?_, fun w2 => ?_⟩⟩
      · have ei : i = n := by
          by_cases q : i < n
          · rw [if_pos q] at i2
            have := (cz i q).2.1.1
            omega
          · omega
        rw [ei, ← hZl, List.take_length] at i3
        exact i3
      · rw [i3] at w2
        rw [i3]
        exact (hmore i i1 w2).symm
      · have hi : i < n := by
          by_cases q : i < n
          · exact q
          · rw [if_neg q] at i2
            omega
        rw [if_pos hi] at i2
        obtain ⟨q1, q2, q3⟩ := cz i hi
        have q1' := yRw_w u1 hA _ _ _ _ q1
        have hbd := ih (by omega) d b2 (z i) (z (i + 1)) (uS (nxT K L) (t + 2) i) (p + 1 + (Z.take i).flatten.length) e u (PGr_w u1 hA hGs) (by rw [u2]; exact hT) u3 w2 i2 q1' (t3 i hi) (hpt i hi) (fun q hq => ?_) (fun j q hq => ?_)
        · refine Par.imp hbd ?_
          rintro v s1 ⟨rfl, o1, ⟨o2, o3⟩, o4⟩
          refine ⟨rfl, fun _ => ⟨rfl, WFr_tr u1 o1 (Int.le_refl _) (Int.le_refl _), o2.trans u2, o3, i + 1, by omega, ?_, ?_⟩⟩
          · rw [o1.2.2.1 _ _ (by decide), u1.2.2.1 _ _ (by decide), i2]
            exact q3
          · have e5 := bdD_fs (G := G1) (fun c => (ha c).1) hZ1 (hZat i hi)
            rw [i3] at w2
            rw [e5, ffs_app, if_pos w2, o4, hG1, bd_sh]
            have e6 : (tlT K L cd ar m (uS (nxT K L) (t + 2) i)).2 = Zp i := by rw [hZp]
            rw [e6, List.length_map]
        · rw [u1.2.2.1 _ _ (by decide)]
          obtain ⟨j, hj⟩ := List.getElem?_of_mem hq
          refine hL q ?_
          refine List.mem_of_getElem? (hoff i hi j q ?_)
          rw [hZp]
          exact hj
        · have := htok _ q (hoff i hi j q (by rw [hZp]; exact hq))
          rw [show p + 1 + (Z.take i).flatten.length + j = p + (1 + (Z.take i).flatten.length + j) by omega]
          exact this
end YXB
