theorem isY_nd2 {bt n k h y : Nat} {s t : yS} (hr : ∀ q, q ∉ [231, 232, 264] → t.2.1 q = s.2.1 q) (hY : isY bt n s k h y) : isY bt n t k h y := isY_eq (hr 215 (by decide)) (hr 217 (by decide)) k h y (fun x _ _ => ⟨by rw [hr 221 (by decide)], by rw [hr 222 (by decide)], by rw [hr 224 (by decide)], fun _ => by rw [hr 226 (by decide)], fun _ => by rw [hr 225 (by decide)]⟩) hY
theorem chn_row {s t : yS} (h : t.2.1 225 = s.2.1 225) : ∀ (cs : List Nat) (x : Int), chn s x cs → chn t x cs := fun cs x hc => chn_eq cs x (fun c _ => by rw [h]) hc
section RES
variable {bt n W b n2 N T F H k d : Nat} {own : Nat → Nat × Nat} {V : Nat → Prop}
/-- the loop over the arguments, and the end -/
theorem r102 {s t : yS} {a1 a2 a3 a4 a5 : Int32} {y h S : Nat} {ds : List Nat} (ih : RP bt n W b n2 own N T F H V k d) (hd : 1 ≤ d) (hI : RI bt n W b n2 own N T F H V a2.toInt s) (hh : h ≤ 12006) (h1 : a1.toInt = (y : Int)) (hyh : y < h) (hS : (s.1 65).toInt = (S : Int)) (hS2 : S + (h - y) ≤ 13000) (hf0 : (s.1 8).toInt = 0) (g8 : chn s (s.2.1 224 y).toInt ds) (g9 : ds.Pairwise (· < ·)) (g10 : ∀ c ∈ ds, y < c ∧ ∃ h', h' ≤ h ∧ (∀ c' ∈ ds, c < c' → h' ≤ c') ∧ isY bt n s k h' c) (htk : 4002 * (bt : Int) ≤ (s.2.1 222 y).toInt ∧ (s.2.1 222 y).toInt < 4002 * (bt : Int) + n)
    (hF : RFr y h s t) (hT : TYN t) (h8 : (t.1 8).toInt = 0) (h65 : (t.1 65).toInt = (S : Int) + 1) (h231 : (t.2.1 231 y).toInt = (S : Int)) (hV : V (tyE t S)) (hlen : ds.length = tyE t S % 8) (h5 : a5 = t.2.1 224 y) : wl_204_102 (Tot d) a1 a2 a3 a4 a5 t (fun v s' => v = none ∧ RQ V (k + 1) y h S s s') := by
  have hr0 : ∀ u, RFr y h s u → ∀ q, q ∉ [231, 232, 264] → u.2.1 q = s.2.1 q := fun u hu q hq => RFr_row hu hq
  have e1 : a1.toInt.toNat = y := by omega
  refine ⟨fun z1 z2 z3 z4 z5 u => z1 = a1 ∧ z2 = a2 ∧ RFr y h s u ∧ TYN u ∧ (0 ≤ (u.1 8).toInt ∧ (u.1 8).toInt ≤ 70000) ∧ (u.2.1 231 y).toInt = (S : Int) ∧ tyE u S = tyE t S ∧ ∃ (ls : List (Nat × Nat)) (rest : List Nat) (S' : Nat), ds = ls.map (·.1) ++ rest ∧ chn s z5.toInt rest ∧ (u.1 65).toInt = (S' : Int) ∧ S + 1 ≤ S' ∧ S' ≤ S + (h - y) ∧ (∀ c ∈ rest, S' + y ≤ S + c) ∧ ((u.1 8).toInt = 0 → rcs (rsv u V k) (S + 1) ls S'), fun _ _ _ _ z5 _ => if z5.toInt < 0 then 0 else (13000 - z5.toInt).toNat + 1, ⟨rfl, rfl, hF, hT, ⟨by omega, by omega⟩, h231, rfl, [], ds, S + 1, rfl, by rw [h5, hr0 t hF 224 (by decide)]; exact g8, by omega, Nat.le_refl _, by omega, fun c hc => by have := (g10 c hc).1; omega, fun _ => rfl⟩, ?_⟩
  rintro z1 z2 z3 z4 z5 u ⟨y1, y2, uF, uT, u8, u31, uS, ls, rest, S', k1, k2, k3, k4, k5, k6, k7⟩
  have y1 := y1.symm
  have y2 := y2.symm
  subst y1 y2
  have ur := hr0 u uF
  have uI := RI_eq hI uF.1 ur uT u8
  -- the end
  have fin : (rest = [] ∨ ¬ (u.1 8).toInt = 0) → w_204_117 (Tot d) a1 a2 z3 z4 z5 u (fun v s' => v = none ∧ RQ V (k + 1) y h S s s') := by
    intro hend
    unfold w_204_117 w_204_141
    rw [e1, u31]
    refine ⟨by omega, by omega, fun x1 hx1 => ⟨by omega, ?_⟩⟩
    rintro s2 rfl
    have c32 : (sa u 232 y x1).2.1 232 y = x1 := by rw [sa_2, if_pos ⟨rfl, rfl⟩]
    have F2 : RFr y h s (sa u 232 y x1) := ⟨uF.1, fun q i w1 w2 => by
      rw [sa_2, if_neg (fun w => w1 ⟨Or.inr w.1, by omega, by omega⟩)]
      exact uF.2.1 q i w1 w2, uF.2.2⟩
    have T2 : TYN (sa u 232 y x1) := fun i => by rw [sa_2, if_neg (fun w => by omega)]; exact uT i
    rw [c32]
    refine ⟨by omega, fun hle => ⟨rfl, F2, T2, u8, S', k3, by omega, k5, fun q => ⟨hf0, ?_⟩⟩, fun hgt => ⟨by omega, ?_⟩⟩
    · have q : (u.1 8).toInt = 0 := q
      have hrest := hend.resolve_right (fun w => w q)
      rw [hrest, List.append_nil] at k1
      have ty2 : tyE (sa u 232 y x1) S = tyE t S := by rw [← uS]; unfold tyE; rw [sa_2, if_neg (fun w => by omega)]
      refine ⟨?_, ?_, by omega, by omega, by rw [ty2]; exact hV, ls, ?_, by rw [ty2, ← hlen, k1, List.length_map], ?_⟩
      · rw [sa_2, if_neg (fun w => by omega)]
        exact u31
      · rw [c32]
        omega
      · rw [← k1]
        have e224 : (sa u 232 y x1).2.1 224 y = s.2.1 224 y := by rw [sa_2, if_neg (fun w => by omega), ur 224 (by decide)]
        rw [e224]
        refine chn_row ?_ ds _ g8
        funext i
        rw [sa_2, if_neg (fun w => by omega), ur 225 (by decide)]
      · rw [show S + (S' - S) = S' by omega]
        refine (rcs_mo (fun c hc p p1 p2 hq => ?_) (by omega) (k7 q)).1
        have hcd : c.1 ∈ ds := by rw [k1]; exact List.mem_map_of_mem hc
        obtain ⟨w1, h', w2, -, w3⟩ := g10 c.1 hcd
        refine rsv_eq (isY_nd2 ur w3) (fun x x1' x2 => ?_) (fun i _ _ => by rw [sa_2, if_neg (fun w => by omega)]) hq
        exact ⟨by rw [sa_2, if_neg (fun w => by omega)], by rw [sa_2, if_neg (fun w => by omega)], by rw [sa_2, if_neg (fun w => by omega)], fun _ => by rw [sa_2, if_neg (fun w => by omega)]⟩
    · have L2 : Lx bt n W (sa u 232 y x1) := Lx_eq uI.1 (by funext i; rw [sa_2, if_neg (fun w => by omega)]) (by funext i; rw [sa_2, if_neg (fun w => by omega)]) (by funext i; rw [sa_2, if_neg (fun w => by omega)])
      have c222 : (sa u 232 y x1).2.1 222 y = s.2.1 222 y := by rw [sa_2, if_neg (fun w => by omega), ur 222 (by decide)]
      rw [c222]
      refine Tot.imp (Tot.mono (by omega) (fo_163 (d := 0) (w := 9) L2 u8 (by decide) (by omega))) ?_
      rintro v s3 ⟨rfl, hFO, hne⟩
      have e2 := FO_2 hFO
      refine ⟨rfl, rfl, ⟨fun k hk => ?_, fun q i w1 w2 => by rw [e2]; exact F2.2.1 q i w1 w2, by rw [e2]; exact F2.2.2⟩, fun i => by rw [e2]; exact T2 i, FO_8 hFO, S', ?_, by omega, k5, fun q => absurd q hne⟩
      · rw [FO_1 hFO (fun w => hk (by rw [w]; decide))]
        exact F2.1 k hk
      · rw [FO_1 hFO (by decide)]
        exact k3
  unfold w_204_102
  refine ⟨fun hneg => fin (Or.inl ?_), fun hpos => ⟨fun hf => fin (Or.inr hf), fun hf => ?_⟩⟩
  · cases rest with
    | nil => rfl
    | cons c cs =>
      have : z5.toInt = (c : Int) := k2.1
      omega
  · cases rest with
    | nil =>
      have : z5.toInt = -1 := k2
      omega
    | cons c cs =>
      obtain ⟨j1, j2⟩ := k2
      have hcd : c ∈ ds := by rw [k1]; exact List.mem_append_right _ List.mem_cons_self
      obtain ⟨w1, h', w2, w3, w4⟩ := g10 c hcd
      have hlt := isY_lt w4
      have hc6 := k6 c List.mem_cons_self
      refine Tot.imp (ih u z5 a2 c h' S' uI (isY_nd2 ur w4) (by omega) j1 k3 (by omega)) ?_
      rintro v u2 ⟨rfl, q1, q2, q3, S2, q4, q5, q6, q7⟩
      have ec : z5.toInt.toNat = c := by omega
      have F3 : RFr y h s u2 := ⟨fun k hk => by rw [q1.1 k hk]; exact uF.1 k hk, fun q i w1' w2' => by
        rw [q1.2.1 q i (fun w => w1' ⟨w.1, by omega, by omega⟩) (fun w => w2' ⟨w.1, by omega, by omega⟩)]
        exact uF.2.1 q i w1' w2', by rw [q1.2.2]; exact uF.2.2⟩
      have u2r := hr0 u2 F3
      rw [ec]
      refine ⟨rfl, by omega, ⟨rfl, rfl, F3, q2, q3, ?_, ?_, ls ++ [(c, S2 - S')], cs, S2, ?_, ?_, q4, by omega, by omega, fun c' hc' => ?_, fun hq => ?_⟩, ?_⟩
      · rw [q1.2.1 231 y (fun w => by omega) (fun w => by omega)]
        exact u31
      · rw [← uS]
        unfold tyE
        rw [q1.2.1 264 S (fun w => by omega) (fun w => by omega)]
      · rw [k1, List.map_append, List.append_assoc]
        rfl
      · rw [u2r 225 (by decide)]
        exact j2
      · have hlt2 : c < c' := by
          rw [k1] at g9
          have := (List.pairwise_append.mp g9).2.1
          exact (List.pairwise_cons.mp this).1 c' hc'
        have := w3 c' (by rw [k1]; exact List.mem_append_right _ (List.mem_cons_of_mem _ hc')) hlt2
        omega
      · obtain ⟨m1, m2⟩ := q7 hq
        refine rcs_app (m := S') ((rcs_mo (fun c0 hc0 p p1 p2 hq0 => ?_) (by omega) (k7 m1)).1) ⟨m2, by show S' + (S2 - S') = S2; omega⟩
        have hcd0 : c0.1 ∈ ds := by rw [k1]; exact List.mem_append_left _ (List.mem_map_of_mem hc0)
        obtain ⟨v1, h0, v2, v3, v4⟩ := g10 c0.1 hcd0
        have hlt0 : c0.1 < c := by
          rw [k1] at g9
          exact (List.pairwise_append.mp g9).2.2 c0.1 (List.mem_map_of_mem hc0) c List.mem_cons_self
        have h0c := v3 c hcd hlt0
        refine rsv_eq (isY_nd2 ur v4) (fun x x1' x2 => ?_) (fun i i1 i2 => q1.2.1 264 i (fun w => by omega) (fun w => by omega)) hq0
        exact ⟨q1.2.1 231 x (fun w => by omega) (fun w => by omega), q1.2.1 232 x (fun w => by omega) (fun w => by omega), by rw [u2r 224 (by decide), ur 224 (by decide)], fun _ => by rw [u2r 225 (by decide), ur 225 (by decide)]⟩
      · show (if (u2.2.1 225 c).toInt < 0 then 0 else (13000 - (u2.2.1 225 c).toInt).toNat + 1) < (if z5.toInt < 0 then 0 else (13000 - z5.toInt).toNat + 1)
        rw [u2r 225 (by decide), if_neg hpos]
        cases cs with
        | nil =>
          have : (s.2.1 225 c).toInt = -1 := j2
          rw [if_pos (by omega)]
          omega
        | cons c' cs' =>
          have hc' : (s.2.1 225 c).toInt = (c' : Int) := j2.1
          have hlt2 : c < c' := by
            rw [k1] at g9
            have := (List.pairwise_append.mp g9).2.1
            exact (List.pairwise_cons.mp this).1 c' List.mem_cons_self
          obtain ⟨-, h2, v2, -, v4⟩ := g10 c' (by rw [k1]; exact List.mem_append_right _ (List.mem_cons_of_mem _ List.mem_cons_self))
          have := isY_lt v4
          rw [if_neg (by omega)]
          omega
/-- one node; the arguments by ih -/
theorem s_204s (hd : 2 ≤ d) (ih : RP bt n W b n2 own N T F H V k d) : RP bt n W b n2 own N T F H V (k + 1) (d + 1) := by
  intro s a1 a2 y h S hI hY hh h1 hS hS2
  obtain ⟨hL, hST, hPL, h75, hT, h8, hV, hask⟩ := id hI
  obtain ⟨g1, g0, g2, g3, g4, g5, ds, g6, g7, g8, g9, g10⟩ := id hY
  have hbt := hL.1
  have hn := hL.2.1
  have e1 : a1.toInt.toNat = y := by omega
  have same : RQ V (k + 1) y h S s s → True := fun _ => trivial
  refine t_204 ?_
  unfold w_204_0
  rw [e1]
  refine ⟨fun hf => ?_, fun hf => ⟨rfl, ⟨fun _ _ => rfl, fun _ _ _ _ => rfl, rfl⟩, hT, h8, S, hS, Nat.le_refl _, by omega, fun q => absurd q (by omega)⟩⟩
  have f0 : (s.1 8).toInt = 0 := by omega
  -- behind a fault
  have bad : ∀ t, FO s t → ¬ (t.1 8).toInt = 0 → ∀ (a3 a4 : Int32), w_204_68 (Tot d) a1 a2 a3 a4 t (fun v s' => v = none ∧ RQ V (k + 1) y h S s s') := by
    intro t hF hne a3 a4
    have e2 := FO_2 hF
    have h8' := FO_8 hF
    unfold w_204_68
    refine ⟨fun q => absurd q (by omega), fun _ => ⟨rfl, ⟨fun k hk => FO_1 hF (fun w => hk (by rw [w]; decide)), fun q i _ _ => by rw [e2], by rw [e2]⟩, fun i => by rw [e2]; exact hT i, h8', S, by rw [FO_1 hF (by decide)]; exact hS, Nat.le_refl _, by omega, fun q => absurd q hne⟩⟩
  have wr : ∀ wh : Int32, 1 ≤ wh.toInt ∧ wh.toInt ≤ 15 → ∀ (a3 a4 : Int32), Tot d 163 [.ref 213, .int wh, .int (s.2.1 222 y)] s (fun v4 s3 => v4 = none ∧ (w_204_68 (Tot d) a1 a2 a3 a4 s3 (fun v s' => v = none ∧ RQ V (k + 1) y h S s s'))) := by
    intro wh hw a3 a4
    refine Tot.imp (Tot.mono (by omega) (fo_163 (d := 0) (w := wh) hL h8 hw (by omega))) ?_
    rintro v t ⟨rfl, hF, hne⟩
    exact ⟨rfl, bad t hF hne a3 a4⟩
  have go68 : ∀ (a3 a4 : Int32) (c : Nat), a4.toInt = (c : Int) → scp b T F H s c → (ds.length : Int) = (if c < 1000 then nT s 236 (24 * b + c) else 0 : Nat) → c ≤ 4400 → w_204_68 (Tot d) a1 a2 a3 a4 s (fun v s' => v = none ∧ RQ V (k + 1) y h S s s') := by
    intro a3 a4 c h4 hc hlen hcb
    unfold w_204_68
    rw [e1]
    refine ⟨fun _ => ⟨by omega, ?_⟩, fun q => absurd (by omega) q⟩
    rintro s1 rfl
    have c26 : (sa s 231 y (s.1 65)).2.1 226 y = s.2.1 226 y := by rw [sa_2, if_neg (fun w => by omega)]
    rw [c26]
    refine ⟨by omega, fun x2 hx2 => ⟨by omega, by omega, fun x3 hx3 => ?_⟩⟩
    have p65 : (sa s 231 y (s.1 65)).1 65 = s.1 65 := rfl
    rw [p65]
    have e65 : (s.1 65).toInt.toNat = S := by omega
    rw [e65]
    refine ⟨by omega, ?_⟩
    rintro s4 rfl
    have p65' : (sa (sa s 231 y (s.1 65)) 264 S x3).1 65 = s.1 65 := rfl
    rw [p65']
    refine ⟨by omega, ?_⟩
    rintro x5 hx5 s6 rfl
    have hx3' : x3.toInt = 8 * (c : Int) + ds.length := by omega
    have tyS' : tyE (sf (sa (sa s 231 y (s.1 65)) 264 S x3) 65 x5) S = 8 * c + ds.length := by
      unfold tyE
      show ((sa (sa s 231 y (s.1 65)) 264 S x3).2.1 264 S).toInt.toNat = _
      rw [sa_2, if_pos ⟨rfl, rfl⟩]
      omega
    refine ⟨by omega, r102 (ds := ds) ih (by omega) hI hh h1 g1 hS hS2 f0 g8 g9 g10 ⟨g2, g3⟩ ⟨fun k hk => ?_, fun q i w1 w2 => ?_, rfl⟩ (fun i => ?_) f0 (by show x5.toInt = _; omega) ?_ ?_ ?_ rfl⟩
    · rw [sf_1, if_neg (fun w => hk (by rw [w]; decide))]
      rfl
    · show (sa (sa s 231 y (s.1 65)) 264 S x3).2.1 q i = _
      rw [sa_2, if_neg (fun w => w2 ⟨w.1, by clear hask; omega, by clear hask; omega⟩), sa_2, if_neg (fun w => w1 ⟨Or.inl w.1, by omega, by omega⟩)]
    · show 0 ≤ ((sa (sa s 231 y (s.1 65)) 264 S x3).2.1 264 i).toInt ∧ ((sa (sa s 231 y (s.1 65)) 264 S x3).2.1 264 i).toInt ≤ 50000
      rw [sa_2]
      split
      · omega
      · rw [sa_2, if_neg (fun w => by omega)]
        exact hT i
    · show ((sa (sa s 231 y (s.1 65)) 264 S x3).2.1 231 y).toInt = _
      rw [sa_2, if_neg (fun w => by omega), sa_2, if_pos ⟨rfl, rfl⟩]
      exact hS
    · rw [tyS']
      have := hV c hc
      rw [show ds.length = (if c < 1000 then nT s 236 (24 * b + c) else 0) by omega]
      exact this
    · rw [tyS']
      omega
  have go31 : ∀ (a3 t0 : Int32), (t0.toInt = -1 ∨ ∃ c : Nat, t0.toInt = (c : Int) ∧ scp b T F H s c) → w_204_31 (Tot d) a1 a2 a3 t0 s (fun v s' => v = none ∧ RQ V (k + 1) y h S s s') := by
    intro a3 t0 h0
    unfold w_204_31
    rw [e1]
    refine ⟨fun hpos => ?_, fun hneg => ⟨by omega, wr 2 (by decide) a3 t0⟩⟩
    obtain ⟨c, hc1, hc2⟩ := h0.resolve_left (fun w => by omega)
    clear h0
    obtain ⟨hb, hn2, hT24, hF60, hH, -, -, hA⟩ := id hST
    have hcb : c ≤ 4400 ∧ (c < 1000 → c < T) := by
      rcases hc2 with w | ⟨h', k', w1, w2, w3, w4⟩ | ⟨d', k', w1, w2, w3, w4⟩ | ⟨f', k', w1, w2, w3, w4⟩
      · omega
      · have := (hA.2.1 h' w1).1.2.2.1
        unfold nT at w3
        omega
      · have := (hA.1 d' w1).2.2.2.2.1
        unfold nT at w3
        omega
      · have := (hA.2.2.1 f' w1).1.2.2.2.1
        unfold nT at w3
        omega
    refine ⟨by omega, fun hlt => ⟨by omega, fun x1 hx1 => ⟨by omega, fun x2 hx2 => ⟨by omega, ?_⟩⟩⟩, fun hge => ?_⟩
    · have ex : x2.toInt.toNat = 24 * b + c := by omega
      rw [ex]
      unfold w_204_60
      rw [e1]
      refine ⟨fun heq => go68 a3 t0 c hc1 hc2 ?_ hcb.1, fun _ => ⟨by omega, wr 4 (by decide) a3 t0⟩⟩
      rw [if_pos (by omega)]
      unfold nT
      omega
    · unfold w_204_60
      rw [e1]
      refine ⟨fun heq => go68 a3 t0 c hc1 hc2 ?_ hcb.1, fun _ => ⟨by omega, wr 4 (by decide) a3 t0⟩⟩
      rw [if_neg (by omega)]
      have : (0 : Int32).toInt = 0 := by decide
      omega
  have go23 : ∀ t0 : Int32, w_204_23 (Tot d) a1 a2 t0 s (fun v s' => v = none ∧ RQ V (k + 1) y h S s s') := by
    intro t0
    unfold w_204_23
    refine ⟨fun _ => ?_, fun _ => go31 t0 (-1) (Or.inl (by decide))⟩
    refine Tot.imp (Tot.mono (by omega) (s_203 (e := 0) hST hPL h75)) ?_
    rintro v s1 ⟨es, x3, rfl, h3⟩
    have es := es.symm
    subst es
    exact ⟨x3, rfl, go31 t0 x3 h3⟩
  refine ⟨fun _ => ⟨by omega, by omega, go23 _⟩, fun ha => ⟨by omega, by omega, ?_⟩⟩
  obtain ⟨nb, W2, w1, w2, w3, w4⟩ := hask ha
  have hword := hL.2.2.2.2.2 ((s.2.1 222 y).toInt.toNat - 4002 * bt) (by omega) (by rw [show 4002 * bt + ((s.2.1 222 y).toInt.toNat - 4002 * bt) = (s.2.1 222 y).toInt.toNat by omega]; exact g4)
  rw [show 4002 * bt + ((s.2.1 222 y).toInt.toNat - 4002 * bt) = (s.2.1 222 y).toInt.toNat by omega] at hword
  have hWW := hL.2.2.1
  refine Tot.imp (Tot.mono (by omega) (s_205 (d := 0) (nb := nb) (W := W2) (w := (s.2.1 217 (s.2.1 222 y).toInt.toNat).toInt.toNat) w1 w2 w3 w4 (by omega) (by omega))) ?_
  rintro v s1 ⟨es, x3, rfl, -⟩
  have es := es.symm
  subst es
  exact ⟨x3, rfl, go23 x3⟩
/-- resolve -/
theorem s_204 (k : Nat) : RP bt n W b n2 own N T F H V k (k + 2) := by
  induction k with
  | zero =>
    intro s a1 a2 y h S _ hY
    exact absurd hY id
  | succ k ih => exact s_204s (by omega) ih
end RES
