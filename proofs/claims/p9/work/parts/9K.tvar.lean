/-! ===== typeVar ===== -/
/-- how many METHOD nodes -/
def cM (s : yS) (lo hi : Nat) : Nat := (List.range' lo (hi - lo)).countP (fun x => (s.2.1 221 x).toInt == 4)
theorem cM_add {s : yS} {lo mid hi : Nat} (h1 : lo ≤ mid) (h2 : mid ≤ hi) : cM s lo mid + cM s mid hi = cM s lo hi := by
  unfold cM
  have e : List.range' lo (hi - lo) = List.range' lo (mid - lo) ++ List.range' mid (hi - mid) := by
    rw [show hi - lo = (mid - lo) + (hi - mid) by omega, ← List.range'_append_1 (s := lo) (m := mid - lo) (n := hi - mid), show lo + (mid - lo) = mid by omega]
  rw [e, List.countP_append]
theorem cM_sub {s : yS} {lo hi lo' hi' : Nat} (h1 : lo ≤ lo') (h2 : lo' ≤ hi') (h3 : hi' ≤ hi) : cM s lo' hi' ≤ cM s lo hi := by
  have a := cM_add (s := s) h1 (Nat.le_trans h2 h3)
  have b := cM_add (s := s) h2 h3
  omega
theorem cM_one {s : yS} {e : Nat} (h : (s.2.1 221 e).toInt = 4) : cM s e (e + 1) = 1 := by
  unfold cM
  rw [show e + 1 - e = 1 by omega]
  simp [List.range'_one, h]
theorem cM_eq {s s' : yS} {lo hi : Nat} (h : s'.2.1 221 = s.2.1 221) : cM s' lo hi = cM s lo hi := by unfold cM; rw [h]
/-- typeE's end; R: what the E is then -/
def TEQ (b lo hi S O P E g : Nat) (R : yS → Nat → Nat → List Nat → Prop) (s s' : yS) : Prop := TFr tK b lo hi S P E O s s' ∧ f8 s s' ∧ ∃ S' O' P' : Nat, (s'.1 64).toInt = (P' : Int) ∧ (s'.1 65).toInt = (S' : Int) ∧ (s'.1 85).toInt = (O' : Int) ∧ S ≤ S' ∧ S' ≤ S + (hi - lo) ∧ O ≤ O' ∧ O' ≤ O + 60 * cM s lo hi ∧ P ≤ P' ∧ P' ≤ P + g ∧ ((s'.1 8).toInt = 0 → ∃ (A : List Nat) (p : Nat), (s'.1 80).toInt = (p : Int) ∧ (s'.1 81).toInt = (A.length : Int) ∧ seg s' p A.length = A ∧ (p + A.length ≤ S' ∨ 100000 ≤ p) ∧ p + A.length ≤ P' ∧ R s' S' O' A)
def OneC (q e : Nat) (s t : yS) : Prop := t.1 = s.1 ∧ (∀ q' i, ¬ (q' = q ∧ i = e) → t.2.1 q' i = s.2.1 q' i) ∧ t.2.2 = s.2.2
theorem OneC_rf {q e : Nat} {s : yS} : OneC q e s s := ⟨rfl, fun _ _ _ => rfl, rfl⟩
theorem OneC_sa {q e : Nat} {s t : yS} {v : Int32} (h : OneC q e s t) : OneC q e s (sa t q e v) := ⟨h.1, fun q' i w => by
  rw [sa_2, if_neg w]
  exact h.2.1 q' i w, h.2.2⟩
theorem OneC_row {q e q' : Nat} {s t : yS} (h : OneC q e s t) (hq : ¬ q' = q) : t.2.1 q' = s.2.1 q' := funext (fun i => h.2.1 q' i (fun w => hq w.1))
theorem flat_1 {g : Nat → Nat} : ∀ {L : List Nat}, (L.map (fun k => [g k])).flatten = L.map g
  | [] => rfl
  | x :: L => by
    show [g x] ++ (L.map (fun k => [g k])).flatten = g x :: L.map g
    rw [flat_1]
    rfl
theorem prm_flat {f m : Nat} : (prm f m).flatten = (List.range m).map (fun p => 8 * (4000 + 6 * f + p)) := flat_1
theorem this_cut {G : PG} {H f : Nat} (hW : WG G H) (hf : f < gF G) : cutT (thisT G f) (8 * gso G f + gpm G f) (prm f (gpm G f)) := by
  obtain ⟨g1, g2, g3, g4⟩ := hW.2.2.2.2.2.2.1 f hf
  have := (hW.2.1 _ g2).1
  refine ⟨by unfold thisT; rw [prm_flat], fun B hB => ?_, by rw [prm_len]; omega⟩
  unfold prm at hB
  obtain ⟨k, -, rfl⟩ := List.mem_map.mp hB
  exact ⟨by decide, by rw [show 1 - 1 + 8 * (4000 + 6 * f + k) % 8 = 0 by omega]; rfl⟩
theorem this_ok {G : PG} {H f : Nat} (hW : WG G H) (hf : f < gF G) : okE G (scHg G (gfh G f)) (thisT G f) ∧ (thisT G f).length ≤ 60 := by
  obtain ⟨g1, g2, g3, g4⟩ := hW.2.2.2.2.2.2.1 f hf
  have h6 := (hW.2.1 _ g2).1
  refine ⟨⟨cutT_F (this_cut hW hf), fun x hx => ?_⟩, ?_⟩
  · unfold thisT at hx
    rcases List.mem_cons.mp hx with w | w
    · rw [w]
      exact Or.inl ⟨by omega, by rw [show (8 * gso G f + gpm G f) / 8 = gso G f by omega]; omega⟩
    · obtain ⟨k, hk, rfl⟩ := List.mem_map.mp w
      have := List.mem_range.mp hk
      exact Or.inr ⟨by omega, by omega, Or.inr (Or.inr ⟨f, hf, rfl, k, this, by omega⟩)⟩
  · unfold thisT
    rw [List.length_cons, List.length_map, List.length_range]
    omega
theorem seg_map {s : yS} {g : Nat → Nat} : ∀ {m p : Nat}, (∀ k, k < m → tyE s (p + k) = g k) → seg s p m = (List.range m).map g := by
  intro m
  induction m with
  | zero => intro p _; rfl
  | succ m ih =>
    intro p h
    rw [seg_add (a := m) (b := 1), ih (fun k hk => h k (by omega)), List.range_succ, List.map_append]
    show _ ++ [tyE s (p + m)] = _ ++ [g m]
    rw [h m (by omega)]
section TV
variable {own : Nat → Nat × Nat} {b n W N T F H S0 : Nat} {G : PG} {S O P E : Nat} {s : yS}
/-- typeOfVar: the receiver, or a variable -/
theorem s_219 {d f k e : Nat} {a1 : Int32} {A : List Nat} (hW : TW own b n W N T F H S0 G (some f) S O P E s) (hP : P ≤ 199000) (h1 : a1.toInt = (e : Int)) (he : e < 12006) (hk : (s.2.1 230 e).toInt = (k : Int)) (hA : tVX G (some f) k = some A) : Tot (d + 2) 219 [.ref 213, .int a1] s (fun v s' => v = none ∧ XF [64, 80, 81] P E s s' ∧ ∃ P' p : Nat, (s'.1 64).toInt = (P' : Int) ∧ P ≤ P' ∧ P' ≤ P + 7 ∧ (s'.1 80).toInt = (p : Int) ∧ (s'.1 81).toInt = (A.length : Int) ∧ seg s' p A.length = A ∧ (p + A.length ≤ S ∨ 100000 ≤ p) ∧ p + A.length ≤ P') := by
  obtain ⟨hb, hn, hT24, hF60, hH, gT', gF', hS8⟩ := TW_num hW
  obtain ⟨c1, c2, c3, c4, c5, c6, c7, c8, c9, c10, c11, c12, c13⟩ := id hW
  obtain ⟨d1, d2, d3, d4, d5, d6, d7, d8, d9, d10⟩ := id c1
  obtain ⟨p1, p2, p3, p4⟩ := c4
  have g := pgA d1
  rw [d8] at g
  obtain ⟨-, -, g3, g4, g5, -, g7⟩ := g
  obtain ⟨q1, q2, q3⟩ := g7 f p2
  obtain ⟨w1, w2, w3, w4⟩ := d9.2.2.2.2.2.2.1 f (by omega)
  have h6 := (d9.2.1 _ w2).1
  have e1 : a1.toInt.toNat = e := by omega
  have e78 : (s.1 78).toInt.toNat = 60 * b + f := by omega
  have r55 := (d1.2.2.2.2.2.2.2.2.2.1 f p2).1.2.2.1
  have r57 := (d1.2.2.2.2.2.2.2.2.2.1 f p2).2.1
  have r61 := d3 f p2
  have n55 : (s.2.1 255 (60 * b + f)).toInt = (gpm G f : Int) := by rw [q3]; unfold nT; omega
  have n61 : (s.2.1 261 (60 * b + f)).toInt = (gso G f : Int) := by rw [q1]; unfold nT; omega
  have n57 : (s.2.1 257 (60 * b + f)).toInt = 204 * (b : Int) + (gfh G f : Int) := by rw [q2]; unfold nT; omega
  have k7 : k ≤ 7 := by
    have hv6 := (d9.2.2.1 _ w1).2
    by_cases w : k = 0
    · omega
    · have : tVX G (some f) k = if k = 0 then some (thisT G f) else if k - 1 < gvn G (gfh G f) then some (gvt G (gfh G f) (k - 1)) else none := rfl
      rw [this, if_neg w] at hA
      split at hA
      · omega
      · cases hA
  refine t_219 ?_
  unfold w_219_0
  rw [e1, e78]
  refine ⟨by omega, fun hle => ⟨by omega, by omega, fun x1 hx1 => ?_⟩, fun hgt => ⟨by omega, by omega, fun x9 hx9 => ⟨by omega, fun x10 hx10 => ⟨by omega, fun x11 hx11 => ?_⟩⟩⟩⟩
  · have k0 : k = 0 := by omega
    subst k0
    have hA : thisT G f = A := by
      have : tVX G (some f) 0 = some (thisT G f) := rfl
      rw [this] at hA
      exact Option.some.inj hA
    refine Tot.imp (Tot.mono (by omega) (s_216 (d := 0))) ?_
    rintro v s2 ⟨rfl, rfl⟩
    refine ⟨rfl, ?_⟩
    show (0 ≤ (s.1 78).toInt ∧ (s.1 78).toInt < 120) ∧ _
    have e2 : (sf (sf s 80 (s.1 64)) 81 x1).1 78 = s.1 78 := rfl
    have e3 : (sf (sf s 80 (s.1 64)) 81 x1).1 64 = s.1 64 := rfl
    rw [e2, e3, e78]
    have e4 : (sf (sf s 80 (s.1 64)) 81 x1).2.1 261 (60 * b + f) = s.2.1 261 (60 * b + f) := rfl
    rw [e4]
    refine ⟨by omega, by omega, fun x4 hx4 => ⟨by omega, fun x5 hx5 => ⟨by omega, ?_⟩⟩⟩
    rintro s6 rfl
    have e5 : (sa (sf (sf s 80 (s.1 64)) 81 x1) 264 (s.1 64).toInt.toNat x5).1 64 = s.1 64 := rfl
    rw [e5]
    refine ⟨by omega, ?_⟩
    rintro x7 hx7 s8 rfl
    rw [show (s.1 64).toInt.toNat = P by omega]
    have X0 : XF [64, 80, 81] P E s (sf (sa (sf (sf s 80 (s.1 64)) 81 x1) 264 P x5) 64 x7) := by
      refine ⟨fun k hk => ?_, fun q i w1 _ _ => ?_, rfl, fun i => ?_, fun i => ?_⟩
      · rw [sf_1, if_neg (fun w => hk (by rw [w]; decide))]
        show (sf (sf s 80 (s.1 64)) 81 x1).1 k = _
        rw [sf_1, if_neg (fun w => hk (by rw [w]; decide)), sf_1, if_neg (fun w => hk (by rw [w]; decide))]
      · show (sa (sf (sf s 80 (s.1 64)) 81 x1) 264 P x5).2.1 q i = _
        rw [sa_2, if_neg (fun w => w1 ⟨w.1, by omega⟩)]
        rfl
      · show 0 ≤ ((sa (sf (sf s 80 (s.1 64)) 81 x1) 264 P x5).2.1 264 i).toInt ∧ ((sa (sf (sf s 80 (s.1 64)) 81 x1) 264 P x5).2.1 264 i).toInt ≤ 50000
        rw [sa_2]
        split
        · omega
        · exact d5 i
      · show 0 ≤ ((sa (sf (sf s 80 (s.1 64)) 81 x1) 264 P x5).2.1 265 i).toInt ∧ ((sa (sf (sf s 80 (s.1 64)) 81 x1) 264 P x5).2.1 265 i).toInt ≤ 10000
        rw [sa_2, if_neg (fun w => by omega)]
        exact d6 i
    refine ⟨fun z1 z2 z3 z4 t => z3 = s.2.1 255 (60 * b + f) ∧ XF [64, 80, 81] P E s t ∧ (t.1 80).toInt = (P : Int) ∧ (t.1 81).toInt = (gpm G f : Int) + 1 ∧ ∃ j : Nat, z4.toInt = (j : Int) ∧ j ≤ gpm G f ∧ (t.1 64).toInt = (P : Int) + 1 + j ∧ tyE t P = 8 * gso G f + gpm G f ∧ ∀ i, i < j → tyE t (P + 1 + i) = 8 * (4000 + 6 * f + i), fun _ _ _ z4 _ => (7 - z4.toInt).toNat, ⟨rfl, X0, c5, by show x1.toInt = _; omega, 0, by decide, by omega, by show x7.toInt = _; omega, ?_, fun i hi => by omega⟩, ?_⟩
    · unfold tyE
      show ((sa (sf (sf s 80 (s.1 64)) 81 x1) 264 P x5).2.1 264 P).toInt.toNat = _
      rw [sa_2, if_pos ⟨rfl, rfl⟩]
      omega
    · clear X0
      rintro z1 z2 z3 z4 t ⟨y3, tX, t80, t81, j, j1, j2, j3, j4, j5⟩
      subst y3
      unfold w_219_68
      refine ⟨fun hend => ?_, fun hmore => ?_⟩
      · have ej : j = gpm G f := by omega
        have hlen : A.length = gpm G f + 1 := by
          rw [← hA]
          unfold thisT
          rw [List.length_cons, List.length_map, List.length_range]
        refine ⟨rfl, tX, P + 1 + j, P, by omega, by omega, by omega, t80, by omega, ?_, Or.inr c13, by omega⟩
        rw [hlen, ← hA, Nat.add_comm, seg_add]
        show tyE t P :: ([] ++ seg t (P + 1) (gpm G f)) = _
        rw [List.nil_append, j4, seg_map (g := fun i => 8 * (4000 + 6 * f + i)) (fun i hi => j5 i (by omega))]
        rfl
      · have t75 : (t.1 75).toInt = (b : Int) := by rw [tX.1 75 (by decide)]; exact d7
        have t78 : (t.1 78).toInt = 60 * (b : Int) + f := by rw [tX.1 78 (by decide)]; exact p4
        refine ⟨by omega, fun y1 hy1 => ⟨by omega, fun y2 hy2 => ⟨by omega, fun y3 hy3 => ⟨by omega, fun y4 hy4 => ⟨by omega, fun y5 hy5 => ⟨by omega, fun y6 hy6 => ⟨by omega, ?_⟩⟩⟩⟩⟩⟩⟩
        rintro s7 rfl
        have e6 : (sa t 264 (t.1 64).toInt.toNat y6).1 64 = t.1 64 := rfl
        rw [e6]
        refine ⟨by omega, ?_⟩
        rintro y8 hy8 s9 rfl
        have e64 : (t.1 64).toInt.toNat = P + 1 + j := by omega
        rw [e64]
        have X1 : XF [64, 80, 81] P E s (sf (sa t 264 (P + 1 + j) y6) 64 y8) := by
          refine XF_sf ⟨tX.1, fun q i w1 w2 w3 => ?_, tX.2.2.1, fun i => ?_, fun i => ?_⟩ (by decide)
          · rw [sa_2, if_neg (fun w => w1 ⟨w.1, by omega⟩)]
            exact tX.2.1 q i w1 w2 w3
          · rw [sa_2]
            split
            · omega
            · exact tX.2.2.2.1 i
          · rw [sa_2, if_neg (fun w => by omega)]
            exact tX.2.2.2.2 i
        have tyN : ∀ i, tyE (sf (sa t 264 (P + 1 + j) y6) 64 y8) i = if i = P + 1 + j then y6.toInt.toNat else tyE t i := by
          intro i
          unfold tyE
          show ((sa t 264 (P + 1 + j) y6).2.1 264 i).toInt.toNat = _
          rw [sa_2]
          by_cases w : i = P + 1 + j
          · rw [if_pos ⟨rfl, w⟩, if_pos w]
          · rw [if_neg (fun w' => w w'.2), if_neg w]
        refine ⟨by omega, fun y10 hy10 => ⟨⟨rfl, X1, t80, t81, j + 1, by omega, by omega, by show y8.toInt = _; omega, ?_, fun i hi => ?_⟩, by show (7 - y10.toInt).toNat < (7 - z4.toInt).toNat; omega⟩⟩
        · rw [tyN, if_neg (by omega)]
          exact j4
        · rw [tyN]
          split
          · omega
          · exact j5 i (by omega)
  · obtain ⟨k', rfl⟩ : ∃ k', k = k' + 1 := ⟨k - 1, by omega⟩
    have hA' : k' < gvn G (gfh G f) ∧ gvt G (gfh G f) k' = A := by
      have : tVX G (some f) (k' + 1) = if k' < gvn G (gfh G f) then some (gvt G (gfh G f) k') else none := rfl
      rw [this] at hA
      split at hA
      · rename_i w
        exact ⟨w, Option.some.inj hA⟩
      · cases hA
    have hv : vS b T H s 250 (6 * (204 * b + gfh G f) + k') := Or.inr (Or.inr (Or.inr (Or.inl ⟨gfh G f, k', w1, by rw [← (g4 _ w1).2.1]; exact hA'.1, rfl, rfl⟩)))
    obtain ⟨yy, pp, ll, o1, o2, o3, o4, o5, o6, o7⟩ := d2 _ _ hv
    have hv6 := (d9.2.2.1 _ w1).2
    have et := (g5 (gfh G f) k' w1).2 (by rw [← (g4 _ w1).2.1]; exact hA'.1)
    rw [hA'.2, SY_ty o1 o5] at et
    obtain ⟨m1, m2, m3, m4, m5⟩ := o5
    have hlen : A.length = ll := by rw [et, seg_len]
    have := hA'.1
    rw [show x11.toInt.toNat = 6 * (204 * b + gfh G f) + k' by omega, show (s.2.1 250 (6 * (204 * b + gfh G f) + k')).toInt.toNat = yy by omega]
    refine ⟨by omega, by omega, by omega, ?_⟩
    refine Tot.imp (Tot.mono (by omega) (s_216 (d := 0))) ?_
    rintro v s12 ⟨rfl, rfl⟩
    refine ⟨rfl, rfl, XF_sf (XF_sf (XF_rf d5 d6) (by decide)) (by decide), P, pp, c5, by omega, by omega, m2, by rw [hlen]; exact m3, ?_, Or.inl (by omega), by omega⟩
    rw [hlen, et]
    exact seg_eq (fun _ _ _ => rfl)
theorem s_218 {d e : Nat} {fo : Option Nat} {a1 : Int32} (hW : TW own b n W N T F H S0 G fo S O P E s) (hP : P ≤ 199000) (h1 : a1.toInt = (e : Int)) (he : e < 12006) (hw : (s.2.1 221 e).toInt = 1) (ht : tkN b n s (s.2.1 222 e).toInt) (ho : (own e).1 ∉ slR) : Tot (d + 3) 218 [.ref 213, .int a1] s (fun v s' => v = none ∧ TEQ b e (e + 1) S O P E 130 (fun s' _ _ A => (∃ k : Nat, (s'.2.1 230 e).toInt = (k : Int) ∧ tVX G fo k = some A) ∧ okE G (scX G fo) A ∧ A.length ≤ 60) s s') := by
  obtain ⟨hb, hn, hT24, hF60, hH, gT', gF', hS8⟩ := TW_num hW
  obtain ⟨c1, c2, c3, c4, c5, c6, c7, c8, c9, c10, c11, c12, c13⟩ := id hW
  obtain ⟨d1, d2, d3, d4, d5, d6, d7, d8, d9, d10⟩ := id c1
  have e1 : a1.toInt.toNat = e := by omega
  obtain ⟨t1, t2, -⟩ := ht
  have tf : ∀ t, OneC 230 e s t → TFr tK b e (e + 1) S P E O s t := fun t h => ⟨fun k _ => by rw [h.1], fun q i w1 _ _ _ _ => h.2.1 q i (fun w => w1 ⟨Or.inr (Or.inl ⟨w.1, by rw [w.2]; exact hw⟩), by omega, by omega⟩), h.2.2, fun i => by rw [OneC_row h (by decide)]; exact d5 i, fun i => by rw [OneC_row h (by decide)]; exact d6 i⟩
  -- the number found
  have okN : Int32 → Prop := fun v => v.toInt = -1 ∨ ∃ k A, v.toInt = ((k : Nat) : Int) ∧ tVX G fo k = some A
  have fin : ∀ (a2 a3 : Int32) (t : yS), OneC 230 e s t → ((t.2.1 230 e).toInt = -1 ∨ ∃ (k : Nat) (A : List Nat), (t.2.1 230 e).toInt = (k : Int) ∧ tVX G fo k = some A) → w_218_72 (Tot (d + 2)) a1 a2 a3 t (fun v s' => v = none ∧ TEQ b e (e + 1) S O P E 130 (fun s' _ _ A => (∃ k : Nat, (s'.2.1 230 e).toInt = (k : Int) ∧ tVX G fo k = some A) ∧ okE G (scX G fo) A ∧ A.length ≤ 60) s s') := by
    intro a2 a3 t tC tk
    have tF := tf t tC
    unfold w_218_72
    rw [e1]
    refine ⟨by omega, fun hpos => ?_, fun hneg => ⟨by omega, ?_⟩⟩
    · obtain ⟨k, A, k1, k2⟩ := tk.resolve_left (fun w => by omega)
      clear tk
      cases fo with
      | none => exact absurd k2 (by simp [tVX])
      | some f =>
        have okA : okE G (scX G (some f)) A ∧ A.length ≤ 60 := by
          have hf := c4.2.1
          have w1 := (d9.2.2.2.2.2.2.1 f (by omega)).1
          have : tVX G (some f) k = if k = 0 then some (thisT G f) else if k - 1 < gvn G (gfh G f) then some (gvt G (gfh G f) (k - 1)) else none := rfl
          rw [this] at k2
          split at k2
          · rw [← Option.some.inj k2]
            exact this_ok d9 (by omega)
          · split at k2
            · rename_i w
              rw [← Option.some.inj k2]
              exact (d9.2.2.2.2.2.1 _ w1).2.1 _ w
            · cases k2
        have W1 : TW own b n W N T F H S0 G (some f) S O P E t := TW_fr hW tF (by decide) (fun x _ _ hx => ?_) (by rw [tC.1]; exact c3) (by rw [tC.1]; exact c5) (by rw [tC.1]; exact c6) (by rw [tC.1]; exact c7) (by rw [tC.1]; exact c8) (Nat.le_refl _) c11 (Nat.le_refl _) c13
        · refine Tot.imp (s_219 (d := d) W1 hP h1 he k1 k2) ?_
          rintro v s' ⟨rfl, x1, P', p, k3, k4, k5, k6, k7, k8, k9, k10⟩
          have r30 : s'.2.1 230 = t.2.1 230 := XF_row x1 (by decide)
          have e8 : s'.1 8 = s.1 8 := by rw [x1.1 8 (by decide), tC.1]
          refine ⟨rfl, rfl, TF_tr tF (TF_mo (TF_xf (S := S) (O := O) (b := b) (lo := e) (hi := e + 1) x1) (by decide) (Nat.le_refl _) (Nat.le_refl _) (Nat.le_refl _) (Nat.le_refl _) (Nat.le_refl _) (Nat.le_refl _)) (fun _ w => w) (Nat.le_refl _) (Nat.le_refl _) (Nat.le_refl _) (Nat.le_refl _) (Nat.le_refl _) (Nat.le_refl _), f8_eq c3 e8, S, O, P', k3, by rw [x1.1 65 (by decide), tC.1]; exact c7, by rw [x1.1 85 (by decide), tC.1]; exact c8, Nat.le_refl _, by omega, Nat.le_refl _, by omega, k4, by omega, fun _ => ⟨A, p, k6, k7, k8, k9, k10, ⟨k, by rw [r30]; exact k1, k2⟩, okA⟩⟩
        · exact ho (by rw [show e = x by omega]; exact hx)
    · rw [OneC_row tC (show ¬ 222 = 230 by decide)]
      refine Tot.imp (Tot.mono (by omega) (fo_163 (d := 0) (w := 2) (Lx_eq c2 (OneC_row tC (by decide)) (OneC_row tC (by decide)) (OneC_row tC (by decide))) (by rw [tC.1]; exact c3) (by decide) ⟨t1, by omega⟩)) ?_
      rintro v s' ⟨rfl, hF, hne⟩
      refine ⟨rfl, rfl, TF_fo tF hF (by decide), ⟨FO_8 hF, fun w => absurd w hne⟩, S, O, P, by rw [FO_1 hF (by decide), tC.1]; exact c5, by rw [FO_1 hF (by decide), tC.1]; exact c7, by rw [FO_1 hF (by decide), tC.1]; exact c8, Nat.le_refl _, by omega, Nat.le_refl _, by omega, Nat.le_refl _, by omega, fun w => absurd w hne⟩
  -- the loop over the variables
  have loop : ∀ (a2 : Int32) (t : yS), OneC 230 e s t → ((t.2.1 230 e).toInt = -1 ∨ ∃ (k : Nat) (A : List Nat), (t.2.1 230 e).toInt = (k : Int) ∧ tVX G fo k = some A) → w_218_31 (Tot (d + 2)) a1 a2 t (fun v s' => v = none ∧ TEQ b e (e + 1) S O P E 130 (fun s' _ _ A => (∃ k : Nat, (s'.2.1 230 e).toInt = (k : Int) ∧ tVX G fo k = some A) ∧ okE G (scX G fo) A ∧ A.length ≤ 60) s s') := by
    intro a2 t tC tk
    unfold w_218_31
    refine ⟨fun z1 z2 z3 t => z1 = a1 ∧ 0 ≤ z3.toInt ∧ z3.toInt ≤ 6 ∧ OneC 230 e s t ∧ ((t.2.1 230 e).toInt = -1 ∨ ∃ (k : Nat) (A : List Nat), (t.2.1 230 e).toInt = (k : Int) ∧ tVX G fo k = some A), fun _ _ z3 _ => (7 - z3.toInt).toNat, ⟨rfl, by decide, by decide, tC, tk⟩, ?_⟩
    clear tC tk
    rintro z1 z2 z3 t ⟨y1, y2, y3, tC, tk⟩
    have y1 := y1.symm
    subst y1
    unfold w_218_33
    rw [tC.1]
    refine ⟨fun _ => fin _ _ t tC tk, fun hpos => ?_⟩
    cases fo with
    | none =>
      have := c4.2.2
      omega
    | some f =>
      obtain ⟨p1, p2, p3, p4⟩ := c4
      have g := pgA d1
      rw [d8] at g
      obtain ⟨-, -, g3, g4, g5, -, g7⟩ := g
      obtain ⟨q1, q2, q3⟩ := g7 f p2
      obtain ⟨w1, -⟩ := d9.2.2.2.2.2.2.1 f (by omega)
      have r57 := (d1.2.2.2.2.2.2.2.2.2.1 f p2).2.1
      have n57 : (s.2.1 257 (60 * b + f)).toInt = 204 * (b : Int) + (gfh G f : Int) := by rw [q2]; unfold nT; omega
      obtain ⟨⟨-, -, -, -, u1, u2, u3⟩, -⟩ := d1.2.2.2.2.2.2.2.2.1 (gfh G f) w1
      have n48 : (s.2.1 248 (204 * b + gfh G f)).toInt = (gvn G (gfh G f) : Int) := by rw [(g4 _ w1).2.1]; unfold nT; omega
      rw [show (s.1 78).toInt.toNat = 60 * b + f by omega, OneC_row tC (show ¬ 257 = 230 by decide), show (s.2.1 257 (60 * b + f)).toInt.toNat = 204 * b + gfh G f by omega, OneC_row tC (show ¬ 248 = 230 by decide)]
      refine ⟨by omega, by omega, fun _ => fin _ _ t tC tk, fun hgt => ⟨by omega, by omega, fun x1 hx1 => ⟨by omega, fun x2 hx2 => ⟨by omega, ?_⟩⟩⟩⟩
      rw [show x2.toInt.toNat = 6 * (204 * b + gfh G f) + z3.toInt.toNat by omega, OneC_row tC (show ¬ 249 = 230 by decide), OneC_row tC (show ¬ 217 = 230 by decide)]
      obtain ⟨v1, v2, -⟩ := (u3 z3.toInt.toNat (by omega)).1
      refine ⟨by omega, fun _ => ?_, fun _ => ⟨by omega, fun x3 hx3 => ⟨by omega, ?_⟩⟩⟩
      · unfold w_218_70
        exact ⟨by omega, fun x1 hx1 => ⟨⟨rfl, by omega, by omega, tC, tk⟩, by show (7 - x1.toInt).toNat < (7 - z3.toInt).toNat; omega⟩⟩
      · rintro s4 rfl
        unfold w_218_70
        rw [e1]
        refine ⟨by omega, fun x1 hx1 => ⟨⟨rfl, by omega, by omega, OneC_sa tC, Or.inr ⟨1 + z3.toInt.toNat, gvt G (gfh G f) z3.toInt.toNat, ?_, ?_⟩⟩, by show (7 - x1.toInt).toNat < (7 - z3.toInt).toNat; omega⟩⟩
        · rw [sa_2, if_pos ⟨rfl, rfl⟩]
          omega
        · show (if 1 + z3.toInt.toNat = 0 then _ else if 1 + z3.toInt.toNat - 1 < gvn G (gfh G f) then _ else _) = _
          rw [if_neg (by omega), show 1 + z3.toInt.toNat - 1 = z3.toInt.toNat by omega, if_pos (by omega)]
  refine t_218 ?_
  unfold w_218_0
  rw [e1]
  refine ⟨by omega, by omega, by omega, ?_⟩
  rintro s1 rfl
  have C1 : OneC 230 e s (sa s 230 e (-1)) := OneC_sa OneC_rf
  have k1 : ((sa s 230 e (-1)).2.1 230 e).toInt = -1 := by rw [sa_2, if_pos ⟨rfl, rfl⟩]; decide
  have p78 : (sa s 230 e (-1)).1 78 = s.1 78 := rfl
  rw [p78]
  refine ⟨fun _ => loop _ _ C1 (Or.inl k1), fun hpos => ?_⟩
  cases fo with
  | none =>
    have := c4.2.2
    omega
  | some f =>
    obtain ⟨p1, p2, p3, p4⟩ := c4
    obtain ⟨⟨u1, u2⟩, -⟩ := d1.2.2.2.2.2.2.2.2.2.1 f p2
    obtain ⟨v1, v2, -⟩ := u1
    rw [show (s.1 78).toInt.toNat = 60 * b + f by omega, OneC_row C1 (show ¬ 253 = 230 by decide)]
    refine ⟨by omega, by omega, fun _ => loop _ _ C1 (Or.inl k1), fun _ => ⟨by omega, ?_⟩⟩
    rintro s2 rfl
    refine loop _ _ (OneC_sa C1) (Or.inr ⟨0, thisT G f, ?_, rfl⟩)
    rw [sa_2, if_pos ⟨rfl, rfl⟩]
    decide
end TV
