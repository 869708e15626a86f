/-! ===== typeStruct ===== -/
def wBR (G : PG) (H b n : Nat) (fo : Option Nat) (m hi e : Nat) : yS → Nat → Nat → List Nat → Prop := fun s' S' O' A => wB G b (scX G fo) (tVX G fo) S' s' (wE G H b n (scX G fo) (tVX G fo) S' O' s' m) hi e A ∧ okE G (scX G fo) A ∧ A.length ≤ 60
theorem CA_2 {b n lo hi S O : Nat} {s s' : yS} (h : s'.2 = s.2) : CA b n lo hi S O s s' := by
  unfold CA
  rw [h]
  exact ⟨fun _ _ _ _ _ => rfl, fun _ _ _ => rfl, fun _ _ _ => rfl, fun _ _ _ => rfl⟩
theorem seg_2 {p l : Nat} {s s' : yS} (h : s'.2 = s.2) : seg s' p l = seg s p l := seg_eq (fun _ _ _ => by rw [h])
section TS2
variable {own : Nat → Nat × Nat} {b n W N T F H S0 : Nat} {G : PG} {fo : Option Nat} {m S O P E : Nat} {s : yS}
theorem isY_tf {ks : List Nat} {k lo' hi' h y : Nat} {s s' : yS} (hF : TFr ks b lo' hi' S P E O s s') (hY : isY b n s k h y) : isY b n s' k h y := isY_eq (TF_row hF (by decide)) (TF_row hF (by decide)) k h y (fun x _ _ => ⟨by rw [TF_row hF (by decide)], by rw [TF_row hF (by decide)], by rw [TF_row hF (by decide)], fun h0 => hF.2.1 226 x (fun w => by omega) (fun w => by omega) (fun w => by omega) (fun w => by omega) (fun w => by omega), fun _ => by rw [TF_row hF (by decide)]⟩) hY
/-- behind a fault nothing is asked -/
theorem TEQ_bad {lo hi g S' O' P' : Nat} {R : yS → Nat → Nat → List Nat → Prop} {u : yS} (hF : TFr tK b lo hi S P E O s u) (hf : f8 s u) (hne : ¬ (u.1 8).toInt = 0) (h64 : (u.1 64).toInt = (P' : Int)) (h65 : (u.1 65).toInt = (S' : Int)) (h85 : (u.1 85).toInt = (O' : Int)) (h1 : S ≤ S') (h2 : S' ≤ S + (hi - lo)) (h3 : O ≤ O') (h4 : O' ≤ O + 60 * cM s lo hi) (h5 : P ≤ P') (h6 : P' ≤ P + g) : TEQ b lo hi S O P E g R s u := ⟨hF, hf, S', O', P', h64, h65, h85, h1, h2, h3, h4, h5, h6, fun w => absurd w hne⟩
/-- an env, laid for a TYPE's arguments: where they lie -/
theorem EVl_of {e p l c b1 : Nat} {As : List (List Nat)} {t : yS} (hV : EV t e (p + l) c As b1 []) (hlo : ∀ (a : Nat) (A : List Nat), As[a]? = some A → (p : Int) < (t.2.1 267 (12 * e + a)).toInt) (hp : p + l ≤ S ∨ 100000 ≤ p) : EVl S t e As [] := by
  refine ⟨fun a A hA => ?_, fun a A hA => by simp at hA⟩
  obtain ⟨-, q, w1, -, -, w4⟩ := hV.1.2.2.2 a A hA
  rw [show 6 * (2 * e) + a = 12 * e + a by omega] at w1
  have := hlo a A hA
  omega
theorem st_end {d e hi y h x D S1 b1 : Nat} {As : List (List Nat)} {L : List Nat} {cs : List (Nat × Nat × Nat)} {fT : Nat → List Nat} {t : yS} {k : Nat} {z1 z3 z4 z5 z6 : Int32} {w : yS} (hE9 : E ≤ 289) (hb : b < 2) (hS8 : S1 ≤ 8210) (c10 : 10 + 4100 * b ≤ S) (c13 : 100000 ≤ P) (t3 : N ≤ 12006) (t2 : hi ≤ N) (hey : e < y) (hyh : y < h) (hhi : h ≤ hi) (hw : (s.2.1 221 e).toInt = 2) (hy : (s.2.1 229 e).toInt = (y : Int)) (c6 : (s.1 70).toInt = (E : Int)) (k2 : S ≤ S1) (k3 : S1 ≤ S + (h - y)) (Ft : TFr (70 :: tK) b e hi S P E O s t) (ft : f8 s t) (t70 : (t.1 70).toInt = (E : Int) + 1) (hwT : wT G b (scX G fo) S1 t y L) (t31 : (t.2.1 231 y).toInt = (S : Int)) (t32 : (t.2.1 232 y).toInt = ((S1 - S : Nat) : Int)) (segt : seg t S (S1 - S) = L) (r4 : S1 - S ≤ 60) (kE : okE G (scX G fo) L) (hc : cutT L x As) (hD : D = x / 8) (hxG : x / 8 < gT G) (hst : ¬ gst G D = 0) (hfT : fT = (fun k => subs (envS (1000 + 6 * D) As 0 []) (gft G D k))) (l3 : chn t (t.2.1 224 e).toInt (cs.map (·.2.2))) (ulen : (t.1 8).toInt = 0 → cs.length = gfd G D) (l5 : ∀ c ∈ cs, h ≤ c.1 ∧ c.1 ≤ c.2.2 ∧ c.2.2 < c.2.1 ∧ c.2.1 ≤ hi) (hI : AIv b n H G fo m h hi S1 O P (E + 1) fT cs t k z6.toInt w) (hend : (w.1 8).toInt = 0 → k = cs.length) : w_221_118 (Tot (d + 1)) z1 (s.2.1 229 e) z3 z4 z5 z6 w (fun v s' => v = none ∧ TEQ b e hi S O P E 130 (wBR G H b n fo m hi e) s s') := by
  have ey : (s.2.1 229 e).toInt.toNat = y := by omega
  have ecMt : cM t = cM s := by funext lo hi; exact cM_eq (TF_row Ft (by decide))
  obtain ⟨S', O', pos, F2, f2, m1, m2, m3, m4, m5, m6, m7, m8, m9, m10, m11, m12, m13⟩ := hI
  have w70 : (w.1 70).toInt = (E : Int) + 1 := by rw [F2.1 70 (by decide)]; exact t70
  have Fw : TFr (70 :: tK) b e hi S P E O s w := TF_tr Ft F2 (by decide) (by omega) (Nat.le_refl _) k2 (Nat.le_refl _) (by omega) (Nat.le_refl _)
  have ny : ∀ q, q = 231 ∨ q = 232 → w.2.1 q y = t.2.1 q y := fun q hq => F2.2.1 q y (fun w' => by omega) (fun w' => by omega) (fun w' => by omega) (fun w' => by omega) (fun w' => by omega)
  have w31 : (w.2.1 231 y).toInt = (S : Int) := by rw [ny 231 (Or.inl rfl)]; exact t31
  have w32 : (w.2.1 232 y).toInt = ((S1 - S : Nat) : Int) := by rw [ny 232 (Or.inr rfl)]; exact t32
  unfold w_221_118
  refine ⟨by omega, ?_⟩
  rintro x1' hx1' s2' rfl
  have ex1 : x1' = s.1 70 := Int32.toInt_inj.mp (by omega)
  rw [ex1, ey]
  refine ⟨by omega, by omega, ?_⟩
  refine Tot.imp (Tot.mono (by omega) (s_216 (d := 0))) ?_
  rintro v s4 ⟨rfl, rfl⟩
  have hLl : L.length = S1 - S := by rw [← segt, seg_len]
  have segw : seg w S (S1 - S) = L := by
    rw [TF_seg F2 (Or.inl (by omega)) (by omega) hb]
    exact segt
  have cMm : cM t h pos ≤ cM t e hi := cM_sub (by omega) m8 m9
  rw [ecMt] at cMm m7
  have hwTw : wT G b (scX G fo) S' w y L := wT_eq (n := n) (s := t) (TF_CA F2 (lo0 := e) (hi0 := h) (Or.inl (Nat.le_refl _)) (by omega)) m4 (by omega) hyh hwT
  have w221 : (w.2.1 221 e).toInt = 2 := by rw [TF_row Fw (by decide)]; exact hw
  have w229 : (w.2.1 229 e).toInt = (y : Int) := by rw [TF_row Fw (by decide)]; exact hy
  have wch : chn w (w.2.1 224 e).toInt (cs.map (·.2.2)) := by
    rw [TF_row F2 (show 224 ∉ [226, 230, 231, 232, 264, 265, 266, 267, 268, 270, 271, 272] by decide)]
    exact chn_row (TF_row F2 (by decide)) _ _ l3
  refine ⟨rfl, rfl, TF_sf (TF_sf (TF_back Fw) (by decide)) (by decide), ⟨f2.1, fun q => ft.2 (f2.2 q)⟩, S', O', P, m1, m2, m3, by omega, by omega, m6, by omega, Nat.le_refl _, by omega, fun q => ?_⟩
  have q : (w.1 8).toInt = 0 := q
  have hkl := hend q
  refine ⟨L, S, w31, by rw [hLl]; exact w32, by rw [hLl]; refine Eq.trans (seg_2 (s := w) ?_) segw; rfl, Or.inl (by omega), by omega, ?_, kE, by omega⟩
  have goal : wB G b (scX G fo) (tVX G fo) S' w (wE G H b n (scX G fo) (tVX G fo) S' O' w m) hi e L := by
    refine Or.inr ⟨w221, y, h, w229, hey, hyh, hhi, hwTw, x, As, hc, hxG, by rw [← hD]; exact hst, cs, by rw [← hD]; exact ulen (f2.2 q), wch, fun j c hj => ?_⟩
    have hjl := cs_lt hj
    obtain ⟨p1, p2, p3, p4⟩ := l5 c (List.mem_of_getElem? hj)
    obtain ⟨-, B, n1, n2⟩ := m13 q j c (by omega) hj
    rw [hfT, hD] at n2
    exact ⟨p1, p2, p3, p4, B, n1, n2⟩
  exact wB_eq (n := n) (O := O') (s := w) (CA_2 rfl) (Nat.le_refl _) (by omega) (fun l h e' B _ _ hq => wE_eq (s := w) (Nat.le_refl _) (Nat.le_refl _) (CA_2 rfl) hq) goal
theorem st_loop {d e hi y h x D S1 b1 : Nat} {As : List (List Nat)} {L : List Nat} {cs : List (Nat × Nat × Nat)} {fT : Nat → List Nat} {t : yS} {a1 x5 a4 : Int32} (hE9 : E ≤ 289) (hb : b < 2) (hS8 : S1 ≤ 8210) (c10 : 10 + 4100 * b ≤ S) (c13 : 100000 ≤ P) (t3 : N ≤ 12006) (t2 : hi ≤ N) (hey : e < y) (hyh : y < h) (hhi : h ≤ hi) (hw : (s.2.1 221 e).toInt = 2) (hy : (s.2.1 229 e).toInt = (y : Int)) (c6 : (s.1 70).toInt = (E : Int)) (k2 : S ≤ S1) (k3 : S1 ≤ S + (h - y)) (Ft : TFr (70 :: tK) b e hi S P E O s t) (ft : f8 s t) (t70 : (t.1 70).toInt = (E : Int) + 1) (hwT : wT G b (scX G fo) S1 t y L) (t31 : (t.2.1 231 y).toInt = (S : Int)) (t32 : (t.2.1 232 y).toInt = ((S1 - S : Nat) : Int)) (segt : seg t S (S1 - S) = L) (r4 : S1 - S ≤ 60) (kE : okE G (scX G fo) L) (hc : cutT L x As) (hD : D = x / 8) (hxG : x / 8 < gT G) (hst : ¬ gst G D = 0) (hfT : fT = (fun k => subs (envS (1000 + 6 * D) As 0 []) (gft G D k))) (l3 : chn t (t.2.1 224 e).toInt (cs.map (·.2.2))) (ulen : (t.1 8).toInt = 0 → cs.length = gfd G D) (l5 : ∀ c ∈ cs, h ≤ c.1 ∧ c.1 ≤ c.2.2 ∧ c.2.2 < c.2.1 ∧ c.2.1 ≤ hi) (ih : TEH own b n W N T F H S0 G fo m d) (hd : 17 ≤ d) (Wt : TW own b n W N T F H S0 G fo S1 O P (E + 1) t) (Ac : AIc own b n N m h hi S1 O P (E + 1) cs t) (hxT : D < T) (hT24 : T ≤ 24) (gT' : gT G = T) (hxm : x % 8 = gfm G D) (hx5 : x5.toInt = 24 * (b : Int) + D) (h4 : a4.toInt = (E : Int)) (tV : EV t E S1 (1000 + 6 * D) As b1 []) (tl : EVl S1 t E As []) (kA : ∀ A ∈ As, okE G (scX G fo) A) : wl_221_94 (Tot (d + 1)) a1 (s.2.1 229 e) x5 a4 0 (t.2.1 224 e) t (fun v s' => v = none ∧ TEQ b e hi S O P E 130 (wBR G H b n fo m hi e) s s') := by
  obtain ⟨j1, j2, j3, j4, j5, j6, j7, j8, j9, j10⟩ := id Wt.1
  have gt := pgA j1
  rw [j8] at gt
  obtain ⟨-, -, gt3, -, -, gt6, -⟩ := gt
  have hfdt := (gt3 D hxT).2.2.2.2
  have h6 := (j9.2.1 D (by omega)).2.1
  refine ⟨fun z1 z2 z3 z4 z5 z6 w => z2 = s.2.1 229 e ∧ z3 = x5 ∧ z4.toInt = (E : Int) ∧ ∃ k : Nat, z5.toInt = (k : Int) ∧ AIv b n H G fo m h hi S1 O P (E + 1) fT cs t k z6.toInt w, fun _ _ _ _ z5 _ _ => (7 - z5.toInt).toNat, ⟨rfl, rfl, h4, 0, by decide, AIv_0 Wt Ac l3 hhi⟩, ?_⟩
  rintro z1 z2 z3 z4 z5 z6 w ⟨y2, y3, y4, k, y5, hI⟩
  have y2 := y2.symm
  have y3 := y3.symm
  subst y2 y3
  have fin : ((w.1 8).toInt = 0 → k = cs.length) → w_221_118 (Tot (d + 1)) z1 (s.2.1 229 e) x5 z4 z5 z6 w (fun v s' => v = none ∧ TEQ b e hi S O P E 130 (wBR G H b n fo m hi e) s s') := st_end (b1 := b1) hE9 hb hS8 c10 c13 t3 t2 hey hyh hhi hw hy c6 k2 k3 Ft ft t70 hwT t31 t32 segt r4 kE hc hD hxG hst hfT l3 ulen l5 hI
  unfold w_221_94
  have hkl : k ≤ cs.length ∧ chn t z6.toInt ((cs.drop k).map (·.2.2)) := by
    obtain ⟨S', O', pos, F2, f2, m1, m2, m3, m4, m5, m6, m7, m8, m9, m10, m11, -⟩ := hI
    exact ⟨m10, m11⟩
  refine ⟨fun hneg => fin (fun _ => ?_), fun hpos => ⟨fun hne => fin (fun q => absurd q hne), fun h0 => ?_⟩⟩
  · cases hdr : cs.drop k with
    | nil =>
      have := List.drop_eq_nil_iff.mp hdr
      omega
    | cons c cs' =>
      have h2 := hkl.2
      rw [hdr] at h2
      have : z6.toInt = (c.2.2 : Int) := h2.1
      omega
  · cases hdr : cs.drop k with
    | nil =>
      have h2 := hkl.2
      rw [hdr] at h2
      have : z6.toInt = -1 := h2
      omega
    | cons c cs' =>
      have h2 := hkl.2
      rw [hdr] at h2
      have hz6 : z6.toInt = (c.2.2 : Int) := h2.1
      have hck : cs[k]? = some c := by
        have := congrArg List.head? hdr
        rw [List.head?_drop] at this
        exact this
      have hkl' := cs_lt hck
      obtain ⟨p1, p2, p3, p4⟩ := l5 c (List.mem_of_getElem? hck)
      have hlen : cs.length = gfd G D := by
        obtain ⟨S', O', pos, F2, f2, -⟩ := hI
        exact ulen (f2.2 h0)
      have r41 : w.2.1 241 = t.2.1 241 := by
        obtain ⟨S', O', pos, F2, -⟩ := hI
        exact TF_row F2 (by decide)
      refine ⟨by omega, fun y1 hy1 => ⟨by omega, fun y2 hy2 => ⟨by omega, ?_⟩⟩⟩
      rw [show y2.toInt.toNat = 6 * (24 * b + D) + k by omega, r41]
      have hkf : k < nT t 239 (24 * b + D) := by omega
      have hft := (gt6 D k hxT).2 hkf
      refine Tot.imp (AIv_step (d := d) (q := 241) (i := 6 * (24 * b + D) + k) (ev := E) (b0 := 1000 + 6 * D) (b1 := b1) (As := As) (Bs := []) (sc2 := scDg G D) ih (by omega) Wt Ac hI hck hz6 (Or.inr (Or.inl ⟨D, k, hxT, hkf, rfl, rfl⟩)) rfl (by rw [← hft]; exact (j9.2.2.2.2.1 D (by omega) k (by omega)).1) y4 (by omega) (EV_top tV (by omega)) tl (fun c' hc' => ?_) (by rw [hfT]; show subs (envS (1000 + 6 * D) As 0 []) (gft G D k) = _; rw [hft, envS_b1 (b2 := b1)])) ?_
      · obtain ⟨A, a1'', a2''⟩ := dcl_cov (b1 := b1) (Bs := []) (by rw [hc.2.2]; exact hxm) hc'
        exact Or.inl ⟨A, a1'', kA A a2''⟩
      · rintro v w' ⟨rfl, n1, n2⟩
        refine ⟨rfl, by omega, fun x5' hx5' => ⟨by omega, ?_⟩⟩
        rw [show z6.toInt.toNat = c.2.2 by omega, n2]
        exact ⟨⟨rfl, rfl, y4, k + 1, by omega, n1⟩, by show (7 - x5'.toInt).toNat < (7 - z5.toInt).toNat; omega⟩
theorem s_221 {d e hi y h : Nat} {a1 : Int32} (ih : TEH own b n W N T F H S0 G fo m d) (hd : 17 ≤ d) (hW : TW own b n W N T F H S0 G fo S O P E s) (hC : TCo own b N (m + 1) e hi S O P E s) (hehi : e < hi) (h1 : a1.toInt = (e : Int)) (hw : (s.2.1 221 e).toInt = 2) (hy : (s.2.1 229 e).toInt = (y : Int)) (hey : e < y) (hhi : h ≤ hi) (hY : isY b n s 11 h y) (hL : eqs (isE b n s m) s (s.2.1 224 e).toInt (s.2.1 226 e).toInt h hi) : Tot (d + 2) 221 [.ref 213, .int a1] s (fun v s' => v = none ∧ TEQ b e hi S O P E 130 (wBR G H b n fo m hi e) s s') := by
  obtain ⟨hb, hn, hT24, hF60, hH, gT', gF', hS8⟩ := TW_num hW
  obtain ⟨c1, c2, c3, c4, c5, c6, c7, c8, c9, c10, c11, c12, c13⟩ := id hW
  obtain ⟨t1, t2, t3, t4, t5, t6, t7, t8⟩ := id hC
  have e1 : a1.toInt.toNat = e := by omega
  have ey : (s.2.1 229 e).toInt.toNat = y := by omega
  have hyh := isY_lt hY
  have hP1 : P ≤ 199600 := by clear ih t4; omega
  have ecM := cM_sub (s := s) (lo := e) (hi := hi) (lo' := h) (hi' := hi) (by omega) hhi (Nat.le_refl _)
  refine t_221 ?_
  unfold w_221_0
  rw [e1]
  refine ⟨by omega, ?_⟩
  refine Tot.imp (Tot.mono (by omega) (t204 hW hY (by omega) hy (by omega))) ?_
  rintro v s1 ⟨rfl, F1, f1, kf, S1, k1, k2, k3, k4⟩
  have F1' : TFr tK b e hi S P E O s s1 := TF_mo F1 (fun _ w => w) (by omega) (by omega) (Nat.le_refl _) (Nat.le_refl _) (Nat.le_refl _) (Nat.le_refl _)
  have q64 : (s1.1 64).toInt = (P : Int) := by rw [kf 64 (by decide)]; exact c5
  have q85 : (s1.1 85).toInt = (O : Int) := by rw [kf 85 (by decide)]; exact c8
  have q70 : (s1.1 70).toInt = (E : Int) := by rw [kf 70 (by decide)]; exact c6
  have W1 : TW own b n W N T F H S0 G fo S1 O P E s1 := TW_fr hW F1' (by decide) t4 f1.1 q64 q70 k1 q85 k2 (by omega) (Nat.le_refl _) c13
  have bad : ∀ u : yS, XF b5K P E s1 u → f8 s1 u → ¬ (u.1 8).toInt = 0 → TEQ b e hi S O P E 130 (wBR G H b n fo m hi e) s u := by
    intro u uX uf une
    exact TEQ_bad (TF_tr F1' (TF_xf (b := b) (lo := e) (hi := hi) (S := S1) (O := O) uX) (by decide) (Nat.le_refl _) (Nat.le_refl _) k2 (Nat.le_refl _) (Nat.le_refl _) (Nat.le_refl _)) (f8_tr f1 uf) une (by rw [uX.1 64 (by decide)]; exact q64) (by rw [uX.1 65 (by decide)]; exact k1) (by rw [uX.1 85 (by decide)]; exact q85) k2 (by omega) (Nat.le_refl _) (by omega) (Nat.le_refl _) (by omega)
  have rf1 : XF b5K P E s1 s1 := XF_rf F1.2.2.2.1 F1.2.2.2.2
  have f18 := f1.1
  refine ⟨rfl, fun hf => ?_, fun hf => ?_⟩
  · unfold w_221_15
    exact ⟨fun w => absurd (by omega) hf, fun _ => ⟨rfl, bad s1 rf1 (f8_rf f1.1) hf⟩⟩
  have hR := k4 hf
  have hY1 := isY_tf F1 hY
  refine Tot.imp (Tot.mono (by omega) (t211 W1 hP1 (by omega) hY1 (by omega) hR (by omega) hy)) ?_
  rintro v s3 ⟨rfl, X3, f3, o3⟩
  refine ⟨rfl, ?_⟩
  unfold w_221_15
  rw [ey]
  have f38 := f3.1
  refine ⟨fun hle => ?_, fun hgt => ⟨rfl, bad s3 X3 f3 (by omega)⟩⟩
  have hf3 : (s3.1 8).toInt = 0 := by omega
  have okb := o3 hf3
  obtain ⟨r1, r2, r3, r4, r5, -⟩ := id hR
  obtain ⟨L, hLd⟩ : ∃ L, L = seg s1 S (S1 - S) := ⟨_, rfl⟩
  rw [← hLd] at okb
  have kE : okE G (scX G fo) L := by rw [hLd]; exact ⟨rsv_F hR, fun x hx => rsv_V hR x hx⟩
  obtain ⟨x, As, hc⟩ := cutT_ex kE.1
  obtain ⟨vx, kA⟩ := okE_cut hc kE
  have ex : tyE s1 S = x := by rw [hLd] at hc; exact (cut_len hc).2
  have W3 : TW own b n W N T F H S0 G fo S1 O P E s3 := TW_fr W1 (TF_xf (b := b) (lo := e) (hi := e) (S := S1) (O := O) X3) (by decide) (fun z z1 z2 => by omega) f3.1 (by rw [X3.1 64 (by decide)]; exact q64) (by rw [X3.1 70 (by decide)]; exact q70) (by rw [X3.1 65 (by decide)]; exact k1) (by rw [X3.1 85 (by decide)]; exact q85) (Nat.le_refl _) (by omega) (Nat.le_refl _) c13
  obtain ⟨d1, d2, d3, d4, d5, d6, d7, d8, d9, d10⟩ := id W3.1
  have s31 : (s3.2.1 231 y).toInt = (S : Int) := by rw [XF_row X3 (by decide)]; exact r1
  have s32 : (s3.2.1 232 y).toInt = ((S1 - S : Nat) : Int) := by rw [XF_row X3 (by decide)]; exact r2
  have e31 : (s3.2.1 231 y).toInt.toNat = S := by omega
  have ty3 : s3.2.1 264 S = s1.2.1 264 S := X3.2.1 264 S (fun w => by omega) (fun w => by omega) (fun w => by omega)
  have ex3 : tyE s3 S = x := by unfold tyE at ex ⊢; rw [ty3]; exact ex
  have tp := d5 S
  have tpI : (s3.2.1 264 S).toInt = (x : Int) := by unfold tyE at ex3; omega
  have h75 := d7
  have hx6 : x % 8 ≤ 6 ∧ (x / 8 < T ∨ 1000 ≤ x / 8) := by
    rcases vx with w | w
    · have := (d9.2.1 _ w.1).1
      omega
    · omega
  refine ⟨by omega, fun x1 hx1 => ⟨by omega, ?_⟩⟩
  rw [e31]
  refine ⟨by omega, ?_⟩
  refine Tot.imp (Tot.mono (by omega) (s_185 (d := 0) tp.1)) ?_
  rintro v s2 ⟨es, x4, rfl, hx4⟩
  have es := es.symm
  subst es
  have hsm : x / 8 ≤ 7000 := by omega
  refine ⟨x4, rfl, by omega, fun x5 hx5 => ⟨by omega, ?_⟩⟩
  refine Tot.imp (Tot.mono (by omega) (s_220 (d := 0) (H := H) (p := S) d1 d5 d7 s31 (by omega) (by rw [ex3]; exact hx6.2))) ?_
  rintro v s2 ⟨es, x8, rfl, h8⟩
  have es := es.symm
  subst es
  rw [ex3, d8] at h8
  have tk := hY1
  have r22 : s3.2.1 222 y = s.2.1 222 y := by rw [XF_row X3 (by decide), TF_row F1 (by decide)]
  obtain ⟨-, -, i2, i3, -⟩ := id hY
  have wr : ∀ w : Int32, 1 ≤ w.toInt ∧ w.toInt ≤ 15 → Tot (d + 1) 163 [.ref 213, .int w, .int (s3.2.1 222 y)] s3 (fun v u => v = none ∧ XF b5K P E s1 u ∧ f8 s1 u ∧ ¬ (u.1 8).toInt = 0) := by
    intro w hw'
    rw [r22]
    refine Tot.imp (Tot.mono (by omega) (fo_163 (d := 0) (w := w) W3.2.1 f3.1 hw' (by omega))) ?_
    rintro v u ⟨rfl, hF, hne⟩
    exact ⟨rfl, XF_fo X3 hF (by decide), f8_tr f3 (f8_fo hF hne), hne⟩
  refine ⟨x8, rfl, fun h80 => ?_, fun h80 => ⟨by omega, Tot.imp (wr 6 (by decide)) (fun v u hu => ⟨hu.1, rfl, bad u hu.2.1 hu.2.2.1 hu.2.2.2⟩)⟩⟩
  obtain ⟨-, hxT, hst⟩ := h8.resolve_right (fun w => h80 w.1)
  obtain ⟨D, hD⟩ : ∃ D, D = x / 8 := ⟨_, rfl⟩
  rw [← hD] at hxT hst
  have g := pgA d1
  rw [d8] at g
  obtain ⟨-, -, g3, -, -, g6, -⟩ := g
  obtain ⟨cs, l1, l2, l3, l4, l5⟩ := hL
  have hfd := (g3 D hxT).2.2.2.2
  have hA39 := (d1.2.2.2.2.2.2.2.1 D hxT)
  have hxm : x % 8 = gfm G D := by
    rcases vx with w | w
    · rw [w.2, hD]
    · omega
  -- the rest: env, the row of E, and the end
  have go64 : ∀ u : yS, XF b5K P E s1 u → f8 s1 u → ((u.1 8).toInt = 0 → cs.length = gfd G D) → w_221_64 (Tot (d + 1)) a1 (s.2.1 229 e) x5 u (fun v s' => v = none ∧ TEQ b e hi S O P E 130 (wBR G H b n fo m hi e) s s') := by
    intro u uX uf ulen
    have u70 : (u.1 70).toInt = (E : Int) := by rw [uX.1 70 (by decide)]; exact q70
    have u31 : (u.2.1 231 y).toInt = (S : Int) := by rw [XF_row uX (by decide)]; exact r1
    have uty : u.2.1 264 S = s1.2.1 264 S := uX.2.1 264 S (fun w => by omega) (fun w => by omega) (fun w => by omega)
    have uL : seg u S (S1 - S) = L := by rw [hLd]; exact XF_seg uX (by omega)
    have utp : 0 ≤ (u.2.1 264 S).toInt := (uX.2.2.2.1 S).1
    have utI : (u.2.1 264 S).toInt = (x : Int) := by rw [uty, ← ty3]; exact tpI
    unfold w_221_64
    rw [ey]
    refine Tot.imp (Tot.mono (by omega) (s_188 (d := 0) u70 (by omega))) ?_
    rintro v s6 ⟨rfl, x8', hx8', rfl⟩
    refine ⟨_, rfl, ?_⟩
    have q31 : (sf (sa (sa u 266 (2 * E) 0) 266 (2 * E + 1) 0) 70 x8').2.1 231 y = u.2.1 231 y := by
      show (sa (sa u 266 (2 * E) 0) 266 (2 * E + 1) 0).2.1 231 y = _
      rw [sa_2, if_neg (fun w => by omega), sa_2, if_neg (fun w => by omega)]
    have q64' : (sf (sa (sa u 266 (2 * E) 0) 266 (2 * E + 1) 0) 70 x8').2.1 264 S = u.2.1 264 S := by
      show (sa (sa u 266 (2 * E) 0) 266 (2 * E + 1) 0).2.1 264 S = _
      rw [sa_2, if_neg (fun w => by omega), sa_2, if_neg (fun w => by omega)]
    rw [q31, show (u.2.1 231 y).toInt.toNat = S by omega, q64']
    refine ⟨by omega, by omega, ?_⟩
    refine Tot.imp (Tot.mono (by omega) (s_185 (d := 0) utp)) ?_
    rintro v s9 ⟨es, x11, rfl, hx11⟩
    subst es
    refine ⟨x11, rfl, by omega, fun x12 hx12 => ⟨by omega, fun x13 hx13 => ⟨by omega, ?_⟩⟩⟩
    rw [q31]
    refine Tot.mono (show 0 + 2 ≤ d + 1 by omega) (nenvw (e := 0) (P := P) (E := E) (p := S) (l := S1 - S) (x := x) (As := As) (c := 1000 + 6 * D) uX.2.2.2.1 uX.2.2.2.2 u70 (by omega) (by rw [uL]; exact hc.1) hc.2.1 hc.2.2 (by rw [hc.2.2]; exact hx6.1) (by omega) (by omega) (by omega) hx8' u31 (by omega) (fun t tX t70 tV tlo => ⟨rfl, ?_⟩))
    obtain ⟨b1, hb1⟩ : ∃ b1, b1 = (t.2.1 265 (2 * E + 1)).toInt.toNat := ⟨_, rfl⟩
    rw [← hb1] at tV
    have tl := EVl_of (S := S1) tV tlo (Or.inl (by omega))
    have X1t : XF [8, 70, 71, 72, 73, 74] P E s1 t := XF_tr (XF_mo uX (by decide) (Nat.le_refl _) (Nat.le_refl _)) tX (by decide) (Nat.le_refl _) (Nat.le_refl _)
    have Ft : TFr (70 :: tK) b e hi S P E O s t := TF_tr (TF_mo F1' (by decide) (Nat.le_refl _) (Nat.le_refl _) (Nat.le_refl _) (Nat.le_refl _) (Nat.le_refl _) (Nat.le_refl _)) (TF_xf (b := b) (lo := e) (hi := hi) (S := S1) (O := O) X1t) (by decide) (Nat.le_refl _) (Nat.le_refl _) k2 (Nat.le_refl _) (Nat.le_refl _) (Nat.le_refl _)
    have ft : f8 s t := f8_tr f1 (f8_tr uf (f8_eq uf.1 (tX.1 8 (by decide))))
    have t64 : (t.1 64).toInt = (P : Int) := by rw [X1t.1 64 (by decide)]; exact q64
    have t65 : (t.1 65).toInt = (S1 : Int) := by rw [X1t.1 65 (by decide)]; exact k1
    have t85 : (t.1 85).toInt = (O : Int) := by rw [X1t.1 85 (by decide)]; exact q85
    have Wt : TW own b n W N T F H S0 G fo S1 O P (E + 1) t := TW_fr hW Ft (by decide) t4 ft.1 t64 (by omega) t65 t85 k2 (by omega) (Nat.le_refl _) c13
    have tr : ∀ q, q ∉ [226, 230, 231, 232, 264, 265, 266, 267, 268, 270, 271, 272] → t.2.1 q = s.2.1 q := fun q hq => TF_row Ft hq
    obtain ⟨fT, hfT⟩ : ∃ fT, fT = (fun k => subs (envS (1000 + 6 * D) As 0 []) (gft G D k)) := ⟨_, rfl⟩
    have ecMt : cM t = cM s := by funext lo hi; exact cM_eq (tr 221 (by decide))
    have Ac : AIc own b n N m h hi S1 O P (E + 1) cs t := ⟨by omega, t2, t3, fun x x1 x2 => t4 x (by omega) x2, by omega, by rw [ecMt]; omega, by omega, by omega, fun c hcm => by
      obtain ⟨p1, p2, p3, p4, p5⟩ := l5 c hcm
      exact ⟨p1, p2, p3, p4, isE_tf Ft p5⟩, l4⟩
    have hwT : wT G b (scX G fo) S1 t y L := ⟨S, S1 - S, ⟨by omega, by rw [XF_row X1t (by decide)]; exact r1, by rw [XF_row X1t (by decide)]; exact r2, by omega, r4⟩, c10, by omega, by rw [hLd]; exact XF_seg X1t (by omega), kE, okb⟩
    refine ⟨by omega, ?_⟩
    rw [e1]
    have segt : seg t S (S1 - S) = L := by rw [hLd]; exact XF_seg X1t (by omega)
    have hSeq : S + (S1 - S) = S1 := by omega
    rw [hSeq] at tV
    exact st_loop (b1 := b1) (by omega) hb (by have := TW_num Wt; omega) c10 c13 t3 t2 hey hyh hhi hw hy c6 k2 k3 Ft ft (by omega) hwT (by rw [XF_row X1t (by decide)]; exact r1) (by rw [XF_row X1t (by decide)]; exact r2) segt r4 kE hc hD (by omega) hst hfT (by rw [tr 224 (by decide)]; exact chn_row (tr 225 (by decide)) _ _ l3) (fun q => ulen (by rw [← tX.1 8 (by decide)]; exact q)) (fun c hcm => by obtain ⟨p1, p2, p3, p4, -⟩ := l5 c hcm; exact ⟨p1, p2, p3, p4⟩) ih hd Wt Ac hxT hT24 gT' hxm (by omega) u70 tV tl kA
  have s26 : s3.2.1 226 e = s.2.1 226 e := by
    rw [XF_row X3 (by decide)]
    exact F1.2.1 226 e (fun w => by omega) (fun w => by omega) (fun w => by omega) (fun w => by omega) (fun w => by omega)
  rw [e1, s26, show x5.toInt.toNat = 24 * b + D by omega]
  refine ⟨by omega, by omega, fun heq => go64 s3 X3 f3 (fun _ => ?_), fun hne => ⟨by omega, Tot.imp (wr 4 (by decide)) ?_⟩⟩
  · rw [hfd]
    unfold nT
    omega
  · rintro v u ⟨rfl, u1, u2, u3⟩
    exact ⟨rfl, go64 u u1 u2 (fun w => absurd w u3)⟩
end TS2
