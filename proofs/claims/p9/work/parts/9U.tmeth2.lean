theorem nu11 {O1 O2 O' c c' c'' : Nat} (h1 : O2 ≤ O1 + 60) (h2 : O' ≤ O2 + 60 * c) (h3 : 1 + c + c' ≤ c'') : O' ≤ O1 + 60 * c'' := by omega
section TM3
variable {own : Nat → Nat × Nat} {b n W N T F H S0 : Nat} {G : PG} {fo : Option Nat} {m p lo hi e a hm S O P E S1 O1 P1 S2 O2 P2 ps ls x h cd : Nat} {A0 M : List Nat} {As Bs : List (List Nat)} {cs : List (Nat × Nat × Nat)} {fT : Nat → List Nat} {s s1 t : yS}
/-- METHOD nodes: this one, those of its arguments -/
theorem cM_e {hm pos : Nat} (hw : (s.2.1 221 e).toInt = 4) (h1 : e < hm) (h2 : hm ≤ pos) (h3 : pos ≤ hi) : 1 + cM s hm pos + 0 ≤ cM s e hi := by
  have a1 := cM_add (s := s) (lo := e) (mid := e + 1) (hi := hi) (by omega) (by omega)
  have a2 := cM_sub (s := s) (lo := e + 1) (hi := hi) (lo' := hm) (hi' := pos) (by omega) h2 h3
  rw [cM_one hw] at a1
  omega
theorem env_cov {sc' : Nat → Prop} {wd : Int} (hW : WG G H) (hh : h < H) (hx : x / 8 < gT G) (hc : cutT M x As) (hM : okE G sc' M) (hd : isHd G (x / 8) wd h cd) (hB : Bs.length = ghn G h) (hBs : ∀ B ∈ Bs, okE G sc' B) : ∀ c, scHg G h c → (∃ A, envS cd As (2000 + 6 * h) Bs c = some A ∧ okE G sc' A) ∨ (envS cd As (2000 + 6 * h) Bs c = none ∧ sc' c) := by
  intro c hcc
  obtain ⟨vx, kA⟩ := okE_cut hc hM
  have hxm : As.length = gfm G (x / 8) := by
    rw [hc.2.2]
    rcases vx with w | w
    · exact w.2
    · have := hW.1.1
      omega
  obtain ⟨f1, -⟩ := hd_fit (As := As) hW hx hd hxm
  obtain ⟨A, k1, k2⟩ := fit_cov hW hh f1 hB hcc
  exact Or.inl ⟨A, k1, k2.elim (kA A) (hBs A)⟩
/-- the result's TYPE, and the end -/
theorem m213 {d k : Nat} {z : Int} {a1 a2 a3 a4 a5 a6 a7 : Int32} {w : yS} (hM : MS own b n W N T F H S0 G fo m p lo hi e a hm S O P E S1 O1 P1 A0 s s1) (hX : ME own b n W N T F H S0 G fo m hi e hm E S1 O1 P1 S2 O2 P2 ps ls x h cd A0 M As Bs cs s1 t) (hfT : fT = (fun k => subs (envS cd As (2000 + 6 * h) Bs) (gvt G h k))) (hbd : (t.1 8).toInt = 0 → ∀ (k : Nat) (B : List Nat), Bs[k]? = some B → impl G B (subs (envS cd As (2000 + 6 * h) Bs) (ghb G h k))) (hI : AIv b n H G fo m hm hi S2 O2 P2 (E + 1) fT cs t k z w) (hend : (w.1 8).toInt = 0 → k = cs.length) (h1 : a1.toInt = (e : Int)) (h3 : a3.toInt = 204 * (b : Int) + (h : Nat)) (h5 : a5.toInt = (E : Int)) : w_226_213 (Tot (d + 2)) a1 a2 a3 a4 a5 a6 a7 w (MEQ b n H G fo m p lo hi e S O P E s) := by
  obtain ⟨c1, c2, c3, c4, c5, c6, c7, c8, c9, c10, c11, c12, c13, c14, c15, c16, c17, c18, c19, c20⟩ := id hM
  obtain ⟨x1, x2, x3, x4, x5, x6, x7, x8, x9, x10, x11, x12, x13, x14, x15, x16, x17, x18, x19, x20, x21, x22, x23, x24, x25, x26, x27⟩ := hX
  obtain ⟨hb, hn, hT24, hF60, hH, gT', gF', hS8⟩ := TW_num x3
  obtain ⟨S', O', pos, F2, f2, m1, m2, m3, m4, m5, m6, m7, m8, m9, m10, m11, m12, m13⟩ := hI
  have hP1 := nu4 c2.2.2.2.2.2.2.1 c10 c11
  have hP0 : 100000 ≤ P1 := c20.2.2.2.2.2.2.2.2.2.2.2.2
  have hP2 : 100000 ≤ P2 := Nat.le_trans hP0 x8
  have hP3 : P2 ≤ 199600 := nu7 hP1 x9
  have hN := c2.2.2.1
  have hhN := c2.2.1
  have hEE := c2.2.2.2.2.2.2.2
  have e1 : a1.toInt.toNat = e := by omega
  have e3 : a3.toInt.toNat = 204 * b + h := by omega
  have Fw : TFr (70 :: tK) b e hi S1 P1 E O1 s1 w := TF_tr (TF_mo x1 (fun _ w => w) (Nat.le_refl _) c14 (Nat.le_refl _) (Nat.le_refl _) (Nat.le_refl _) (Nat.le_refl _)) F2 (by decide) (by omega) (Nat.le_refl _) x4 x8 (Nat.le_succ _) x6
  have t70 : (t.1 70).toInt = ((E + 1 : Nat) : Int) := x3.2.2.2.2.2.1
  have w70 : (w.1 70).toInt = (E : Int) + 1 := by rw [F2.1 70 (by decide)]; omega
  have ecM : cM t = cM s := by funext lo hi; rw [cM_eq (TF_row x1 (by decide)), cM_eq (TF_row c3 (by decide))]
  rw [ecM] at m7
  have hO' : O' ≤ O1 + 60 * cM s e hi := nu11 x7 m7 (cM_e c17 c13 m8 m9)
  have hS' : S' ≤ S1 + (hi - e) := by clear hend hbd m13 m12 m11 x25 hfT; omega
  -- the state at a fault
  have bad : ∀ (u : yS) (a6 a7 : Int32), TFr (70 :: tK) b e hi S1 P1 E O1 s1 u → f8 s1 u → ¬ (u.1 8).toInt = 0 → (u.1 70).toInt = (E : Int) + 1 → (u.1 64).toInt = (P2 : Int) → (u.1 65).toInt = (S' : Int) → (u.1 85).toInt = (O' : Int) → w_226_241 (Tot (d + 2)) a1 a2 a3 a4 a5 a6 a7 u (MEQ b n H G fo m p lo hi e S O P E s) := by
    intro u a6 a7 uF uf une u70 u64 u65 u85
    exact m241 (d := d + 1) (q' := 0) (A := []) hM uF uf u70 u64 u65 u85 (Nat.le_trans x4 m4) hS' (Nat.le_trans x6 m6) hO' x8 (Nat.le_trans x9 (Nat.add_le_add_left (by decide) _)) (fun q => absurd q une)
  unfold w_226_213
  rw [e3]
  refine ⟨fun hne => bad w a6 a7 Fw (f8_tr x2 f2) hne w70 m1 m2 m3, fun h0 => ?_⟩
  have t0 := f2.2 h0
  have hk := hend h0
  have W2 : TW own b n W N T F H S0 G fo S' O' P2 (E + 1) w := TW_fr x3 F2 (by decide) x25.2.2.2.1 f2.1 m1 (by omega) m2 m3 m4 (Nat.le_trans m5 (Nat.le_trans (Nat.add_le_add_left (by omega) _) x25.2.2.2.2.1)) m6 hP2
  obtain ⟨d1, d2, d3, d4, d5, d6, d7, d8, d9, d10⟩ := id W2.1
  have g := pgA d1
  rw [d8] at g
  obtain ⟨-, -, -, g4, -⟩ := g
  have hv : vS b T H w 251 (204 * b + h) := Or.inr (Or.inr (Or.inr (Or.inr ⟨h, x19, rfl, rfl⟩)))
  obtain ⟨yy, pp, ll, o1, o2, o3, o4, o5, o6, o7⟩ := d2 _ _ hv
  have hht := (g4 h x19).2.2.1
  rw [SY_ty o1 o5] at hht
  obtain ⟨n1, n2, n3, n4, n5⟩ := id o5
  have okR := (d9.2.2.2.2.2.1 h x19).2.2
  obtain ⟨V1, L1⟩ := EV_tf hb x26 x27 F2 (Nat.lt_succ_self E) (Nat.le_refl _) m4
  rw [show (w.2.1 251 (204 * b + h)).toInt.toNat = yy by omega]
  refine ⟨by omega, by omega, by omega, by omega, ?_⟩
  refine Tot.imp (Tot.mono (by omega) (s_191 (d := 0) (e := E) (P := P2) d5 d6 m1 V1 (by omega) n2 n3 h5 (by omega) (by omega))) ?_
  rintro v u ⟨r, rfl, hPF, hk2, hr⟩
  rw [← hht] at hr
  have uX : XF [64, 71, 72] P2 (E + 1) w u := ⟨hk2, fun q i h1 _ _ => hPF.1 q i (fun w => h1 ⟨w.1, w.2.1⟩), hPF.2.1, hPF.2.2, fun i => by rw [hPF.1 265 i (fun w => by omega)]; exact d6 i⟩
  have Fu : TFr (70 :: tK) b e hi S1 P1 E O1 s1 u := TF_tr Fw (TF_xf (b := b) (lo := e) (hi := hi) (S := S') (O := O') uX) (by decide) (Nat.le_refl _) (Nat.le_refl _) (Nat.le_trans x4 m4) x8 (Nat.le_succ _) (Nat.le_trans x6 m6)
  have u8 : u.1 8 = w.1 8 := hk2 8 (by decide)
  have fu : f8 s1 u := f8_tr (f8_tr x2 f2) (f8_eq f2.1 u8)
  have u70 : (u.1 70).toInt = (E : Int) + 1 := by rw [hk2 70 (by decide)]; exact w70
  have u65 : (u.1 65).toInt = (S' : Int) := by rw [hk2 65 (by decide)]; exact m2
  have u85 : (u.1 85).toInt = (O' : Int) := by rw [hk2 85 (by decide)]; exact m3
  obtain ⟨A, hA⟩ : ∃ A, A = subs (envS cd As (2000 + 6 * h) Bs) (ght G h) := ⟨_, rfl⟩
  rw [← hA] at hr
  refine ⟨r, rfl, fun hr0 => ?_, fun hr0 => ⟨by omega, ?_⟩⟩
  · obtain ⟨-, Q, q1, q2, q3, q4, q5, q6⟩ := hr.resolve_left (fun w => hr0 w.1)
    have okA : okE G (scX G fo) A := by
      rw [hA]
      exact okE_subs d9.1.1 okR.1 (fun c hc => envS_lt hc) (env_cov d9 x19 x17 x15 x16 x18 x22 x21)
    refine m241 (d := d + 1) (q' := P2) (A := A) hM Fu fu u70 (P' := P2 + Q) (by omega) u65 u85 (Nat.le_trans x4 m4) hS' (Nat.le_trans x6 m6) hO' (Nat.le_trans x8 (Nat.le_add_right _ _)) (by omega) (fun _ => ⟨by rw [q3]; exact m1, by rw [← q1]; exact q4, by rw [← q1]; exact q6, hP2, Nat.le_of_eq (by rw [q1]), ?_, okA, by rw [← q1]; exact q2⟩)
    have CAtu : CA b n e hm S2 O2 t u := by
      have c1' : CA b n e hm S2 O2 t w := TF_CA F2 (Or.inl (Nat.le_refl _)) (Nat.le_trans (Nat.le_trans hS8 (by decide)) hP2)
      refine ⟨fun q hq y y1 y2 => ?_, fun t' y1 y2 => by rw [XF_row uX (by decide)]; exact c1'.2.1 t' y1 y2, fun j j1 j2 => ?_, fun j j1 j2 => by rw [XF_row uX (by decide)]; exact c1'.2.2.2 j j1 j2⟩
      · rw [XF_row uX (by clear hbd hend bad; revert q; decide)]
        exact c1'.1 q hq y y1 y2
      · rw [uX.2.1 264 j (fun w => by omega) (fun w => by omega) (fun w => by omega)]
        exact c1'.2.2.1 j j1 j2
    have ru : ∀ q, q ∉ [226, 230, 231, 232, 264, 265, 266, 267, 268, 270, 271, 272] → u.2.1 q = t.2.1 q := fun q hq => by
      rw [XF_row uX (fun w => hq (by clear hq; revert q; decide)), TF_row F2 hq]
    have rue : ∀ q ∈ wR, u.2.1 q e = t.2.1 q e := fun q hq => CAtu.1 q hq e (Nat.le_refl _) c13
    obtain ⟨kk1, kk2, -⟩ := c18
    have et : (t.2.1 222 e).toInt.toNat = (s.2.1 222 e).toInt.toNat := by rw [TF_row x1 (by decide), TF_row c3 (by decide)]
    have eu : u.2.1 222 e = s.2.1 222 e := by rw [rue 222 (by decide), TF_row x1 (by decide), TF_row c3 (by decide)]
    refine ⟨M, x, As, h, cd, Bs, (s.2.1 222 e).toInt.toNat, O1, hm, x14, x15, x17, ?_, ?_, ?_, ?_, x19, ?_, ?_, c20.2.2.2.2.2.2.2.2.2.2.2.1, ?_, ?_, c13, c14, ?_, x22, hbd t0, ⟨cs, x23, ?_, fun j c hj => ?_⟩, hA⟩
    · rw [eu]; omega
    · omega
    · omega
    · rw [ru 217 (by decide), ← et]; exact x18
    · rw [rue 271 (by decide)]; exact x10
    · rw [rue 272 (by decide)]; exact x11
    · omega
    · rw [sg_eq (s := t) (fun i i1 i2 => CAtu.2.2.2 i (by have := c20.2.2.2.2.2.2.2.2.2.2.2.1; omega) (by omega))]
      exact x13
    · rw [ru 229 (by decide)]
      exact wY_eq CAtu m4 x20
    · rw [ru 224 (by decide)]
      exact chn_row (ru 225 (by decide)) _ _ x24
    · have hjl := cs_lt hj
      obtain ⟨y1, y2, y3, y4, -⟩ := x25.2.2.2.2.2.2.2.2.1 c (List.mem_of_getElem? hj)
      obtain ⟨-, B, n1, n2⟩ := m13 h0 j c (by omega) hj
      rw [hfT] at n2
      refine ⟨y1, y2, y3, y4, B, wE_eq (s := w) (Nat.le_refl _) (Nat.le_refl _) ?_ n1, n2⟩
      refine ⟨fun q hq y _ _ => by rw [XF_row uX (by clear hbd hend bad rue; revert q; decide)], fun t' _ _ => by rw [XF_row uX (by decide)], fun j j1 j2 => ?_, fun j _ _ => by rw [XF_row uX (by decide)]⟩
      have : S' ≤ 8210 := (TW_num W2).2.2.2.2.2.2.2
      exact uX.2.1 264 j (fun w => by omega) (fun w => by omega) (fun w => by omega)
  · have r22 : u.2.1 222 e = s.2.1 222 e := by rw [TF_row Fu (by decide), TF_row c3 (by decide)]
    rw [e1, r22]
    obtain ⟨kk1, kk2, -⟩ := c18
    refine Tot.imp (Tot.mono (by omega) (fo_163 (d := 0) (w := 9) (Lx_xf W2.2.1 uX) (by rw [u8]; exact f2.1) (by decide) ⟨kk1, by omega⟩)) ?_
    rintro v u' ⟨rfl, hF, hne⟩
    have r64 := (hr.resolve_right (fun w => by omega)).2.1
    exact ⟨rfl, bad u' a6 a7 (TF_fo Fu hF (by decide)) (f8_tr fu (f8_fo hF hne)) hne (by rw [FO_1 hF (by decide)]; exact u70) (by rw [FO_1 hF (by decide), r64]; exact m1) (by rw [FO_1 hF (by decide)]; exact u65) (by rw [FO_1 hF (by decide)]; exact u85)⟩
end TM3
