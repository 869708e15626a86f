/-! ===== fieldOf, typeField ===== -/
section FO2
variable {own : Nat → Nat × Nat} {b n W N T F H S0 : Nat} {G : PG} {fo : Option Nat} {m S O P E : Nat} {s : yS}
theorem s_224 {d p l x D k : Nat} {As : List (List Nat)} {a1 a2 : Int32} (hW : TW own b n W N T F H S0 G fo S O P E s) (hP : P ≤ 199500) (hE : E ≤ 288) (h1 : a1.toInt = (p : Int)) (hpl : p + l ≤ P) (hc : cutT (seg s p l) x As) (hD : D = x / 8) (hDT : D < T) (hxm : x % 8 = gfm G D) (h2 : a2.toInt = (k : Int)) (hk : k < gfd G D) : Tot (d + 3) 224 [.ref 213, .int a1, .int a2] s (fun v s' => ∃ r : Int32, v = some (.int r) ∧ XF [64, 71, 72, 80, 81] P E s s' ∧ ((r.toInt = 0 ∧ (s'.1 64).toInt = (P : Int)) ∨ (r.toInt = 1 ∧ ∃ M : Nat, M = (subs (envS (1000 + 6 * D) As 0 []) (gft G D k)).length ∧ M ≤ 60 ∧ (s'.1 80).toInt = (P : Int) ∧ (s'.1 81).toInt = (M : Int) ∧ (s'.1 64).toInt = (P : Int) + M ∧ seg s' P M = subs (envS (1000 + 6 * D) As 0 []) (gft G D k)))) := by
  obtain ⟨hb, hn, hT24, hF60, hH, gT', gF', hS8⟩ := TW_num hW
  obtain ⟨c1, c2, c3, c4, c5, c6, c7, c8, c9, c10, c11, c12, c13⟩ := id hW
  obtain ⟨d1, d2, d3, d4, d5, d6, d7, d8, d9, d10⟩ := id c1
  have g := pgA d1
  rw [d8] at g
  obtain ⟨-, -, g3, -, -, g6, -⟩ := g
  have h6 := d9.2.1 D (by omega)
  have ep : a1.toInt.toNat = p := by omega
  have ex := (cut_len hc).2
  have tp := d5 p
  have tpI : (s.2.1 264 p).toInt = (x : Int) := by unfold tyE at ex; omega
  have l1 := (cut_len hc).1
  refine t_224 ?_
  unfold w_224_0
  refine Tot.imp (Tot.mono (by omega) (s_188 (d := 0) c6 (by omega))) ?_
  rintro v s6 ⟨rfl, x8, hx8, rfl⟩
  refine ⟨_, rfl, ?_⟩
  have q64 : (sf (sa (sa s 266 (2 * E) 0) 266 (2 * E + 1) 0) 70 x8).2.1 264 p = s.2.1 264 p := by
    show (sa (sa s 266 (2 * E) 0) 266 (2 * E + 1) 0).2.1 264 p = _
    rw [sa_2, if_neg (fun w => by omega), sa_2, if_neg (fun w => by omega)]
  rw [ep, q64]
  refine ⟨by omega, ?_⟩
  refine Tot.imp (Tot.mono (by omega) (s_185 (d := 0) tp.1)) ?_
  rintro v s9 ⟨es, x11, rfl, hx11⟩
  subst es
  refine ⟨x11, rfl, by omega, fun x12 hx12 => ⟨by omega, fun x13 hx13 => ?_⟩⟩
  refine Tot.mono (show 0 + 2 ≤ d + 2 by omega) (nenvw (e := 0) (P := P) (E := E) (p := p) (l := l) (x := x) (As := As) (c := 1000 + 6 * D) d5 d6 c6 (by omega) hc.1 hc.2.1 hc.2.2 (by rw [hc.2.2]; omega) hpl (by omega) (by omega) hx8 h1 (by omega) (fun t tX t70 tV tlo => ⟨rfl, ?_⟩))
  obtain ⟨b1, hb1⟩ : ∃ b1, b1 = (t.2.1 265 (2 * E + 1)).toInt.toNat := ⟨_, rfl⟩
  rw [← hb1] at tV
  have t75 : (t.1 75).toInt = (b : Int) := by rw [tX.1 75 (by decide)]; exact d7
  have tty : t.2.1 264 p = s.2.1 264 p := tX.2.1 264 p (fun w => by omega) (fun w => by omega) (fun w => by omega)
  refine ⟨by omega, fun y1 hy1 => ⟨by omega, ?_⟩⟩
  rw [tty]
  refine Tot.imp (Tot.mono (by omega) (s_185 (d := 0) tp.1)) ?_
  rintro v t' ⟨es, y4, rfl, hy4⟩
  have es := es.symm
  subst es
  refine ⟨y4, rfl, by omega, fun y5 hy5 => ⟨by omega, fun y6 hy6 => ⟨by omega, fun y7 hy7 => ⟨by omega, ?_⟩⟩⟩⟩
  have hkn : k < nT s 239 (24 * b + D) := by rw [← (g3 D hDT).2.2.2.2]; exact hk
  obtain ⟨yy, pp, ll, o1, o2, o3, o4, o5, o6, o7⟩ := d2 241 (6 * (24 * b + D) + k) (Or.inr (Or.inl ⟨D, k, hDT, hkn, rfl, rfl⟩))
  have hft := (g6 D k hDT).2 hkn
  rw [SY_ty o1 o5] at hft
  obtain ⟨m1, m2, m3, m4, m5⟩ := id o5
  rw [show y7.toInt.toNat = 6 * (24 * b + D) + k by omega, XF_row tX (show 241 ∉ [264, 265, 266, 267, 268] by decide), show (s.2.1 241 (6 * (24 * b + D) + k)).toInt.toNat = yy by omega, XF_row tX (show 231 ∉ [264, 265, 266, 267, 268] by decide), XF_row tX (show 232 ∉ [264, 265, 266, 267, 268] by decide)]
  have t64 : (t.1 64).toInt = (P : Int) := by rw [tX.1 64 (by decide)]; exact c5
  refine ⟨by omega, by omega, ?_⟩
  refine Tot.imp (Tot.mono (by omega) (s_191 (d := 0) (e := E) (P := P) tX.2.2.2.1 tX.2.2.2.2 t64 (EV_top tV hpl) (by omega) m2 m3 c6 (by omega) (by omega))) ?_
  rintro v u ⟨r, rfl, hPF, hk2, hr⟩
  have tseg : seg t pp ll = gft G D k := by rw [hft]; exact XF_seg tX (by omega)
  rw [tseg, envS_b1 (b2 := 0)] at hr
  have uX : XF [70, 64, 71, 72] P E s u := XF_tr (XF_mo tX (by decide) (Nat.le_refl _) (Nat.le_refl _)) (show XF [64, 71, 72] P E t u from ⟨hk2, fun q i h1 _ _ => hPF.1 q i (fun w => h1 ⟨w.1, w.2.1⟩), hPF.2.1, hPF.2.2, fun i => by rw [hPF.1 265 i (fun w => by omega)]; exact tX.2.2.2.2 i⟩) (by decide) (Nat.le_refl _) (Nat.le_refl _)
  have u70 : (u.1 70).toInt = (E : Int) + 1 := by rw [hk2 70 (by decide)]; exact t70
  refine ⟨r, rfl, by omega, ?_⟩
  rintro y21 hy21 s22 rfl
  have ey : y21 = s.1 70 := Int32.toInt_inj.mp (by omega)
  rw [ey]
  refine Tot.imp (Tot.mono (by omega) (s_216 (d := 0))) ?_
  rintro v s23 ⟨rfl, rfl⟩
  refine ⟨rfl, by omega, r, rfl, XF_sf (XF_sf (XF_mo (XF_back uX) (by decide) (Nat.le_refl _) (Nat.le_refl _)) (by decide)) (by decide), ?_⟩
  rcases hr with ⟨r0, r1, -⟩ | ⟨r0, M, r1, r2, r3, r4, r5, r6⟩
  · refine Or.inl ⟨r0, ?_⟩
    show (u.1 64).toInt = _
    rw [r1]
    exact t64
  · refine Or.inr ⟨r0, M, r1, r2, ?_, r4, r5, ?_⟩
    · show (u.1 71).toInt = _
      rw [r3]
      exact t64
    · refine Eq.trans (seg_2 (s := u) ?_) r6
      rfl
end FO2
