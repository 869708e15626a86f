/-! ===== selves ===== -/
def SFr (s s' : yS) : Prop := (∀ k, ¬ k = 8 → s'.1 k = s.1 k) ∧ (∀ q, ¬ q = 269 → s'.2.1 q = s.2.1 q) ∧ s'.2.2 = s.2.2 ∧ f8 s s'
section SV
variable {own : Nat → Nat × Nat} {b n N T F H S0 W : Nat} {G : PG} {s : yS}
theorem SFr_sa {s t : yS} {i : Nat} {v : Int32} (h : SFr s t) : SFr s (sa t 269 i v) := ⟨h.1, fun q hq => by
  rw [← h.2.1 q hq]
  funext j
  rw [sa_2, if_neg (fun w => hq w.1)], h.2.2.1, h.2.2.2⟩
theorem SFr_fo {s t u : yS} (h : SFr s t) (hF : FO t u) (hne : ¬ (u.1 8).toInt = 0) : SFr s u := by
  have e2 := FO_2 hF
  exact ⟨fun k hk => by rw [FO_1 hF hk]; exact h.1 k hk, fun q hq => by rw [e2]; exact h.2.1 q hq, by rw [e2]; exact h.2.2.1, f8_tr h.2.2.2 (f8_fo hF hne)⟩
theorem sv138 {e : Nat} {a1 : Int32} {u : yS} (hC : CK own b n N T F H S0 G s) (hL : Lx b n W s) (h30 : (s.1 30).toInt = (b : Int)) (h1 : a1.toInt = 24 * (b : Int)) (hu : SFr s u) : wl_215_138 (Tot (e + 1)) a1 0 u (fun v s' => v = none ∧ SFr s s') := by
  obtain ⟨hb, hn, hT24, hF60, hH, r33, r52, hA⟩ := id hC.1
  refine ⟨fun z1 z2 t => z1 = a1 ∧ 0 ≤ z2.toInt ∧ z2.toInt ≤ (T : Int) ∧ SFr s t, fun _ z2 _ => (100 - z2.toInt).toNat, ⟨rfl, by decide, by show (0 : Int32).toInt ≤ _; rw [show (0 : Int32).toInt = 0 by decide]; omega, hu⟩, ?_⟩
  rintro z1 z2 t ⟨y1, y2, y3, tS⟩
  have y1 := y1.symm
  subst y1
  have t30 : (t.1 30).toInt = (b : Int) := by rw [tS.1 30 (by decide)]; exact h30
  unfold w_215_138
  rw [show (t.1 30).toInt.toNat = b by omega, tS.2.1 233 (by decide)]
  refine ⟨by omega, fun _ => ⟨rfl, tS⟩, fun hgt => ⟨by omega, fun x1 hx1 => ⟨by omega, fun _ => ?_, fun _ => ⟨by omega, fun x2 hx2 => ⟨by omega, ?_⟩⟩⟩⟩⟩
  · unfold w_215_161
    exact ⟨by omega, fun x3 hx3 => ⟨⟨rfl, by omega, by omega, tS⟩, by show (100 - x3.toInt).toNat < (100 - z2.toInt).toNat; omega⟩⟩
  · have tk := (hA.1 z2.toInt.toNat (by omega)).1
    rw [show x2.toInt.toNat = 24 * b + z2.toInt.toNat by omega, tS.2.1 234 (by decide)]
    obtain ⟨k1, k2, -⟩ := tk
    refine Tot.imp (Tot.mono (by omega) (fo_163 (d := 0) (w := 8) (Lx_eq hL (tS.2.1 215 (by decide)) (tS.2.1 216 (by decide)) (tS.2.1 217 (by decide))) tS.2.2.2.1 (by decide) ⟨k1, by omega⟩)) ?_
    rintro v t' ⟨rfl, hF, hne⟩
    unfold w_215_161
    exact ⟨rfl, by omega, fun x3 hx3 => ⟨⟨rfl, by omega, by omega, SFr_fo tS hF hne⟩, by show (100 - x3.toInt).toNat < (100 - z2.toInt).toNat; omega⟩⟩
theorem sv79 {e : Nat} {a1 : Int32} {u : yS} (hC : CK own b n N T F H S0 G s) (hL : Lx b n W s) (h30 : (s.1 30).toInt = (b : Int)) (h1 : a1.toInt = 24 * (b : Int)) (hu : SFr s u) : wl_215_79 (Tot (e + 1)) a1 0 u (fun v s' => v = none ∧ SFr s s') := by
  refine ⟨fun z1 z2 t => z1 = a1 ∧ 0 ≤ z2.toInt ∧ z2.toInt ≤ 24 ∧ SFr s t, fun _ z2 _ => (100 - z2.toInt).toNat, ⟨rfl, by decide, by decide, hu⟩, ?_⟩
  rintro z1 z2 t ⟨y1, y2, y3, tS⟩
  have y1 := y1.symm
  subst y1
  unfold w_215_79
  refine ⟨fun _ => sv138 hC hL h30 h1 tS, fun hlt => ?_⟩
  refine ⟨fun w1 w2 w3 t => w1 = a1 ∧ w2 = z2 ∧ 0 ≤ w3.toInt ∧ w3.toInt ≤ 24 ∧ SFr s t, fun _ _ w3 _ => (100 - w3.toInt).toNat, ⟨rfl, rfl, by decide, by decide, tS⟩, ?_⟩
  rintro w1 w2 w3 t1 ⟨x1, x2, x3, x4, tS1⟩
  have x1 := x1.symm
  have x2 := x2.symm
  subst x1 x2
  unfold w_215_84
  refine ⟨fun _ => ⟨by omega, fun y1 hy1 => ⟨⟨rfl, by omega, by omega, tS1⟩, by show (100 - y1.toInt).toNat < (100 - z2.toInt).toNat; omega⟩⟩, fun hlt2 => ?_⟩
  refine ⟨fun v1 v2 v3 v4 t => v1 = a1 ∧ v2 = z2 ∧ v3 = w3 ∧ 0 ≤ v4.toInt ∧ v4.toInt ≤ 24 ∧ SFr s t, fun _ _ _ v4 _ => (100 - v4.toInt).toNat, ⟨rfl, rfl, rfl, by decide, by decide, tS1⟩, ?_⟩
  rintro v1 v2 v3 v4 t2 ⟨q1, q2, q3, q4, q5, tS2⟩
  have q1 := q1.symm
  have q2 := q2.symm
  have q3 := q3.symm
  subst q1 q2 q3
  have set : ∀ (t1 t2' : Int32), 0 ≤ t1.toInt ∧ t1.toInt < 576 → (t2'.toInt = 0 ∨ t2'.toInt = 1) → v4.toInt < 24 → ∀ R79 R84, w_215_129 (Tot (e + 1)) R79 R84 (fun a1' a2' a3' a4' s' => (a1' = a1 ∧ a2' = z2 ∧ a3' = w3 ∧ 0 ≤ a4'.toInt ∧ a4'.toInt ≤ 24 ∧ SFr s s') ∧ (100 - a4'.toInt).toNat < (100 - v4.toInt).toNat) a1 z2 w3 v4 t1 t2' t2 (fun v s' => v = none ∧ SFr s s') := by
    intro t1 t2' h h' h'' R79 R84
    unfold w_215_129
    refine ⟨⟨h, h'⟩, ?_⟩
    rintro s1 rfl
    exact ⟨by omega, fun x2 hx2 => ⟨⟨rfl, rfl, rfl, by omega, by omega, SFr_sa tS2⟩, by omega⟩⟩
  unfold w_215_89
  refine ⟨fun _ => ⟨by omega, fun y1 hy1 => ⟨⟨rfl, rfl, by omega, by omega, tS2⟩, by show (100 - y1.toInt).toNat < (100 - w3.toInt).toNat; omega⟩⟩, fun hlt3 => ⟨by omega, fun x2 hx2 => ⟨by omega, fun x3 hx3 => ⟨by omega, fun x4 hx4 => ⟨by omega, fun x5 hx5 => ⟨by omega, fun _ => ?_, fun _ => ⟨by omega, fun x6 hx6 => ⟨by omega, fun x7 hx7 => ⟨by omega, fun _ => ?_, fun _ => ⟨by omega, fun x8 hx8 => ⟨by omega, fun x9 hx9 => ⟨by omega, fun _ => ?_, fun _ => ?_⟩⟩⟩⟩⟩⟩⟩⟩⟩⟩⟩⟩
  · unfold w_215_126
    exact set x3 1 (by omega) (Or.inr (by decide)) (by omega) _ _
  · unfold w_215_128
    exact set x3 0 (by omega) (Or.inl (by decide)) (by omega) _ _
  · unfold w_215_128
    exact set x3 0 (by omega) (Or.inl (by decide)) (by omega) _ _
  · unfold w_215_126
    exact set x3 1 (by omega) (Or.inr (by decide)) (by omega) _ _
theorem s_215 {e : Nat} (hC : CK own b n N T F H S0 G s) (hL : Lx b n W s) (h8 : 0 ≤ (s.1 8).toInt ∧ (s.1 8).toInt ≤ 70000) (h30 : (s.1 30).toInt = (b : Int)) : Tot (e + 2) 215 [.ref 213] s (fun v s' => v = none ∧ SFr s s') := by
  obtain ⟨hb, hn, hT24, hF60, hH, r33, r52, hA⟩ := id hC.1
  have g1 : gT G = T := by rw [← hC.2.2.2.2.2.2.2.1]; exact (pgA hC.1).1
  refine t_215 ?_
  unfold w_215_0
  refine ⟨by omega, fun a1 h1 => ?_⟩
  have h1 : a1.toInt = 24 * (b : Int) := by omega
  refine ⟨fun z1 z2 t => z1 = a1 ∧ 0 ≤ z2.toInt ∧ z2.toInt ≤ 576 ∧ SFr s t, fun _ z2 _ => (1000 - z2.toInt).toNat, ⟨rfl, by decide, by decide, fun _ _ => rfl, fun _ _ => rfl, rfl, f8_rf h8⟩, ?_⟩
  rintro z1 z2 t ⟨y1, y2, y3, tS⟩
  have y1 := y1.symm
  subst y1
  unfold w_215_7
  refine ⟨fun _ => ?_, fun hlt => ⟨by omega, ?_⟩⟩
  · refine ⟨fun z1 z2 t => z1 = a1 ∧ 0 ≤ z2.toInt ∧ z2.toInt ≤ (T : Int) ∧ SFr s t, fun _ z2 _ => (100 - z2.toInt).toNat, ⟨rfl, by decide, by show (0 : Int32).toInt ≤ _; rw [show (0 : Int32).toInt = 0 by decide]; omega, tS⟩, ?_⟩
    clear tS
    rintro z1 z2 t ⟨y1, y2, y3, tS⟩
    have y1 := y1.symm
    subst y1
    have t30 : (t.1 30).toInt = (b : Int) := by rw [tS.1 30 (by decide)]; exact h30
    unfold w_215_19
    rw [show (t.1 30).toInt.toNat = b by omega, tS.2.1 233 (by decide)]
    refine ⟨by omega, fun _ => sv79 hC hL h30 h1 tS, fun hgt => ?_⟩
    refine ⟨fun w1 w2 w3 t => w1 = a1 ∧ w2 = z2 ∧ 0 ≤ w3.toInt ∧ w3.toInt ≤ 6 ∧ SFr s t, fun _ _ w3 _ => (100 - w3.toInt).toNat, ⟨rfl, rfl, by decide, by decide, tS⟩, ?_⟩
    clear tS t30
    rintro w1 w2 w3 t ⟨x1, x2, x3, x4, tS⟩
    have x1 := x1.symm
    have x2 := x2.symm
    subst x1 x2
    obtain ⟨d, hd⟩ : ∃ d, d = z2.toInt.toNat := ⟨_, rfl⟩
    have hdT : d < T := by omega
    obtain ⟨-, -, -, -, -, -, t7, t8, -⟩ := hA.1 d hdT
    unfold w_215_28
    refine ⟨by omega, fun y1 hy1 => ?_⟩
    rw [show y1.toInt.toNat = 24 * b + d by omega, tS.2.1 239 (by decide)]
    refine ⟨by omega, fun _ => ⟨by omega, fun y2 hy2 => ⟨⟨rfl, by omega, by omega, tS⟩, by show (100 - y2.toInt).toNat < (100 - z2.toInt).toNat; omega⟩⟩, fun hgt2 => ⟨by omega, fun y3 hy3 => ⟨by omega, fun y4 hy4 => ⟨by omega, fun y5 hy5 => ?_⟩⟩⟩⟩
    rw [show y5.toInt.toNat = 6 * (24 * b + d) + w3.toInt.toNat by omega, tS.2.1 241 (by decide), tS.2.1 231 (by decide), tS.2.1 264 (by decide)]
    have hv : vS b T H s 241 (6 * (24 * b + d) + w3.toInt.toNat) := Or.inr (Or.inl ⟨d, _, hdT, by unfold nT; omega, rfl, rfl⟩)
    obtain ⟨yy, pp, ll, o1, o2, o3, o4, o5, o6, o7⟩ := hC.2.1 _ _ hv
    have hgd : gfd G d = nT s 239 (24 * b + d) := by rw [← hC.2.2.2.2.2.2.2.1]; exact ((pgA hC.1).2.2.1 d hdT).2.2.2.2
    have hft : gft G d w3.toInt.toNat = tyS s 241 (6 * (24 * b + d) + w3.toInt.toNat) := by
      rw [← hC.2.2.2.2.2.2.2.1]
      exact ((pgA hC.1).2.2.2.2.2.1 d _ hdT).2 (by unfold nT; omega)
    have ok := hC.2.2.2.2.2.2.2.2.1.2.2.2.2.1 d (by omega) w3.toInt.toNat (by rw [hgd]; unfold nT; omega)
    rw [hft, SY_ty o1 o5] at ok
    obtain ⟨x, As, hc⟩ := cutT_ex ok.1.1
    have vx := (okE_cut hc ok.1).1
    have ex := (cut_len hc).2
    obtain ⟨m1, m2, m3, m4, m5⟩ := o5
    rw [show (s.2.1 241 (6 * (24 * b + d) + w3.toInt.toNat)).toInt.toNat = yy by omega, show (s.2.1 231 yy).toInt.toNat = pp by omega]
    have tp := hC.2.2.2.2.1 pp
    have tpI : (s.2.1 264 pp).toInt = (x : Int) := by rw [← ex]; unfold tyE; omega
    refine ⟨by omega, by omega, by omega, ?_⟩
    refine Tot.imp (Tot.mono (by omega) (s_185 (d := 0) tp.1)) ?_
    rintro v s2 ⟨es, x8, rfl, hx8⟩
    have es := es.symm
    subst es
    have nxt : ∀ (t' : yS) (a4 : Int32) R19, SFr s t' → w_215_73 (Tot (e + 1)) R19 (fun a1' a2' a3' s' => (a1' = a1 ∧ a2' = z2 ∧ 0 ≤ a3'.toInt ∧ a3'.toInt ≤ 6 ∧ SFr s s') ∧ (100 - a3'.toInt).toNat < (100 - w3.toInt).toNat) a1 z2 w3 a4 t' (fun v s' => v = none ∧ SFr s s') := by
      intro t' a4 R19 tS'
      unfold w_215_73
      exact ⟨by omega, fun x1 hx1 => ⟨⟨rfl, rfl, by omega, by omega, tS'⟩, by omega⟩⟩
    refine ⟨x8, rfl, fun _ => nxt _ _ _ tS, fun hlt8 => ⟨by omega, fun x9 hx9 => ?_⟩⟩
    have hxT : x / 8 < T := by
      rcases vx with w | w
      · omega
      · omega
    refine ⟨by omega, fun _ => nxt _ _ _ tS, fun _ => ⟨by omega, fun x10 hx10 => ⟨by omega, fun x11 hx11 => ⟨by omega, ?_⟩⟩⟩⟩
    rintro s12 rfl
    exact nxt _ _ _ (SFr_sa tS)
  · rintro s1 rfl
    exact ⟨by omega, fun x2 hx2 => ⟨⟨rfl, by omega, by omega, SFr_sa tS⟩, by show (1000 - x2.toInt).toNat < (1000 - z2.toInt).toNat; omega⟩⟩
end SV
