theorem s_177 {b n W m d : Nat} {e : Int32} {s : yS} (hE : EP b n W m (d + 3)) (hY : YP b n W m (d + 3)) (hL : Lx b n W s) (hR : Rd b n s) (hg : sgAt s 46) (hD : (s.1 27).toInt = 10 - (m : Int)) (hm : m ≤ 10) (hN : 4002 * (b : Int) ≤ (s.1 26).toInt) (hd : 3 * ((s.1 26).toInt - 4002 * (b : Int)) - 2 * ((s.1 7).toInt - 4002 * (b : Int)) ≤ 58 - 4 * (m : Int)) (he : 0 ≤ e.toInt ∧ e.toInt < (s.1 26).toInt) : Tot (d + 5) 177 [.ref 213, .int e] s (fun v s' => v = some (.int (s.1 26)) ∧ BI b n m e s s') := by
  have hb := hL.1
  have hn := hL.2.1
  have hf := hg.1
  have hA0 := hR.2.2.2.2 hf
  have hin := Lx_in hL hR hf (by rw [hg.2.1]; decide)
  have hNb : (s.1 26).toInt ≤ 4002 * (b : Int) + 2690 := by omega
  refine t_177 ?_
  unfold w_177_0
  refine ⟨by omega, ?_⟩
  rintro x1 hx1 s2 rfl
  have r1 := Rd_at hR hx1 hin hb hn
  have f1 : Fr (s.1 26).toInt.toNat s (sf s 7 x1) := Fr_sf Fr_rf (by decide)
  have l1 := Fr_Lx f1 hL
  -- the new node, made at a state u that is s but for its at and fault
  have mk : ∀ (u : yS) (t1 : Int32) (P : Option Value → yS → Prop), u.1 26 = s.1 26 → u.1 27 = s.1 27 → Fr (s.1 26).toInt.toNat s u → u.2 = s.2 → (∀ w : yS, Fr (s.1 26).toInt.toNat (sa s 228 e.toInt.toNat (s.1 26)) w → (w.1 26).toInt = (s.1 26).toInt + 1 → (∀ k, k ≠ 26 → w.1 k = u.1 k) → w.2.1 221 (s.1 26).toInt.toNat = t1 → w.2.1 222 (s.1 26).toInt.toNat = u.1 7 → w.2.1 224 (s.1 26).toInt.toNat = -1 → w.2.1 225 (s.1 26).toInt.toNat = -1 → w.2.1 226 (s.1 26).toInt.toNat = 0 → w.2.1 229 (s.1 26).toInt.toNat = -1 → w.2.1 230 (s.1 26).toInt.toNat = 0 → w.2.1 227 (s.1 26).toInt.toNat = e → w.2.1 223 (s.1 26).toInt.toNat = s.1 7 → cm b w = cm b s + (if t1.toInt = 4 then 1 else 0) → P none w) → Tot (d + 4) 171 [.ref 213, .int t1] u (fun v2 s1 => ∃ x3, v2 = some (.int x3) ∧ x3 = s.1 26 ∧ ((0 ≤ x3.toInt ∧ x3.toInt < 12006) ∧ (∀ s4, s4 = sa s1 227 x3.toInt.toNat e → (0 ≤ e.toInt ∧ e.toInt < 12006) ∧ (∀ s5, s5 = sa s4 228 e.toInt.toNat x3 → (0 ≤ x3.toInt ∧ x3.toInt < 12006) ∧ (∀ s6, s6 = sa s5 223 x3.toInt.toNat (s.1 7) → P none s6))))) := by
    intro u t1 P u26 u27 uF u2 hP
    refine Tot.imp (Tot.mono (by omega) (s_171 (d := 0) (s := u) (a := t1) (by rw [u26]; omega))) ?_
    rintro v s3 ⟨rfl, hw⟩
    have hcm := cm_nw (b := b) hw (by rw [u26]; exact hN)
    rw [show cm b u = cm b s by show cMr (u.2.1 221) _ (u.1 26).toInt.toNat = _; rw [u2, u26]] at hcm
    rw [u26] at hw ⊢
    refine ⟨_, rfl, rfl, by omega, ?_⟩
    rintro s4 rfl
    refine ⟨by omega, ?_⟩
    rintro s5 rfl
    refine ⟨by omega, ?_⟩
    rintro s6 rfl
    obtain ⟨n1, n2, n3, n4⟩ := nw3 (e := e) (p := s.1 7) (k26 := s.1 26) hw (by omega)
    obtain ⟨w0, w1, -, -, w21, w22, w24, w25, w26, w27, w28, w29, w30⟩ := hw
    refine hP _ (Fr_tr (Fr_both uF) n1 ⟨Nat.le_refl _, rfl⟩) (by rw [← u26]; exact w0) w1 (by rw [n2 _ (by decide)]; exact w21) (by rw [n2 _ (by decide)]; exact w22) (by rw [n2 _ (by decide)]; exact w24) (by rw [n2 _ (by decide)]; exact w25) (by rw [n2 _ (by decide)]; exact w26) (by rw [n2 _ (by decide)]; exact w29) (by rw [n2 _ (by decide)]; exact w30) n3 n4 (by rw [cm_sa (by decide), cm_sa (by decide), cm_sa (by decide)]; exact hcm)
  refine Tot.imp (Tot.mono (by omega) (s_168 (d := 0) (c := 40) l1 r1)) ?_
  rintro v s2 ⟨y, rfl, hy⟩
  refine ⟨y, rfl, fun h0 => ?_, fun h0 => ?_⟩
  · have e2 : s2 = sf s 7 x1 := by
      rcases hy with hy | hy
      · omega
      · exact hy.2.2
    subst e2
    -- FIELD or METHOD
    have go93 : ∀ (u : yS) (a3 t1 : Int32), u.1 26 = s.1 26 → u.1 27 = s.1 27 → Fr (s.1 26).toInt.toNat s u → u.2 = s.2 → u.1 7 = x1 → Rd b n u → ((u.1 8).toInt = 0 → nmAt u) → ((a3.toInt = 0 ∧ t1 = 3) ∨ (¬ a3.toInt = 0 ∧ t1 = 4 ∧ (u.1 8).toInt = 0)) → w_177_93 (Tot (d + 4)) e (s.1 7) a3 t1 u (fun v s' => v = some (.int (s.1 26)) ∧ BI b n m e s s') := by
      intro u a3 t1 u26 u27 uF u2 u7 ru hu8 h3
      unfold w_177_93
      refine Tot.imp (mk u t1 (fun _ s6 => (-2147483648 ≤ (s6.1 7).toInt + 1 ∧ (s6.1 7).toInt + 1 ≤ 2147483647) ∧ (∀ x7 : Int32, x7.toInt = (s6.1 7).toInt + 1 → ∀ s8, s8 = sf s6 7 x7 → (a3.toInt = 0 → w_177_160 (Tot (d + 4)) e (s.1 7) a3 (s.1 26) s8 (fun v s' => v = some (.int (s.1 26)) ∧ BI b n m e s s')) ∧ (¬ (a3.toInt = 0) → Tot (d + 4) 164 [.ref 213, .int 91] s8 (fun v10 s9 => ∃ x11, v10 = some (.int x11) ∧ ((x11.toInt = 0 → w_177_136 (Tot (d + 4)) e (s.1 7) a3 (s.1 26) s9 (fun v s' => v = some (.int (s.1 26)) ∧ BI b n m e s s')) ∧ (¬ (x11.toInt = 0) → Tot (d + 4) 174 [.ref 213] s9 (fun v13 s12 => ∃ x14, v13 = some (.int x14) ∧ ((0 ≤ (s.1 26).toInt ∧ (s.1 26).toInt < 12006) ∧ (∀ s15, s15 = sa s12 229 (s.1 26).toInt.toNat x14 → (0 ≤ (s.1 26).toInt ∧ (s.1 26).toInt < 12006) ∧ (∀ s16, s16 = sa s15 230 (s.1 26).toInt.toNat (s15.1 28) → w_177_136 (Tot (d + 4)) e (s.1 7) a3 (s.1 26) s16 (fun v s' => v = some (.int (s.1 26)) ∧ BI b n m e s s'))))))))))) u26 u27 uF u2 ?_) ?_
      · intro w wF w26 wk w21 w22 w24 w25 w26' w29 w30 w27 w23 wcm
        have w7 : w.1 7 = x1 := (wk 7 (by decide)).trans u7
        have w8 : w.1 8 = u.1 8 := wk 8 (by decide)
        have wd : w.1 27 = s.1 27 := (wk 27 (by decide)).trans u27
        refine ⟨by rw [w7]; omega, ?_⟩
        rintro x7 hx7 s8 rfl
        rw [w7] at hx7
        have fW : Fr (s.1 26).toInt.toNat (sa s 228 e.toInt.toNat (s.1 26)) (sf w 7 x7) := Fr_sf wF (by decide)
        have hLw := Fr_228 fW b n W hL
        have in2 : (u.1 8).toInt = 0 → x1.toInt < 4002 * (b : Int) + n ∧ tkN b n (sf w 7 x7) x1.toInt := by
          intro q
          have hm := hu8 q
          have := Lx_in (Fr_Lx uF hL) ru q (by rw [hm.2.1]; decide)
          rw [u7] at this
          refine ⟨this, by omega, this, ?_, ?_⟩
          · rw [Fr_row fW (by decide : (215 : Nat) ∉ ndB), show (sa s 228 e.toInt.toNat (s.1 26)).2.1 215 = u.2.1 215 from by rw [u2]; funext j; rw [sa_2, if_neg (fun e => by omega)], ← u7]
            exact hm.2.1
          · rw [Fr_row fW (by decide : (217 : Nat) ∉ ndB), show (sa s 228 e.toInt.toNat (s.1 26)).2.1 217 = u.2.1 217 from by rw [u2]; funext j; rw [sa_2, if_neg (fun e => by omega)], ← u7]
            exact hm.2.2
        have rW : Rd b n (sf w 7 x7) := by
          refine ⟨?_, ?_, by show 0 ≤ x7.toInt; omega, by show x7.toInt ≤ 13000; omega, fun q => ?_⟩
          · show 0 ≤ (w.1 8).toInt
            rw [w8]
            exact ru.1
          · show (w.1 8).toInt ≤ 70000
            rw [w8]
            exact ru.2.1
          · have q : (w.1 8).toInt = 0 := q
            rw [w8] at q
            have := in2 q
            show _ ≤ x7.toInt ∧ x7.toInt ≤ _
            omega
        refine ⟨fun q3 => ?_, fun q3 => ?_⟩
        · unfold w_177_160
          refine ⟨rfl, rW, fW, wd, by show _ ≤ (w.1 26).toInt; omega, fun q => ?_, fun q => ⟨by show (w.1 26).toInt ≤ _; omega, by show x7.toInt ≤ _; omega⟩⟩
          have q : (w.1 8).toInt = 0 := q
          rw [w8] at q
          have h31 := (h3.resolve_right (fun q => q.1 q3)).2
          rw [h31, if_neg (by decide)] at wcm
          refine ⟨by show (3 * (w.1 26).toInt - 2 * x7.toInt ≤ _) ∧ (4 * (cm b w : Int) - x7.toInt ≤ _); omega, by show _ < x7.toInt; omega, by show (w.2.1 225 _).toInt = -1; rw [w25]; decide, w27, by show _ ≤ (w.2.1 223 _).toInt; rw [w23]; omega, by show (w.2.1 223 _).toInt < _; rw [w23]; omega, Or.inl ⟨by show (w.2.1 221 _).toInt = 3; rw [w21, h31]; decide, ?_⟩⟩
          show tkN b n (sf w 7 x7) (w.2.1 222 _).toInt
          rw [w22, u7]
          exact (in2 q).2
        · have h31 := h3.resolve_left (fun q => q3 q.1)
          rw [h31.2.1, if_pos (by decide)] at wcm
          have q8 : (w.1 8).toInt = 0 := by rw [w8]; exact h31.2.2
          have i2 := in2 h31.2.2
          refine Tot.imp (Tot.mono (by omega) (s_164 (d := 0) (c := 91) hLw rW)) ?_
          rintro v s5 ⟨rfl, x11, rfl, hx⟩
          have base : tkN b n (sf w 7 x7) ((sf w 7 x7).2.1 222 (s.1 26).toInt.toNat).toInt := by
            show tkN b n (sf w 7 x7) (w.2.1 222 _).toInt
            rw [w22, u7]
            exact i2.2
          refine ⟨x11, rfl, fun _ => ?_, fun h11 => ?_⟩
          · refine b136 hE hL hR hD hm hN hd hf he ⟨rW, fW, wd, by show _ ≤ (w.1 26).toInt; omega, fun _ => ⟨by show (3 * (w.1 26).toInt - 2 * x7.toInt ≤ _) ∧ (4 * (cm b w : Int) - x7.toInt ≤ _); omega, by show _ < x7.toInt; omega, by show (w.2.1 225 _).toInt = -1; rw [w25]; decide, w27, by show _ ≤ (w.2.1 223 _).toInt; rw [w23]; omega, by show (w.2.1 223 _).toInt < _; rw [w23]; omega, by show (w.2.1 221 _).toInt = 4; rw [w21, h31.2.1]; decide, base, by show (w.2.1 224 _).toInt = -1; rw [w24]; decide, by show (w.2.1 226 _).toInt = 0; rw [w26']; decide, [], by decide, by show (w.2.1 230 _).toInt = 0; rw [w30]; decide, by show (w.2.1 229 _).toInt = -1; rw [w29]; decide, List.Pairwise.nil, fun c hc => by cases hc⟩, fun q => absurd q8 q⟩
          · have hx := hx.resolve_right (fun q => h11 q.1)
            have q26 : (sf w 7 x7).1 26 = w.1 26 := rfl
            have q7 : (sf w 7 x7).1 7 = x7 := rfl
            refine Tot.imp (Tot.mono (by omega) (s_174 (d := d) (s := sf w 7 x7) hY hLw rW hx.2 (by show (w.1 27).toInt = _; rw [wd]; exact hD) hm (by rw [q26]; omega) (by rw [q26, q7]; omega))) ?_
            rintro v s12 ⟨rfl, y1, y2, y3, y4, y5, y6⟩
            have qc : cm b (sf w 7 x7) = cm b w := rfl
            rw [q26] at y2 y4 y5
            rw [q7, qc] at y5
            refine ⟨_, rfl, by omega, ?_⟩
            rintro s15 rfl
            refine ⟨by omega, ?_⟩
            rintro s16 rfl
            rw [q26]
            have f12 : Fr (s.1 26).toInt.toNat (sa s 228 e.toInt.toNat (s.1 26)) s12 := Fr_tr fW y2 (by omega)
            have fT := Fr_sa (v := (sa s12 229 (s.1 26).toInt.toNat (w.1 26)).1 28) (Fr_sa (v := w.1 26) f12 (by decide : (229 : Nat) ∈ ndB) ⟨Nat.le_refl _, rfl⟩) (by decide : (230 : Nat) ∈ ndB) ⟨Nat.le_refl _, rfl⟩
            refine b136 hE hL hR hD hm hN hd hf he ⟨y1, fT, y3.trans wd, by show _ ≤ (s12.1 26).toInt; omega, fun q => ?_, fun q => by have := y6 q; exact ⟨by show (s12.1 26).toInt ≤ _; omega, by show (s12.1 7).toInt ≤ _; omega⟩⟩
            obtain ⟨k1, k2, cs, k3, k4, k5, k6, k7, k8⟩ := y5 q
            have keep : ∀ p, ¬ p = 229 → ¬ p = 230 → (sa (sa s12 229 (s.1 26).toInt.toNat (w.1 26)) 230 (s.1 26).toInt.toNat ((sa s12 229 (s.1 26).toInt.toNat (w.1 26)).1 28)).2.1 p (s.1 26).toInt.toNat = w.2.1 p (s.1 26).toInt.toNat := by
              intro p p1 p2
              rw [sa_2, if_neg (fun h => p2 h.1), sa_2, if_neg (fun h => p1 h.1), Fr_at y2 (by omega)]
              rfl
            have r15 : (sa (sa s12 229 (s.1 26).toInt.toNat (w.1 26)) 230 (s.1 26).toInt.toNat ((sa s12 229 (s.1 26).toInt.toNat (w.1 26)).1 28)).2.1 215 = (sf w 7 x7).2.1 215 := by
              rw [Fr_row fT (by decide), Fr_row fW (by decide)]
            have r17 : (sa (sa s12 229 (s.1 26).toInt.toNat (w.1 26)) 230 (s.1 26).toInt.toNat ((sa s12 229 (s.1 26).toInt.toNat (w.1 26)).1 28)).2.1 217 = (sf w 7 x7).2.1 217 := by
              rw [Fr_row fT (by decide), Fr_row fW (by decide)]
            refine ⟨by show (3 * (s12.1 26).toInt - 2 * (s12.1 7).toInt ≤ _) ∧ (4 * (cm b s12 : Int) - (s12.1 7).toInt ≤ _); omega, by show _ < (s12.1 7).toInt; omega, by rw [keep 225 (by decide) (by decide), w25]; decide, by rw [keep 227 (by decide) (by decide)]; exact w27, by rw [keep 223 (by decide) (by decide), w23]; omega, by rw [keep 223 (by decide) (by decide), w23]; omega, by rw [keep 221 (by decide) (by decide), w21, h31.2.1]; decide, by rw [keep 222 (by decide) (by decide)]; exact tkN_eq r15 r17 base, by rw [keep 224 (by decide) (by decide), w24]; decide, by rw [keep 226 (by decide) (by decide), w26']; decide, cs, k4, ?_, ?_, k7, fun c hc => ?_⟩
            · rw [sa_2, if_pos ⟨rfl, rfl⟩]
              exact k5
            · rw [sa_2, if_neg (fun e => by omega), sa_2, if_pos ⟨rfl, rfl⟩]
              refine chn_eq (s := s12) cs _ (fun c hc => ?_) k6
              rw [sa_2, if_neg (fun e => by omega), sa_2, if_neg (fun e => by omega)]
            · obtain ⟨v0, h, v1, v2, v3⟩ := k8 c hc
              refine ⟨by omega, h, v1, v2, ?_⟩
              refine isY_mono (m + 1) 11 h h c (by omega) (Nat.le_refl _) (isY_eq2 (s := s12) (by rw [r15, Fr_row y2 (by decide)]) (by rw [r17, Fr_row y2 (by decide)]) (fun z z1 z2 => ?_) v3)
              have ne : NE s12 (sa (sa s12 229 (s.1 26).toInt.toNat (w.1 26)) 230 (s.1 26).toInt.toNat ((sa s12 229 (s.1 26).toInt.toNat (w.1 26)).1 28)) z := NE_sa (NE_sa (fun _ => rfl) (by omega)) (by omega)
              exact ⟨NE_SR ne, fun _ => ne 225⟩
      · rintro v s3 ⟨x3, rfl, rfl, q1, q2⟩
        exact ⟨_, rfl, q1, q2⟩
    refine Tot.imp (Tot.mono (by omega) (s_166 (d := 0) l1 r1)) ?_
    rintro v s3 ⟨rfl, x8, rfl, h8⟩
    refine ⟨x8, rfl, fun q8 => ?_, fun q8 => ?_⟩
    · have h8 := (h8.resolve_right (fun q => q8 q.1)).2
      have in3 := Lx_in l1 r1 hf (by rw [h8.2.1]; decide)
      have in3' : x1.toInt < 4002 * (b : Int) + n := in3
      have k85 : w_177_85 (Tot (d + 4)) e (s.1 7) (sf s 7 x1) (fun v s' => v = some (.int (s.1 26)) ∧ BI b n m e s s') := by
        unfold w_177_85
        exact ⟨fun _ => go93 _ 0 3 rfl rfl f1 rfl rfl r1 (fun _ => h8) (Or.inl ⟨by decide, rfl⟩), fun q => absurd (show (0 : Int32).toInt = 0 by decide) q⟩
      have k83 : w_177_83 (Tot (d + 4)) e (s.1 7) (sf s 7 x1) (fun v s' => v = some (.int (s.1 26)) ∧ BI b n m e s s') := by
        unfold w_177_83
        exact ⟨fun q => absurd q (by decide), fun q => go93 _ 1 4 rfl rfl f1 rfl rfl r1 (fun _ => h8) (Or.inr ⟨q, rfl, hf⟩)⟩
      have e7 : (sf s 7 x1).1 7 = x1 := rfl
      unfold w_177_53
      rw [e7]
      exact ⟨fun _ => k85, fun _ => ⟨by omega, fun x1' h1' => ⟨by omega, fun _ => k85, fun _ => ⟨by omega, fun x2' h2' => ⟨by omega, fun _ => k83, fun _ => ⟨by omega, fun x3' h3' => ⟨by omega, fun _ => k85, fun _ => k83⟩⟩⟩⟩⟩⟩⟩
    · refine Tot.imp (Tot.mono (by omega) (s_163 (d := 0) (w := 1) l1 (by decide) (fun q => r1.2.2.2.2 q))) ?_
      rintro v s10 ⟨rfl, -, g2⟩
      obtain ⟨z, w1, w2, rfl⟩ := g2 hf
      refine ⟨rfl, ?_⟩
      have rz := Rd_ft r1 w1 w2
      have z0 : ¬ z.toInt = 0 := by omega
      refine ⟨fun _ => ?_, fun q => absurd (show z.toInt = 0 from q) z0⟩
      unfold w_177_85
      exact ⟨fun _ => go93 _ 0 3 rfl rfl (Fr_sf f1 (by decide)) rfl rfl rz (fun q => absurd (show z.toInt = 0 from q) z0) (Or.inl ⟨by decide, rfl⟩), fun q => absurd (show (0 : Int32).toInt = 0 by decide) q⟩
  · obtain ⟨hsg, x', hx', hlt', rfl⟩ := (hy.resolve_right (fun q => h0 q.1)).2
    have r2 := Rd_at r1 hx' hlt' hb hn
    have hx2 : x'.toInt = x1.toInt + 1 := hx'
    have hlt2 : x1.toInt < 4002 * (b : Int) + n := hlt'
    have f2 : Fr (s.1 26).toInt.toNat s (sf (sf s 7 x1) 7 x') := Fr_sf f1 (by decide)
    refine Tot.imp (mk (sf (sf s 7 x1) 7 x') 5 (fun _ s16 => Tot (d + 4) 173 [.ref 213] s16 (fun v18 s17 => ∃ x19, v18 = some (.int x19) ∧ ((0 ≤ (s.1 26).toInt ∧ (s.1 26).toInt < 12006) ∧ (∀ s20, s20 = sa s17 229 (s.1 26).toInt.toNat x19 → Tot (d + 4) 167 [.ref 213, .int 41] s20 (fun v22 s21 => v22 = none ∧ ((some (Value.int (s.1 26))) = some (.int (s.1 26)) ∧ BI b n m e s s21)))))) rfl rfl f2 rfl ?_) ?_
    · intro w wF w26 wk w21 w22 w24 w25 w26' w29 w30 w27 w23 wcm
      rw [if_neg (by decide)] at wcm
      have w7 : w.1 7 = x' := wk 7 (by decide)
      have w8 : w.1 8 = s.1 8 := wk 8 (by decide)
      have wd : w.1 27 = s.1 27 := wk 27 (by decide)
      have hLw := Fr_228 wF b n W hL
      have rW : Rd b n w := by
        unfold Rd at r2 ⊢
        rw [w7, w8]
        exact r2
      refine Tot.imp (Tot.mono (by omega) (hY w hLw rW (by rw [w8]; exact hf) (by rw [wd]; exact hD) hm (by omega) (by rw [w7]; omega))) ?_
      rintro v s17 ⟨rfl, y1, y2, y3, y4, y5, y6⟩
      refine ⟨_, rfl, by omega, ?_⟩
      rintro s20 rfl
      have f17 : Fr (s.1 26).toInt.toNat (sa s 228 e.toInt.toNat (s.1 26)) s17 := Fr_tr wF y2 (by omega)
      have fT := Fr_sa (v := w.1 26) f17 (by decide : (229 : Nat) ∈ ndB) ⟨Nat.le_refl _, rfl⟩
      refine Tot.imp (Tot.mono (by omega) (bEnd (m := m) (d := 0) (u := sa s17 229 (s.1 26).toInt.toNat (w.1 26)) hL hR hN (by omega) ⟨y1, fT, y3.trans wd, by show _ ≤ (s17.1 26).toInt; omega, fun q => ?_, fun q => by have := y6 q; exact ⟨by show (s17.1 26).toInt ≤ _; omega, by show (s17.1 7).toInt ≤ _; omega⟩⟩)) ?_
      · obtain ⟨k1, k2, k3, k4, k5⟩ := y5 q
        rw [w7] at k1 k2
        have keep : ∀ p, ¬ p = 229 → (sa s17 229 (s.1 26).toInt.toNat (w.1 26)).2.1 p (s.1 26).toInt.toNat = w.2.1 p (s.1 26).toInt.toNat := by
          intro p p1
          rw [sa_2, if_neg (fun h => p1 h.1), Fr_at y2 (by omega)]
        refine ⟨by show (3 * (s17.1 26).toInt - 2 * (s17.1 7).toInt ≤ _) ∧ (4 * (cm b s17 : Int) - (s17.1 7).toInt ≤ _); omega, by show _ < (s17.1 7).toInt; omega, by rw [keep 225 (by decide), w25]; decide, by rw [keep 227 (by decide)]; exact w27, by rw [keep 223 (by decide), w23]; omega, by rw [keep 223 (by decide), w23]; omega, Or.inr (Or.inl ⟨by rw [keep 221 (by decide), w21]; decide, (w.1 26).toInt.toNat, ?_, by omega, ?_⟩)⟩
        · rw [sa_2, if_pos ⟨rfl, rfl⟩]
          omega
        · refine isY_mono (m + 1) 11 _ _ _ (by omega) (Nat.le_refl _) (isY_eq2 (s := s17) (by rw [Fr_row fT (by decide), Fr_row f17 (by decide)]) (by rw [Fr_row fT (by decide), Fr_row f17 (by decide)]) (fun z z1 z2 => ?_) k5)
          have ne : NE s17 (sa s17 229 (s.1 26).toInt.toNat (w.1 26)) z := NE_sa (fun _ => rfl) (by omega)
          exact ⟨NE_SR ne, fun _ => ne 225⟩
      · rintro v s21 ⟨rfl, q⟩
        exact ⟨rfl, rfl, q⟩
    · rintro v s3 ⟨x3, rfl, rfl, q1, q2⟩
      exact ⟨_, rfl, q1, q2⟩
