/-! ===== print: values; print ===== -/
/-- a value can be said -/
def VSy (b T Vn : Nat) (s : yS) : Prop := Vn ≤ 5000 ∧ ∀ v, v < Vn → ∃ (p l x : Nat) (As : List (List Nat)), (s.2.1 275 v).toInt = (p : Int) ∧ (s.2.1 276 v).toInt = (l : Int) ∧ p + l ≤ 200000 ∧ l ≤ 60 ∧ cutT (seg s p l) x As ∧ (∀ y ∈ seg s p l, y / 8 < T) ∧ 0 ≤ (s.2.1 239 (24 * b + x / 8)).toInt ∧ (s.2.1 239 (24 * b + x / 8)).toInt ≤ 6 ∧ ∀ k : Nat, (k : Int) < (s.2.1 239 (24 * b + x / 8)).toInt → ∃ w : Nat, (s.2.1 277 (6 * v + k)).toInt = (w : Int) ∧ w < Vn
def vK : List Nat := [120, 124]
def vR : List Nat := [284, 285, 286, 287]
section PRV
variable {b T Vn : Nat} {s s' s'' : yS}
theorem VSy_eq {ks rs : List Nat} (h : VSy b T Vn s) (hx : eqx ks rs [] s s') (h1 : ∀ q ∈ [239, 264, 275, 276, 277], q ∉ rs) : VSy b T Vn s' := by
  refine ⟨h.1, fun v hv => ?_⟩
  obtain ⟨p, l, x, As, k1, k2, k3, k4, k5, k6, k7, k8, k9⟩ := h.2 v hv
  have e : seg s' p l = seg s p l := seg_eq (fun j _ _ => by rw [hx.2.1 264 (h1 264 (by decide))])
  refine ⟨p, l, x, As, by rw [hx.2.1 275 (h1 275 (by decide))]; exact k1, by rw [hx.2.1 276 (h1 276 (by decide))]; exact k2, k3, k4, by rw [e]; exact k5, by rw [e]; exact k6, by rw [hx.2.1 239 (h1 239 (by decide))]; exact k7, by rw [hx.2.1 239 (h1 239 (by decide))]; exact k8, fun k hk => ?_⟩
  rw [hx.2.1 239 (h1 239 (by decide))] at hk
  rw [hx.2.1 277 (h1 277 (by decide))]
  exact k9 k hk
theorem SAy_v (h : SAy s s') : eqx vK vR [] s s' := eqx_mo h.1 (by decide) (by decide) (by decide)
/-- beginValue -/
theorem s_266 {v m : Nat} {a : Int32} (hN : NMs b T s) (hV : VSy b T Vn s) (hT : TYN s) (hs : sOK s) (ha : a.toInt = (v : Int)) (hv : v < Vn) (hm : (s.1 124).toInt = (m : Int)) (hm2 : m < 1100) : Tot 65 266 [.ref 213, .int a] s (fun r s' => r = none ∧ eqx vK vR [] s s' ∧ sOK s' ∧ (s'.1 124).toInt = (m : Int) + 1 ∧ (s'.2.1 286 m).toInt = (v : Int) ∧ (s'.2.1 287 m).toInt = 0 ∧ (∀ i, ¬ i = m → s'.2.1 286 i = s.2.1 286 i ∧ s'.2.1 287 i = s.2.1 287 i) ∧ ((s.1 120).toInt + 2 ≤ (s'.1 120).toInt ∨ (s'.1 120).toInt = 2000)) := by
  obtain ⟨p, l, x, As, k1, k2, k3, k4, k5, k6, k7, k8, k9⟩ := hV.2 v hv
  have hV5 := hV.1
  refine t_266 ?_
  unfold w_266_0
  refine ⟨fun z1 z2 t => z1 = a ∧ t.1 = s.1 ∧ t.2.2 = s.2.2 ∧ (∀ q, ¬ q = 285 → t.2.1 q = s.2.1 q) ∧ ∃ i : Nat, z2.toInt = (i : Int) ∧ i ≤ l ∧ ∀ j, j < i → t.2.1 285 j = s.2.1 264 (p + j), fun _ z2 _ => (100 - z2.toInt).toNat, ⟨rfl, rfl, rfl, fun _ _ => rfl, 0, rfl, by omega, fun j hj => by omega⟩, ?_⟩
  rintro z1 z2 t ⟨e1, t1, t2, t3, i, i1, i2, i3⟩
  have e1 := e1.symm
  subst e1
  unfold w_266_2
  rw [show a.toInt.toNat = v by omega, t3 275 (by decide), t3 276 (by decide), t3 264 (by decide)]
  refine ⟨by omega, fun hend => ?_, fun hmore => ⟨by omega, by omega, fun x10 hx10 => ⟨by omega, by omega, ?_⟩⟩⟩
  · have ei : i = l := by omega
    have tx : eqx vK vR [] s t := ⟨fun k _ => by rw [t1], fun q hq => t3 q (fun w => hq (by rw [w]; decide)), fun q _ => by rw [t2]⟩
    have ts : sOK t := by unfold sOK at hs ⊢; rw [t1]; exact hs
    have hRW : RWs t 0 (seg s p l) := fun j y hy => by
      have hj : j < l := by
        by_cases q : j < l
        · exact q
        · rw [List.getElem?_eq_none (by rw [seg_len]; omega)] at hy
          cases hy
      rw [seg_get hj] at hy
      have hy := Option.some.inj hy
      unfold tyE at hy
      have := hT (p + j)
      rw [Nat.zero_add, i3 j (by omega)]
      omega
    have hl := (cut_len k5).1
    refine Tot.imp (Tot.mono (by omega) (s_265 (b := b) (T := T) l (seg s p l) 0 t 0 (by rw [seg_len]; exact Nat.le_refl _) (cutT_F k5) k6 hRW (by rw [seg_len]; omega) rfl (NMs_eq hN tx (by decide) (by decide) (by decide)) ts)) ?_
    rintro r u ⟨x3, rfl, -, uS, u1⟩
    refine ⟨x3, rfl, ?_⟩
    refine Tot.imp (Tot.mono (by omega) (s_261' (d := 0) (s := u) uS.2.1)) ?_
    rintro r g ⟨rfl, gS, g1⟩
    refine ⟨rfl, ?_⟩
    have sg := SAy_tr uS gS
    have g124 : g.1 124 = s.1 124 := by rw [sg.1.1 124 (by decide), t1]
    rw [g124]
    refine ⟨by omega, ?_⟩
    rintro s6 rfl
    rw [show (s.1 124).toInt.toNat = m by omega]
    have h124 : (sa g 286 m a).1 124 = s.1 124 := g124
    rw [h124, show (s.1 124).toInt.toNat = m by omega]
    refine ⟨by omega, ?_⟩
    rintro s7 rfl
    have h125 : (sa (sa g 286 m a) 287 m 0).1 124 = s.1 124 := g124
    rw [h125]
    refine ⟨by omega, ?_⟩
    rintro x8 hx8 s9 rfl
    have r86 : ∀ q, q ∈ [286, 287] → g.2.1 q = s.2.1 q := fun q hq => by
      rw [sg.1.2.1 q (fun w => by rw [List.mem_singleton.mp w] at hq; revert hq; decide), t3 q (fun w => by rw [w] at hq; revert hq; decide)]
    refine ⟨rfl, eqx_sf (eqx_sa (eqx_sa (eqx_tr tx (SAy_v sg)) (by decide)) (by decide)) (by decide), sg.2.1, by show x8.toInt = _; omega, ?_, ?_, fun j hj => ⟨?_, ?_⟩, ?_⟩
    · show ((sa (sa g 286 m a) 287 m 0).2.1 286 m).toInt = _
      rw [sa_2, if_neg (fun w => by omega), sa_2, if_pos ⟨rfl, rfl⟩]
      exact ha
    · show ((sa (sa g 286 m a) 287 m 0).2.1 287 m).toInt = _
      rw [sa_2, if_pos ⟨rfl, rfl⟩]
      decide
    · show (sa (sa g 286 m a) 287 m 0).2.1 286 j = _
      rw [sa_2, if_neg (fun w => hj w.2), sa_2, if_neg (fun w => hj w.2), r86 286 (by decide)]
    · show (sa (sa g 286 m a) 287 m 0).2.1 287 j = _
      rw [sa_2, if_neg (fun w => hj w.2), sa_2, if_neg (fun w => hj w.2), r86 287 (by decide)]
    · show (s.1 120).toInt + 2 ≤ (g.1 120).toInt ∨ (g.1 120).toInt = 2000
      have a1 : t.1 120 = s.1 120 := by rw [t1]
      rw [a1] at u1
      have a2 := uS.2.1
      have a3 := gS.2.1
      have a4 := gS.2.2
      unfold sOK at hs
      have a5 := uS.2.2
      rw [a1] at a5
      by_cases c1 : (s.1 120).toInt < 2000
      · have := u1 c1
        by_cases c2 : (u.1 120).toInt < 2000
        · have := g1 c2
          omega
        · omega
      · omega
  · rintro s11 rfl
    rw [show z2.toInt.toNat = i by omega, show x10.toInt.toNat = p + i by omega]
    refine ⟨by omega, fun x12 hx12 => ⟨⟨rfl, t1, t2, fun q hq => ?_, i + 1, by omega, by omega, fun j hj => ?_⟩, by show (100 - x12.toInt).toNat < (100 - z2.toInt).toNat; omega⟩⟩
    · funext j
      rw [sa_2, if_neg (fun w => hq w.1), t3 q hq]
    · rw [sa_2]
      by_cases ej : j = i
      · rw [if_pos ⟨rfl, ej⟩, ej]
      · rw [if_neg (fun w => ej w.2)]
        exact i3 j (by omega)
/-- sayValue -/
theorem s_267 {v : Nat} {a : Int32} (hN : NMs b T s) (hV : VSy b T Vn s) (hT : TYN s) (hs : (s.1 120).toInt = 0) (ha : a.toInt = (v : Int)) (hv : v < Vn) : Tot 66 267 [.ref 213, .int a] s (fun r s' => r = none ∧ eqx vK vR [] s s' ∧ sOK s') := by
  obtain ⟨n1, n2, n3, -⟩ := id hN
  refine t_267 ?_
  unfold w_267_0
  rintro s1 rfl
  have x0 : eqx vK vR [] s (sf s 124 0) := eqx_sf eqx_rf (by decide)
  have np : ∀ f, eqx vK vR [] s f → NMs b T f ∧ VSy b T Vn f ∧ TYN f := fun f hf => ⟨NMs_eq hN hf (by decide) (by decide) (by decide), VSy_eq hV hf (by decide), fun i => by rw [hf.2.1 264 (by decide)]; exact hT i⟩
  refine Tot.imp (s_266 (m := 0) (np _ x0).1 (np _ x0).2.1 (np _ x0).2.2 (by show 0 ≤ (s.1 120).toInt ∧ (s.1 120).toInt ≤ 2000; omega) ha hv rfl (by omega)) ?_
  rintro r t ⟨rfl, tX, tS, t124, t286, t287, -, t120⟩
  refine ⟨rfl, ?_⟩
  have t120 : 2 ≤ (t.1 120).toInt := by
    have e : ((sf s 124 0).1 120).toInt = 0 := hs
    rw [e] at t120
    omega
  refine ⟨fun _ f => eqx vK vR [] s f ∧ sOK f ∧ ∃ m : Nat, (f.1 124).toInt = (m : Int) ∧ (2 * (m : Int) ≤ (f.1 120).toInt + 1 ∨ ((f.1 120).toInt = 2000 ∧ m ≤ 1001)) ∧ ∀ i, i < m → (∃ w : Nat, (f.2.1 286 i).toInt = (w : Int) ∧ w < Vn) ∧ 0 ≤ (f.2.1 287 i).toInt ∧ (f.2.1 287 i).toInt ≤ 100, fun _ f => (3 * (2000 - (f.1 120).toInt) + (f.1 124).toInt).toNat, ⟨eqx_tr x0 tX, tS, 1, by omega, by omega, fun i hi => ?_⟩, ?_⟩
  · have e : i = 0 := by omega
    rw [e, t287, t286]
    exact ⟨⟨v, rfl, hv⟩, by omega, by omega⟩
  · rintro a1 f ⟨fX, fS, m, m1, m2, m3⟩
    unfold w_267_6
    refine ⟨fun _ => ⟨rfl, fX, fS⟩, fun hpos => ?_⟩
    have fS' := fS
    unfold sOK at fS'
    have hm : 1 ≤ m := by omega
    obtain ⟨⟨w, w1, w2⟩, w3, w4⟩ := m3 (m - 1) (by omega)
    obtain ⟨fN, fV, fT⟩ := np f fX
    obtain ⟨p, l, x, As, k1, k2, k3, k4, k5, k6, k7, k8, k9⟩ := fV.2 w w2
    have hVn := fV.1
    have cl := cut_len k5
    have hx : x / 8 < T := k6 x (by rw [k5.1]; exact List.mem_cons_self)
    have e29 : (f.1 29).toInt = (b : Int) := fN.1
    refine ⟨by omega, fun x1 hx1 => ⟨by omega, by omega, fun x2 hx2 => ⟨by omega, by omega, fun x3 hx3 => ?_⟩⟩⟩
    rw [show x1.toInt.toNat = m - 1 by omega, show x2.toInt.toNat = m - 1 by omega, show (f.2.1 286 (m - 1)).toInt.toNat = w by omega, show (f.2.1 275 w).toInt.toNat = p by omega]
    refine ⟨by omega, by omega, ?_⟩
    have ft := fT p
    refine Tot.imp (Tot.mono (by omega) (s_185 (d := 0) ft.1)) ?_
    rintro r g ⟨e, x6, rfl, hx6⟩
    have e := e.symm
    subst e
    have hty : (f.2.1 264 p).toInt = (x : Int) := by
      have := cl.2
      unfold tyE at this
      omega
    rw [hty] at hx6
    refine ⟨x6, rfl, by omega, fun x7 hx7 => ⟨by omega, ?_⟩⟩
    rw [show x7.toInt.toNat = 24 * b + x / 8 by omega]
    have pop : w_267_74 (Tot 65) (fun a1' f' => (eqx vK vR [] s f' ∧ sOK f' ∧ ∃ m : Nat, (f'.1 124).toInt = (m : Int) ∧ (2 * (m : Int) ≤ (f'.1 120).toInt + 1 ∨ ((f'.1 120).toInt = 2000 ∧ m ≤ 1001)) ∧ ∀ i, i < m → (∃ w : Nat, (f'.2.1 286 i).toInt = (w : Int) ∧ w < Vn) ∧ 0 ≤ (f'.2.1 287 i).toInt ∧ (f'.2.1 287 i).toInt ≤ 100) ∧ (3 * (2000 - (f'.1 120).toInt) + (f'.1 124).toInt).toNat < (3 * (2000 - (f.1 120).toInt) + (f.1 124).toInt).toNat) a1 (f.2.1 286 (m - 1)) (f.2.1 287 (m - 1)) f (fun r s' => r = none ∧ eqx vK vR [] s s' ∧ sOK s') := by
      unfold w_267_74 w_267_83
      refine Tot.imp (Tot.mono (by omega) (s_261' (d := 0) (s := f) fS)) ?_
      rintro r g ⟨rfl, gS, -⟩
      have g124 : g.1 124 = f.1 124 := gS.1.1 124 (by decide)
      rw [g124]
      refine ⟨rfl, by omega, ?_⟩
      rintro x3 hx3 s4 rfl
      have q1 := gS.2.1
      have q2 := gS.2.2
      refine ⟨⟨eqx_sf (eqx_tr fX (SAy_v gS)) (by decide), gS.2.1, m - 1, by show x3.toInt = _; omega, by show 2 * ((m - 1 : Nat) : Int) ≤ (g.1 120).toInt + 1 ∨ ((g.1 120).toInt = 2000 ∧ m - 1 ≤ 1001); omega, fun i hi => ?_⟩, by show (3 * (2000 - (g.1 120).toInt) + x3.toInt).toNat < _; omega⟩
      show (∃ w : Nat, (g.2.1 286 i).toInt = (w : Int) ∧ w < Vn) ∧ 0 ≤ (g.2.1 287 i).toInt ∧ (g.2.1 287 i).toInt ≤ 100
      rw [gS.1.2.1 286 (by decide), gS.1.2.1 287 (by decide)]
      exact m3 i (by omega)
    refine ⟨fun _ => pop, fun hlt => ⟨fun _ => pop, fun hout => ?_⟩⟩
    clear pop
    have push : ∀ g : yS, SAy f g → (g.1 120).toInt < 2000 ∨ (f.1 120).toInt < (g.1 120).toInt → w_267_52 (Tot 65) (fun a1' f' => (eqx vK vR [] s f' ∧ sOK f' ∧ ∃ m : Nat, (f'.1 124).toInt = (m : Int) ∧ (2 * (m : Int) ≤ (f'.1 120).toInt + 1 ∨ ((f'.1 120).toInt = 2000 ∧ m ≤ 1001)) ∧ ∀ i, i < m → (∃ w : Nat, (f'.2.1 286 i).toInt = (w : Int) ∧ w < Vn) ∧ 0 ≤ (f'.2.1 287 i).toInt ∧ (f'.2.1 287 i).toInt ≤ 100) ∧ (3 * (2000 - (f'.1 120).toInt) + (f'.1 124).toInt).toNat < (3 * (2000 - (f.1 120).toInt) + (f.1 124).toInt).toNat) a1 (f.2.1 286 (m - 1)) (f.2.1 287 (m - 1)) g (fun r s' => r = none ∧ eqx vK vR [] s s' ∧ sOK s') := by
      intro g gS hg
      have q1 := gS.2.1
      have q2 := gS.2.2
      have g124 : g.1 124 = f.1 124 := gS.1.1 124 (by decide)
      have g287 : g.2.1 287 = f.2.1 287 := gS.1.2.1 287 (by decide)
      have g286 : g.2.1 286 = f.2.1 286 := gS.1.2.1 286 (by decide)
      have g277 : g.2.1 277 = f.2.1 277 := gS.1.2.1 277 (by decide)
      unfold w_267_52 w_267_83
      rw [g124, g287]
      refine ⟨by omega, fun x1' hx1' => ⟨by omega, ?_⟩⟩
      rw [show x1'.toInt.toNat = m - 1 by omega]
      refine ⟨by omega, fun x2' hx2' => ⟨by omega, ?_⟩⟩
      rintro s3 rfl
      obtain ⟨k, hk⟩ : ∃ k : Nat, (f.2.1 287 (m - 1)).toInt = (k : Int) := ⟨(f.2.1 287 (m - 1)).toInt.toNat, by omega⟩
      obtain ⟨w', v1, v2⟩ := k9 k (by omega)
      refine ⟨by omega, fun x4 hx4 => ⟨by omega, fun x5 hx5 => ⟨by omega, ?_⟩⟩⟩
      have r77 : (sa g 287 (m - 1) x2').2.1 277 x5.toInt.toNat = f.2.1 277 (6 * w + k) := by
        rw [sa_2, if_neg (fun e => by omega), g277, show x5.toInt.toNat = 6 * w + k by omega]
      rw [r77]
      have hX : eqx vK vR [] s (sa g 287 (m - 1) x2') := eqx_sa (eqx_tr fX (SAy_v gS)) (by decide)
      obtain ⟨hN', hV', hT'⟩ := np _ hX
      refine Tot.imp (s_266 (m := m) hN' hV' hT' gS.2.1 v1 v2 (by show (g.1 124).toInt = _; rw [g124]; exact m1) (by omega)) ?_
      rintro r h ⟨rfl, hx', hs', h124, h286, h287, hoth, h120⟩
      have h120 : (g.1 120).toInt + 2 ≤ (h.1 120).toInt ∨ (h.1 120).toInt = 2000 := h120
      unfold sOK at hs'
      refine ⟨rfl, ⟨eqx_tr hX hx', hs', m + 1, by omega, by omega, fun i hi => ?_⟩, by omega⟩
      by_cases ei : i = m
      · rw [ei, h286, h287]
        exact ⟨⟨w', rfl, v2⟩, by omega, by omega⟩
      · rw [(hoth i ei).1, (hoth i ei).2]
        have c1 : (sa g 287 (m - 1) x2').2.1 286 i = f.2.1 286 i := by rw [sa_2, if_neg (fun e => by omega), g286]
        rw [c1]
        refine ⟨(m3 i (by omega)).1, ?_⟩
        rw [sa_2]
        split
        · omega
        · rw [g287]
          exact (m3 i (by omega)).2
    refine ⟨fun _ => push f (SAy_rf fS) (Or.inl (by omega)), fun _ => ?_⟩
    refine Tot.imp (Tot.mono (by omega) (s_261' (d := 0) (s := f) fS)) ?_
    rintro r g ⟨rfl, gS, g1⟩
    have := g1 (by omega)
    exact ⟨rfl, push g gS (Or.inr (by omega))⟩
/-- print -/
def pnK : List Nat := [0, 120, 124]
theorem s_268 {a : Int32} (hG : ¬ (s.1 90).toInt = 0 → NMs b T s ∧ TYN s ∧ (∃ A : List Nat, isF 1 A ∧ (∀ x ∈ A, x / 8 < T) ∧ A.length ≤ 60 ∧ (s.2.1 274 b).toInt = (A.length : Int) ∧ ∀ i, i < A.length → (s.2.1 273 (60 * b + i)).toInt = (A.getD i 0 : Nat)) ∧ ((s.1 91).toInt = 0 → VSy b T Vn s ∧ ∃ w : Nat, (s.1 103).toInt = (w : Int) ∧ w < Vn)) (hs : sOK s) : Tot 67 268 [.ref 213, .int a] s (fun v s' => ∃ r : Int32, v = some (.int r) ∧ eqx pnK vR [] s s' ∧ sOK s') := by
  refine t_268 ?_
  unfold w_268_0
  rintro s1 rfl
  have x1 : eqx pnK vR [] s (sf s 0 0) := eqx_sf eqx_rf (by decide)
  have out : w_268_17 (Tot 66) a (sf s 0 0) (fun v s' => ∃ r : Int32, v = some (.int r) ∧ eqx pnK vR [] s s' ∧ sOK s') := ⟨-1, rfl, x1, hs⟩
  refine ⟨fun _ => out, fun h90 => ⟨fun _ => out, fun h0 => ⟨fun _ => out, fun h1 => ?_⟩⟩⟩
  obtain ⟨hN, hT, ⟨A, A1, A2, A3, A4, A5⟩, hR⟩ := hG h90
  have go : (a.toInt = 1 → (s.1 91).toInt = 0) → w_268_19 (Tot 66) a (sf s 0 0) (fun v s' => ∃ r : Int32, v = some (.int r) ∧ eqx pnK vR [] s s' ∧ sOK s') := by
    intro h91
    unfold w_268_19
    rintro s2 rfl
    have x2 : eqx pnK vR [] s (sf (sf s 0 0) 120 0) := eqx_sf x1 (by decide)
    have N2 := NMs_eq hN x2 (by decide) (by decide) (by decide)
    refine ⟨fun _ => ?_, fun e1 => ?_⟩
    · refine ⟨fun _ z2 t => t.1 = (sf (sf s 0 0) 120 0).1 ∧ t.2.2 = s.2.2 ∧ (∀ q, ¬ q = 285 → t.2.1 q = s.2.1 q) ∧ ∃ i : Nat, z2.toInt = (i : Int) ∧ i ≤ A.length ∧ ∀ j, j < i → t.2.1 285 j = s.2.1 273 (60 * b + j), fun _ z2 _ => (100 - z2.toInt).toNat, ⟨rfl, rfl, fun _ _ => rfl, 0, rfl, by omega, fun j hj => by omega⟩, ?_⟩
      rintro z1 z2 t ⟨t1, t2, t3, i, i1, i2, i3⟩
      have t29 : (t.1 29).toInt = (b : Int) := by rw [t1]; exact hN.1
      have hb := hN.2.1
      unfold w_268_34
      rw [show (t.1 29).toInt.toNat = b by omega, t3 274 (by decide), t3 273 (by decide), t29]
      refine ⟨by omega, fun hend => ?_, fun hmore => ⟨by omega, fun x4 hx4 => ⟨by omega, fun x5 hx5 => ⟨by omega, by omega, ?_⟩⟩⟩⟩
      · have ei : i = A.length := by omega
        have tx : eqx pnK vR [] s t := ⟨fun k hk => by rw [t1]; exact x2.1 k hk, fun q hq => t3 q (fun w => hq (by rw [w]; decide)), fun q _ => by rw [t2]⟩
        have ts : sOK t := by unfold sOK; rw [t1]; exact ⟨(show (0 : Int) ≤ (0 : Int32).toInt by decide), (show (0 : Int32).toInt ≤ 2000 by decide)⟩
        have hRW : RWs t 0 A := fun j y hy => by
          have hj : j < A.length := by
            by_cases q : j < A.length
            · exact q
            · rw [List.getElem?_eq_none (by omega)] at hy
              cases hy
          rw [Nat.zero_add, i3 j (by omega), A5 j hj, List.getD_eq_getElem?_getD, hy]
          rfl
        refine Tot.imp (Tot.mono (by omega) (s_265 (b := b) (T := T) A.length A 0 t 0 (Nat.le_refl _) A1 A2 hRW (by omega) rfl (NMs_eq hN tx (by decide) (by decide) (by decide)) ts)) ?_
        rintro r u ⟨x3, rfl, -, uS, -⟩
        exact ⟨x3, rfl, _, rfl, eqx_tr tx (eqx_mo uS.1 (by decide) (by decide) (by decide)), uS.2.1⟩
      · rintro s6 rfl
        rw [show z2.toInt.toNat = i by omega, show x5.toInt.toNat = 60 * b + i by omega]
        refine ⟨by omega, fun x7 hx7 => ⟨⟨t1, t2, fun q hq => ?_, i + 1, by omega, by omega, fun j hj => ?_⟩, by show (100 - x7.toInt).toNat < (100 - z2.toInt).toNat; omega⟩⟩
        · funext j
          rw [sa_2, if_neg (fun w => hq w.1), t3 q hq]
        · rw [sa_2]
          by_cases ej : j = i
          · rw [if_pos ⟨rfl, ej⟩, ej]
          · rw [if_neg (fun w => ej w.2)]
            exact i3 j (by omega)
    · obtain ⟨hV, w, w1, w2⟩ := hR (h91 e1)
      refine Tot.imp (s_267 (s := sf (sf s 0 0) 120 0) N2 (VSy_eq hV x2 (by decide)) hT rfl w1 w2) ?_
      rintro r u ⟨rfl, uX, uS⟩
      exact ⟨rfl, _, rfl, eqx_tr x2 (eqx_mo uX (by decide) (by decide) (by decide)), uS⟩
  exact ⟨fun hne => go (fun w => absurd w hne), fun _ => ⟨fun h91 => go (fun _ => h91), fun _ => out⟩⟩
end PRV
