/-! ===== eval ===== -/
section EE
variable {own : Nat → Nat × Nat} {b n W N T F H S0 : Nat} {G : PG} {S O E pl c Vn vt L : Nat} {s : yS} {fo : Option Nat} {fr ev b0 b1 m lo hi : Nat} {As Bs : List (List Nat)}
/-- the way from the node a, typed A', over k points to e, typed A -/
def upC (G : PG) (H b n : Nat) (sc : Nat → Prop) (S O : Nat) (s : yS) (Q : Nat → Nat → Nat → List Nat → Prop) (hi e : Nat) (A : List Nat) : Nat → Nat → List Nat → Prop
  | 0, a, A' => a = e ∧ A' = A
  | k + 1, a, A' => a < e ∧ ∃ (e1 hi1 : Nat) (A1 : List Nat), (s.2.1 228 a).toInt = (e1 : Int) ∧ a < e1 ∧ e1 ≤ e ∧ e1 < hi1 ∧ hi1 ≤ hi ∧ wP G H b n sc S O s Q hi1 e1 A' A1 ∧ okE G sc A1 ∧ upC G H b n sc S O s Q hi e A k e1 A1
theorem upC_le {sc : Nat → Prop} {Q : Nat → Nat → Nat → List Nat → Prop} {e k a : Nat} {A A' : List Nat} (h : upC G H b n sc S O s Q hi e A k a A') : a ≤ e := by
  cases k with
  | zero => exact Nat.le_of_eq h.1
  | succ k => exact Nat.le_of_lt h.1
theorem EvQ_tr {Vn1 vt1 L1 : Nat} {τ : Nat → Option (List Nat)} {A : List Nat} {u u' : yS} {v : Option Value} (hX : RX rK E pl Vn vt s u) (h1 : Vn ≤ Vn1) (h2 : vt ≤ vt1) (h3 : L ≤ L1) (h : EvQ own b n W N T F H S0 G S O E pl c Vn1 vt1 L1 τ A u v u') : EvQ own b n W N T F H S0 G S O E pl c Vn vt L τ A s v u' := by
  obtain ⟨r, e, g0, uX, Vn', vt', L', uR, g1, g2, g3, g4⟩ := h
  exact ⟨r, e, g0, RX_tr hX uX (fun _ w => w) (Nat.le_refl _) (Nat.le_refl _) h1 h2, Vn', vt', L', uR, by omega, by omega, by omega, g4⟩
/-- the points behind the base -/
theorem ev39 {d e k a : Nat} {A A' : List Nat} {a1 a2 a3 a4 a5 : Int32} {u0 : yS} (ih : REH own b n W N T F H S0 G S O c m d) (ih2 : REH own b n W N T F H S0 G S O (c + 1) 11 d) (hd : 4 ≤ d) (hR : RTm own b n W N T F H S0 G S O E pl c Vn vt L s) (hX : RCx G fo E pl Vn vt fr ev b0 As b1 Bs s) (hfo : ∀ f, fo = some f → f < F) (hhi : hi ≤ N) (hN : N ≤ 12006) (hpl : pl + 7 * (m + 1) + 80 * (40 - c) ≤ 4000) (hE : E ≤ c + 1) (he : e < hi) (h1 : a1.toInt = (e : Int)) (h2 : a2.toInt = (fr : Int)) (h3 : a3.toInt = (ev : Int)) (h4 : a4.toInt = (a : Int)) (hu : upC G H b n (scX G fo) S O s (wE G H b n (scX G fo) (tVX G fo) S O s m) hi e A k a A') (hok : okE G (scX G fo) A') (hQ : EvQ own b n W N T F H S0 G S O E pl c Vn vt L (envS b0 As b1 Bs) A' s (some (.int a5)) u0) : wl_240_39 (Tot (d + 2)) a1 a2 a3 a4 a5 u0 (EvQ own b n W N T F H S0 G S O E pl c Vn vt L (envS b0 As b1 Bs) A s) := by
  have hv := RT_vt hR
  have h13 := hR.2.2.2.2.2.2.2.2.2.2.2.2.2.2.1
  have h82 := hR.2.2.2.2.2.2.2.2.2.2.2.2.2.2.2.2.2.1
  have hc40 := hR.2.2.2.2.2.2.2.2.2.2.2.2.2.2.2.2.2.2
  have r17 := hR.2.2.2.2.2.2.2.2.2.2.2.2.2.2.2.2.1
  refine ⟨fun z1 z2 z3 z4 z5 u => z1 = a1 ∧ z2 = a2 ∧ z3 = a3 ∧ ∃ (k a : Nat) (A' : List Nat), z4.toInt = (a : Int) ∧ upC G H b n (scX G fo) S O s (wE G H b n (scX G fo) (tVX G fo) S O s m) hi e A k a A' ∧ okE G (scX G fo) A' ∧ EvQ own b n W N T F H S0 G S O E pl c Vn vt L (envS b0 As b1 Bs) A' s (some (.int z5)) u, fun _ _ _ z4 _ _ => (20000 - z4.toInt).toNat, ⟨rfl, rfl, rfl, k, a, A', h4, hu, hok, hQ⟩, ?_⟩
  clear hQ hok hu h4
  rintro z1 z2 z3 z4 z5 u ⟨e1, e2, e3, k, a, A', h4, hu, hok, hQ⟩
  have e1 := e1.symm
  have e2 := e2.symm
  have e3 := e3.symm
  subst e1 e2 e3
  obtain ⟨r, er, g0, uX, Vn', vt', L', uR, g1, g2, g3, g4⟩ := hQ
  have er' : z5 = r := by
    have := Option.some.inj er
    injection this
  subst er'
  clear er
  have hv' := RT_vt uR
  unfold w_240_39 w_240_77
  refine ⟨fun hend => ?_, fun hmore => ⟨fun hne => ⟨z5, rfl, g0, uX, Vn', vt', L', uR, g1, g2, g3, fun q => absurd q hne⟩, fun h0 => ?_⟩⟩
  · have ea : A' = A := by
      cases k with
      | zero => exact hu.2
      | succ k =>
        have := hu.1
        omega
    subst ea
    exact ⟨z5, rfl, g0, uX, Vn', vt', L', uR, g1, g2, g3, g4⟩
  · cases k with
    | zero =>
      have := hu.1
      omega
    | succ k =>
      obtain ⟨u1, e1, hi1, A1, u2, u3, u4, u5, u6, u7, u8, u9⟩ := hu
      obtain ⟨w0, w1, w2, w3⟩ := g4 h0
      have c228 : u.2.1 228 a = s.2.1 228 a := by rw [RX_row uX (by decide)]
      have c221 : u.2.1 221 e1 = s.2.1 221 e1 := by rw [RX_row uX (by decide)]
      rw [show z4.toInt.toNat = a by omega, c228, show (s.2.1 228 a).toInt.toNat = e1 by omega, c221]
      have uC : RCx G fo E pl Vn' vt' fr ev b0 As b1 Bs u := RCx_rx hX uX r17 (by omega) (Nat.le_refl _) (Nat.le_refl _) g1 g2
      have uP : wP G H b n (scX G fo) S O u (wE G H b n (scX G fo) (tVX G fo) S O u m) hi1 e1 A' A1 := wP_eq (RX_CA (b := b) (n := n) (S := S) (O := O) uX (by omega) (by omega)) (Nat.le_refl _) (Nat.le_refl _) u5 (fun l h e' B _ _ q => wE_eq (Nat.le_refl _) (Nat.le_refl _) (RX_CA (b := b) (n := n) (S := S) (O := O) uX (by omega) (by omega)) q) u7
      have nxt : ∀ (x : Int32) (s1 : yS), EvQ own b n W N T F H S0 G S O E pl c Vn' vt' L' (envS b0 As b1 Bs) A1 u (some (.int x)) s1 → w_240_75 (Tot (d + 2)) (fun z1' z2' z3' z4' z5' u' => (z1' = a1 ∧ z2' = a2 ∧ z3' = a3 ∧ ∃ (k a : Nat) (A' : List Nat), z4'.toInt = (a : Int) ∧ upC G H b n (scX G fo) S O s (wE G H b n (scX G fo) (tVX G fo) S O s m) hi e A k a A' ∧ okE G (scX G fo) A' ∧ EvQ own b n W N T F H S0 G S O E pl c Vn vt L (envS b0 As b1 Bs) A' s (some (.int z5')) u') ∧ (20000 - z4'.toInt).toNat < (20000 - z4.toInt).toNat) a1 a2 a3 (s.2.1 228 a) z5 x s1 (EvQ own b n W N T F H S0 G S O E pl c Vn vt L (envS b0 As b1 Bs) A s) := by
        intro x s1 hq
        unfold w_240_75
        exact ⟨⟨rfl, rfl, rfl, k, e1, A1, u2, u9, u8, EvQ_tr uX g1 g2 g3 hq⟩, by omega⟩
      refine ⟨by omega, by omega, fun h3' => ⟨by omega, fun h4' => ?_, fun h4' => ?_⟩, fun h3' => ?_⟩
      · have h5 : (u.2.1 221 e1).toInt = 5 := by
          rcases uP with ⟨q, -⟩ | ⟨q, -⟩ | ⟨q, -⟩
          · rw [c221] at q; exact absurd q h3'
          · exact q
          · rw [c221] at q; exact absurd q h4'
        refine Tot.imp (Tot.mono (by omega) (s_243 (d := 0) uR (by omega) uC h5 uP (by omega) u2 h3 w1 w2)) ?_
        rintro v s1 hq
        obtain ⟨x, rfl, -⟩ := id hq
        exact ⟨x, rfl, nxt x s1 hq⟩
      · refine Tot.imp (s_244 ih ih2 hd uR uC hfo (by rw [c221]; exact h4') hok uP u5 (by omega) hN hpl hE u2 h2 h3 w1 w2 w3) ?_
        rintro v s1 hq
        obtain ⟨x, rfl, -⟩ := id hq
        exact ⟨x, rfl, nxt x s1 hq⟩
      · refine Tot.imp (Tot.mono (by omega) (s_242 (d := 0) uR uC.2.2.1 hok (by rw [c221]; exact h3') uP (by omega) u2 w1 w2 w3)) ?_
        rintro v s1 hq
        obtain ⟨x, rfl, -⟩ := id hq
        exact ⟨x, rfl, nxt x s1 hq⟩
theorem s_240 {d : Nat} (ih : REH own b n W N T F H S0 G S O c m d) (ih2 : REH own b n W N T F H S0 G S O (c + 1) 11 d) (hd : 4 ≤ d) : REH own b n W N T F H S0 G S O c (m + 1) (d + 3) := by
  intro s a1 a2 a3 fo lo hi e fr ev b0 b1 E pl Vn vt L As Bs A hR hX hfo hwE hhi hN hpl hE h1 h2 h3
  have hv := RT_vt hR
  obtain ⟨p, hp, hw⟩ := hwE
  have he : e < hi := by
    cases p with
    | zero => exact hw.2.1
    | succ p => exact hw.1
  obtain ⟨x1, x2, x3, x4⟩ := id hX
  refine t_240 ?_
  unfold w_240_0
  refine ⟨fun z1 z2 z3 z4 u => u = s ∧ z1 = a1 ∧ z2 = a2 ∧ z3 = a3 ∧ ∃ (p k a hi1 : Nat) (A' : List Nat), z4.toInt = (a : Int) ∧ hi1 ≤ hi ∧ wEp G H b n (scX G fo) (tVX G fo) S O s (wE G H b n (scX G fo) (tVX G fo) S O s m) p lo hi1 a A' ∧ upC G H b n (scX G fo) S O s (wE G H b n (scX G fo) (tVX G fo) S O s m) hi e A k a A', fun _ _ _ z4 _ => z4.toInt.toNat, ⟨rfl, rfl, rfl, rfl, p, 0, e, hi, A, h1, Nat.le_refl _, hw, rfl, rfl⟩, ?_⟩
  rintro z1 z2 z3 z4 u ⟨eu, e1, e2, e3, p, k, a, hi1, A', h4, hh, hp', hu⟩
  have eu := eu.symm
  have e1 := e1.symm
  have e2 := e2.symm
  have e3 := e3.symm
  subst eu e1 e2 e3
  have hale := upC_le hu
  have okA' := (wEp_ok hp').1
  unfold w_240_2
  rw [show z4.toInt.toNat = a by omega]
  refine ⟨by omega, fun hneg => ⟨by omega, fun hs => ?_, fun hvar => ⟨by omega, ?_⟩⟩, fun hpos => ⟨by omega, ?_⟩⟩
  · cases p with
    | succ p =>
      obtain ⟨-, a', A0, q1, -⟩ := hp'
      omega
    | zero =>
      obtain ⟨q1, q2, q3, q4, q5, q6⟩ := hp'
      have h22 : (s.2.1 221 a).toInt = 2 := by
        rcases q4 with ⟨q, -⟩ | ⟨q, -⟩
        · exact absurd q hs
        · exact q
      refine Tot.imp (Tot.mono (by omega) (s_241 ih hd hR hX hfo h22 q4 (by omega) (by omega) hN hpl hE h4 h2 h3)) ?_
      rintro v s1 hq
      obtain ⟨x, rfl, -⟩ := id hq
      exact ⟨x, rfl, ev39 ih ih2 hd hR hX hfo hhi hN hpl hE he h1 h2 h3 h4 hu okA' hq⟩
  · cases p with
    | succ p =>
      obtain ⟨-, a', A0, q1, -⟩ := hp'
      omega
    | zero =>
      obtain ⟨q1, q2, q3, q4, q5, q6⟩ := hp'
      obtain ⟨k0, y1, y2⟩ : ∃ k : Nat, (s.2.1 230 a).toInt = (k : Int) ∧ tVX G fo k = some A' := by
        rcases q4 with ⟨-, q⟩ | ⟨q, -⟩
        · exact q
        · omega
      obtain ⟨y3, w, y4, y5, y6⟩ := x4 k0 A' y2
      refine ⟨by omega, fun x4' hx4 => ⟨by omega, ?_⟩⟩
      rintro s5 rfl
      rw [show x4'.toInt.toNat = fr + k0 by omega]
      obtain ⟨r1, r2, r3, r4, r5, r6, r7, r8, r9, r10, r11, r12, r13, r14, r15, r16, r17, r18, r19⟩ := id hR
      have X5 : RX rK E pl Vn vt s (sf s 102 (s.2.1 278 (fr + k0))) := RX_sf (RX_rf r1.2.2.2.2.1 r1.2.2.2.2.2.1) (by decide)
      refine ev39 ih ih2 hd hR hX hfo hhi hN hpl hE he h1 h2 h3 h4 hu okA' ⟨0, rfl, by decide, X5, Vn, vt, L, RT_rx hR X5 (by decide) r4 r5 r6 r7 r8 r9 r11 r12 r13 (Nat.le_refl _) (Nat.le_refl _) r16 r19, Nat.le_refl _, Nat.le_refl _, Nat.le_refl _, fun _ => ⟨w, y4, y5, ?_⟩⟩
      rw [RX_VT X5 y5 (r17 w y5) (by omega)]
      exact y6
  · cases p with
    | zero =>
      obtain ⟨q1, q2, q3, q4, q5, q6⟩ := hp'
      omega
    | succ p =>
      obtain ⟨q0, a', A0, q1, q2, q3, q4, q5, q6⟩ := hp'
      have hlt : a' < a := by
        cases p with
        | zero => exact q3.2.1
        | succ p => exact q3.1
      refine ⟨⟨rfl, rfl, rfl, rfl, p, k + 1, a', a, A0, q1, by omega, q3, by omega, a, hi1, A', q2, hlt, hale, q0, hh, q4, q5, hu⟩, ?_⟩
      show (s.2.1 227 a).toInt.toNat < z4.toInt.toNat
      omega
theorem REH_mo {d d' : Nat} (h : d ≤ d') (hR : REH own b n W N T F H S0 G S O c m d) : REH own b n W N T F H S0 G S O c m d' := fun s a1 a2 a3 fo lo hi e fr ev b0 b1 E pl Vn vt L As Bs A k1 k2 k3 k4 k5 k6 k7 k8 k9 k10 k11 => Tot.mono h (hR s a1 a2 a3 fo lo hi e fr ev b0 b1 E pl Vn vt L As Bs A k1 k2 k3 k4 k5 k6 k7 k8 k9 k10 k11)
theorem REH_all : ∀ (k c : Nat), c + k = 41 → ∀ m, REH own b n W N T F H S0 G S O c m (4 + 36 * k + 3 * m)
  | 0, c, hc, m => by
    intro s a1 a2 a3 fo lo hi e fr ev b0 b1 E pl Vn vt L As Bs A hR
    have := hR.2.2.2.2.2.2.2.2.2.2.2.2.2.2.2.2.2.2
    omega
  | k + 1, c, hc, 0 => by
    intro s a1 a2 a3 fo lo hi e fr ev b0 b1 E pl Vn vt L As Bs A hR hX hfo hw
    exact absurd hw id
  | k + 1, c, hc, m + 1 => by
    have h1 := REH_all (k + 1) c hc m
    have h2 := REH_all k (c + 1) (by omega) 11
    exact REH_mo (by omega) (s_240 (d := 4 + 36 * (k + 1) + 3 * m) h1 (REH_mo (by omega) h2) (by omega))
end EE
