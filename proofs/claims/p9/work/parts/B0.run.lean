/-! ===== run ===== -/
def rK : List Nat := [64, 71, 72, 73, 74, 92, 93, 94, 95, 97, 98, 102, 105, 106, 107, 108]
/-- what a run changes from a state on: envs from E on, the pile from pl on, values from Vn on, ty from vt on -/
def RX (ks : List Nat) (E pl Vn vt : Nat) (s s' : yS) : Prop := (∀ k, k ∉ ks → s'.1 k = s.1 k) ∧ (∀ q i, ¬ (q = 264 ∧ (vt ≤ i ∧ i < 20000 ∨ 100000 ≤ i)) → ¬ ((q = 265 ∨ q = 266) ∧ 2 * E ≤ i) → ¬ ((q = 267 ∨ q = 268) ∧ 12 * E ≤ i) → ¬ ((q = 275 ∨ q = 276) ∧ Vn ≤ i) → ¬ (q = 277 ∧ 6 * Vn ≤ i) → ¬ (q = 278 ∧ pl ≤ i) → s'.2.1 q i = s.2.1 q i) ∧ s'.2.2 = s.2.2 ∧ TYN s' ∧ GC s'
def rR : List Nat := [264, 265, 266, 267, 268, 275, 276, 277, 278]
section RXS
variable {ks ks' : List Nat} {E E' pl pl' Vn Vn' vt vt' : Nat} {s s' s'' : yS}
theorem RX_rf (hT : TYN s) (hG : GC s) : RX ks E pl Vn vt s s := ⟨fun _ _ => rfl, fun _ _ _ _ _ _ _ _ => rfl, rfl, hT, hG⟩
theorem RX_tr (h : RX ks E pl Vn vt s s') (h' : RX ks' E' pl' Vn' vt' s' s'') (hk : ∀ k, k ∈ ks' → k ∈ ks) (hE : E ≤ E') (hp : pl ≤ pl') (hV : Vn ≤ Vn') (ht : vt ≤ vt') : RX ks E pl Vn vt s s'' := ⟨fun k w => (h'.1 k (fun w' => w (hk k w'))).trans (h.1 k w), fun q i w1 w2 w3 w4 w5 w6 => (h'.2.1 q i (fun w => w1 ⟨w.1, by omega⟩) (fun w => w2 ⟨w.1, by omega⟩) (fun w => w3 ⟨w.1, by omega⟩) (fun w => w4 ⟨w.1, by omega⟩) (fun w => w5 ⟨w.1, by omega⟩) (fun w => w6 ⟨w.1, by omega⟩)).trans (h.2.1 q i w1 w2 w3 w4 w5 w6), h'.2.2.1.trans h.2.2.1, h'.2.2.2⟩
theorem RX_mo (h : RX ks' E' pl' Vn' vt' s s') (hk : ∀ k, k ∈ ks' → k ∈ ks) (hE : E ≤ E') (hp : pl ≤ pl') (hV : Vn ≤ Vn') (ht : vt ≤ vt') : RX ks E pl Vn vt s s' := ⟨fun k w => h.1 k (fun w' => w (hk k w')), fun q i w1 w2 w3 w4 w5 w6 => h.2.1 q i (fun w => w1 ⟨w.1, by omega⟩) (fun w => w2 ⟨w.1, by omega⟩) (fun w => w3 ⟨w.1, by omega⟩) (fun w => w4 ⟨w.1, by omega⟩) (fun w => w5 ⟨w.1, by omega⟩) (fun w => w6 ⟨w.1, by omega⟩), h.2.2⟩
theorem RX_sf {k : Nat} {v : Int32} (h : RX ks E pl Vn vt s s') (hk : k ∈ ks) : RX ks E pl Vn vt s (sf s' k v) := ⟨fun j hj => by
  rw [sf_1, if_neg (fun w => hj (by rw [w]; exact hk))]
  exact h.1 j hj, h.2⟩
theorem RX_row {q : Nat} (h : RX ks E pl Vn vt s s') (hq : q ∉ rR) : s'.2.1 q = s.2.1 q := by
  unfold rR at hq
  simp only [List.mem_cons, List.not_mem_nil, or_false, not_or] at hq
  funext i
  exact h.2.1 q i (fun w => by omega) (fun w => by omega) (fun w => by omega) (fun w => by omega) (fun w => by omega) (fun w => by omega)
theorem RX_xf (h : XF ks 100000 E s s') : RX ks E pl Vn vt s s' := ⟨h.1, fun q i w1 w2 w3 _ _ _ => h.2.1 q i (fun w => w1 ⟨w.1, Or.inr w.2⟩) w2 w3, h.2.2⟩
theorem RX_seg {p l : Nat} (h : RX ks E pl Vn vt s s') (hp : p + l ≤ vt) (hv : vt ≤ 20000) : seg s' p l = seg s p l := seg_eq (fun i _ _ => h.2.1 264 i (fun w => by omega) (fun w => by omega) (fun w => by omega) (fun w => by omega) (fun w => by omega) (fun w => by omega))
theorem RX_NL {b n N : Nat} (h : RX ks E pl Vn vt s s') : NL b n N s s' := by
  have r : ∀ q, q ∉ rR → s'.2.1 q = s.2.1 q := fun q hq => RX_row h hq
  refine ⟨fun t _ _ => ⟨by rw [r 215 (by decide)], by rw [r 217 (by decide)]⟩, fun x _ _ => ⟨⟨by rw [r 221 (by decide)], by rw [r 222 (by decide)], by rw [r 223 (by decide)], by rw [r 224 (by decide)], by rw [r 227 (by decide)], by rw [r 229 (by decide)], fun _ => by rw [r 226 (by decide)], fun _ => by rw [r 230 (by decide)]⟩, by rw [r 225 (by decide)], by rw [r 228 (by decide)]⟩, fun p i hp _ _ => ?_⟩
  rw [r p ((show ∀ p ∈ tbR, p ∉ rR by decide) p hp)]
theorem RX_CK {own : Nat → Nat × Nat} {b n N T F H S0 : Nat} {G : PG} (h : CK own b n N T F H S0 G s) (hw : RX ks E pl Vn vt s s') (h75 : 75 ∉ ks) (hv : 13000 ≤ vt) : CK own b n N T F H S0 G s' := by
  have hS := h.2.2.2.2.2.2.2.2.2
  have hb := h.1.1
  have h8 : S0 ≤ 8210 := z41 hS hb
  exact CK_eq h (RX_NL hw) (fun y _ _ _ => ⟨by rw [RX_row hw (by decide)], by rw [RX_row hw (by decide)]⟩) (fun j hj => hw.2.1 264 j (fun w => by omega) (fun w => by omega) (fun w => by omega) (fun w => by omega) (fun w => by omega) (fun w => by omega)) (fun i _ _ => by rw [RX_row hw (by decide)]) hw.2.2.2.1 hw.2.2.2.2 (by rw [hw.1 75 h75]; exact h.2.2.2.2.2.2.1)
theorem RX_CA {b n lo hi S O : Nat} (h : RX ks E pl Vn vt s s') (hS : S ≤ vt) (hv : vt ≤ 20000) : CA b n lo hi S O s s' := by
  refine ⟨fun q hq x _ _ => by rw [RX_row h ((show ∀ q ∈ wR, q ∉ rR by decide) q hq)], fun t _ _ => by rw [RX_row h (by decide)], fun j j1 j2 => ?_, fun j _ _ => by rw [RX_row h (by decide)]⟩
  exact h.2.1 264 j (fun w => by omega) (fun w => by omega) (fun w => by omega) (fun w => by omega) (fun w => by omega) (fun w => by omega)
theorem RX_EV {e b0 b1 : Nat} {As Bs : List (List Nat)} (h : EV s e vt b0 As b1 Bs) (hw : RX ks E pl Vn vt s s') (he : e < E) (hv : vt ≤ 20000) (hv' : vt ≤ vt') : EV s' e vt' b0 As b1 Bs := by
  have cell : ∀ q i, (q = 265 ∨ q = 266) ∧ i < 2 * E ∨ (q = 267 ∨ q = 268) ∧ i < 12 * E ∨ q = 264 ∧ i < vt → s'.2.1 q i = s.2.1 q i := fun q i hq => hw.2.1 q i (fun w => by omega) (fun w => by omega) (fun w => by omega) (fun w => by omega) (fun w => by omega) (fun w => by omega)
  exact ⟨EVg_mv h.1 (cell _ _ (by omega)) (cell _ _ (by omega)) (fun a ha => ⟨cell _ _ (by omega), cell _ _ (by omega)⟩) (fun j hj => cell _ _ (by omega)) hv', EVg_mv h.2 (cell _ _ (by omega)) (cell _ _ (by omega)) (fun a ha => ⟨cell _ _ (by omega), cell _ _ (by omega)⟩) (fun j hj => cell _ _ (by omega)) hv'⟩
end RXS
/-- a value's TYPE -/
def VT (s : yS) (v : Nat) : List Nat := seg s (s.2.1 275 v).toInt.toNat (s.2.1 276 v).toInt.toNat
/-- value v stands: its TYPE is a struct's, closed, within its bounds; its parts are older values, each below its field's TYPE -/
def VOK (G : PG) (b S vt : Nat) (s : yS) (v : Nat) : Prop := ∃ (p l x : Nat) (As : List (List Nat)), (s.2.1 275 v).toInt = (p : Int) ∧ (s.2.1 276 v).toInt = (l : Int) ∧ (p + l ≤ vt ∧ ((10 + 4100 * b ≤ p ∧ p + l ≤ S) ∨ 13000 ≤ p)) ∧ l ≤ 60 ∧ cutT (seg s p l) x As ∧ okE G sc0 (seg s p l) ∧ x / 8 < gT G ∧ ¬ gst G (x / 8) = 0 ∧ wEnv G (scDg G (x / 8)) (envS (1000 + 6 * (x / 8)) As 0 []) ∧ ∀ k, k < gfd G (x / 8) → ∃ w : Nat, (s.2.1 277 (6 * v + k)).toInt = (w : Int) ∧ w < v ∧ impl G (VT s w) (subs (envS (1000 + 6 * (x / 8)) As 0 []) (gft G (x / 8) k))
/-- all functions are typed -/
def PT (b n N F H : Nat) (G : PG) (S O : Nat) (s : yS) : Prop := ∀ f, f < F → ∃ (e l h : Nat) (A : List Nat), (s.2.1 258 (60 * b + f)).toInt = (e : Int) ∧ 4002 * b ≤ l ∧ h ≤ N ∧ wE G H b n (scX G (some f)) (tVX G (some f)) S O s 11 l h e A ∧ impl G A (ght G (gfh G f))
def RTm (own : Nat → Nat × Nat) (b n W N T F H S0 : Nat) (G : PG) (S O E pl c Vn vt L : Nat) (s : yS) : Prop := CK own b n N T F H S0 G s ∧ Lx b n W s ∧ PT b n N F H G S O s ∧ (s.1 70).toInt = (E : Int) ∧ (s.1 105).toInt = (pl : Int) ∧ (s.1 106).toInt = (c : Int) ∧ (s.1 98).toInt = (Vn : Int) ∧ (s.1 97).toInt = (vt : Int) ∧ (s.1 95).toInt = (L : Int) ∧ (s.1 96).toInt ≤ 5000 ∧ (L : Int) ≤ (s.1 96).toInt ∧ (0 ≤ (s.1 94).toInt ∧ (s.1 94).toInt ≤ 60000) ∧ (0 ≤ (s.1 93).toInt ∧ (s.1 93).toInt ≤ (L : Int)) ∧ Vn ≤ L ∧ 13000 ≤ vt ∧ vt ≤ 13000 + L ∧ (∀ v, v < Vn → VOK G b S vt s v) ∧ S ≤ 8210 ∧ c ≤ 40
section RTS2
variable {own : Nat → Nat × Nat} {b n W N T F H S0 : Nat} {G : PG} {S O E pl c Vn vt L : Nat} {ks : List Nat} {s s' : yS}
theorem RX_VT {v E' pl' : Nat} (hw : RX ks E' pl' Vn vt s s') (hv : v < Vn) (h : VOK G b S vt s v) (ht : vt ≤ 20000) : VT s' v = VT s v := by
  obtain ⟨p, l, x, As, h1, h2, h3, -⟩ := h
  have e1 : s'.2.1 275 v = s.2.1 275 v := hw.2.1 275 v (fun w => by omega) (fun w => by omega) (fun w => by omega) (fun w => by omega) (fun w => by omega) (fun w => by omega)
  have e2 : s'.2.1 276 v = s.2.1 276 v := hw.2.1 276 v (fun w => by omega) (fun w => by omega) (fun w => by omega) (fun w => by omega) (fun w => by omega) (fun w => by omega)
  unfold VT
  rw [e1, e2]
  exact RX_seg hw (by omega) ht
theorem RX_VOK {v vt' E' pl' : Nat} (h6 : ∀ d, d < gT G → gfd G d ≤ 6) (hw : RX ks E' pl' Vn vt s s') (hall : ∀ v, v < Vn → VOK G b S vt s v) (hv : v < Vn) (ht : vt ≤ 20000) (hvt : vt ≤ vt') : VOK G b S vt' s' v := by
  obtain ⟨p, l, x, As, h1, h2, h3, h4, h5, h6', h7, h8, h9, h10⟩ := hall v hv
  have cell : ∀ q i, (q = 275 ∨ q = 276) ∧ i < Vn ∨ q = 277 ∧ i < 6 * Vn → s'.2.1 q i = s.2.1 q i := fun q i hq => hw.2.1 q i (fun w => by omega) (fun w => by omega) (fun w => by omega) (fun w => by omega) (fun w => by omega) (fun w => by omega)
  have h66 := h6 _ h7
  refine ⟨p, l, x, As, by rw [cell 275 v (by omega)]; exact h1, by rw [cell 276 v (by omega)]; exact h2, by omega, h4, by rw [RX_seg hw h3.1 ht]; exact h5, by rw [RX_seg hw h3.1 ht]; exact h6', h7, h8, h9, fun k hk => ?_⟩
  obtain ⟨w, w1, w2, w3⟩ := h10 k hk
  refine ⟨w, by rw [cell 277 (6 * v + k) (by omega)]; exact w1, w2, ?_⟩
  rw [RX_VT hw (by omega) (hall w (by omega)) ht]
  exact w3
theorem RT_vt (h : RTm own b n W N T F H S0 G S O E pl c Vn vt L s) : vt ≤ 18000 ∧ L ≤ 5000 := by
  obtain ⟨h1, h2, h3, h4, h5, h6, h7, h8, h9, h10, h11, h12, h13, h14, h15, h16, h17, h18, h19⟩ := h
  omega
/-- the same run, further -/
theorem RT_rx {E' pl' c' vt' L' E2 pl2 : Nat} (h : RTm own b n W N T F H S0 G S O E pl c Vn vt L s) (hw : RX ks E2 pl2 Vn vt s s') (hk : 75 ∉ ks ∧ 96 ∉ ks) (h70 : (s'.1 70).toInt = (E' : Int)) (h105 : (s'.1 105).toInt = (pl' : Int)) (h106 : (s'.1 106).toInt = (c' : Int)) (h98 : (s'.1 98).toInt = (Vn : Int)) (h97 : (s'.1 97).toInt = (vt' : Int)) (h95 : (s'.1 95).toInt = (L' : Int)) (hL : (L' : Int) ≤ (s'.1 96).toInt) (h94 : 0 ≤ (s'.1 94).toInt ∧ (s'.1 94).toInt ≤ 60000) (h93 : 0 ≤ (s'.1 93).toInt ∧ (s'.1 93).toInt ≤ (L' : Int)) (hLL : L ≤ L') (hvt : vt ≤ vt') (hvt2 : vt' ≤ 13000 + L') (hc : c' ≤ 40) : RTm own b n W N T F H S0 G S O E' pl' c' Vn vt' L' s' := by
  have hv := RT_vt h
  obtain ⟨h1, h2, h3, h4, h5, h6, h7, h8, h9, h10, h11, h12, h13, h14, h15, h16, h17, h18, h19⟩ := h
  refine ⟨RX_CK h1 hw hk.1 h15, Lx_eq h2 (RX_row hw (by decide)) (RX_row hw (by decide)) (RX_row hw (by decide)), fun f hf => ?_, h70, h105, h106, h98, h97, h95, by rw [hw.1 96 hk.2]; exact h10, hL, h94, h93, by omega, by omega, hvt2, fun v hv' => RX_VOK (fun d hd => (h1.2.2.2.2.2.2.2.2.1.2.1 d hd).2.1) hw h17 hv' (by omega) hvt, h18, hc⟩
  obtain ⟨e, l, hh, A, k1, k2, k3, k4, k5⟩ := h3 f hf
  exact ⟨e, l, hh, A, by rw [RX_row hw (by decide)]; exact k1, k2, k3, wE_eq (Nat.le_refl _) (Nat.le_refl _) (RX_CA hw (by omega) (by omega)) k4, k5⟩
theorem subs_lt {τ : Nat → Option (List Nat)} (h0 : ∀ c, c < 1000 → τ c = none) : ∀ {L : List Nat}, (∀ x ∈ L, x / 8 < 1000) → subs τ L = L
  | [], _ => rfl
  | x :: L, h => by
    rw [subs_cons, sub_none (h0 _ (h x List.mem_cons_self)), subs_lt h0 (fun y hy => h y (List.mem_cons_of_mem _ hy))]
    rfl
def pfK : List Nat := [64, 71, 72, 94, 95, 97, 107, 108]
/-- how putForRun ends, what it takes -/
def ptQ (Ly : List Nat) (N : Nat) (r : Int) (s s' : yS) : Prop := ((∀ x ∈ Ly, x / 8 < 1000) ∧ r = 0 ∧ usd 0 s s') ∨ ((¬ ∀ x ∈ Ly, x / 8 < 1000) ∧ ((60 < N ∧ r = 4 ∧ usd 0 s s') ∨ (N ≤ 60 ∧ (N : Int) ≤ lft s ∧ r = 0 ∧ usd (N : Int) s s') ∨ (N ≤ 60 ∧ lft s < (N : Int) ∧ r = 2 ∧ usd (lft s) s s')))
theorem usd_0 {s s' : yS} (h1 : s'.1 95 = s.1 95) (h2 : s'.1 94 = s.1 94) : usd 0 s s' := by
  unfold usd
  rw [h1, h2]
  omega
theorem s_239 {d y ev b0 b1 : Nat} {As Bs : List (List Nat)} {Ly : List Nat} {sc : Nat → Prop} {a1 a2 : Int32} (hR : RTm own b n W N T F H S0 G S O E pl c Vn vt L s) (hE : E ≤ 290) (hy : wT G b sc S s y Ly) (h1 : a1.toInt = (y : Int)) (h2 : a2.toInt = (ev : Int)) (hev : ev < E) (hV : EV s ev vt b0 As b1 Bs) (hτ : wEnv G sc (envS b0 As b1 Bs)) : Tot (d + 3) 239 [.ref 213, .int a1, .int a2] s (fun v s' => ∃ r : Int32, v = some (.int r) ∧ RX pfK E pl Vn vt s s' ∧ ∃ vt' L' : Nat, RTm own b n W N T F H S0 G S O E pl c Vn vt' L' s' ∧ vt ≤ vt' ∧ L ≤ L' ∧ (0 ≤ r.toInt) ∧ (r.toInt = 0 → ∃ p : Nat, (s'.1 107).toInt = (p : Int) ∧ (s'.1 108).toInt = ((subs (envS b0 As b1 Bs) Ly).length : Int) ∧ (subs (envS b0 As b1 Bs) Ly).length ≤ 60 ∧ (p + (subs (envS b0 As b1 Bs) Ly).length ≤ vt' ∧ ((10 + 4100 * b ≤ p ∧ p + (subs (envS b0 As b1 Bs) Ly).length ≤ S) ∨ 13000 ≤ p)) ∧ seg s' p (subs (envS b0 As b1 Bs) Ly).length = subs (envS b0 As b1 Bs) Ly) ∧ ptQ Ly (subs (envS b0 As b1 Bs) Ly).length r.toInt s s') := by
  have hv := RT_vt hR
  obtain ⟨r1, r2, r3, r4, r5, r6, r7, r8, r9, r10, r11, r12, r13, r14, r15, r16, r17, r18, r19⟩ := id hR
  obtain ⟨d1, d2, d3, d4, d5, d6, d7, d8, d9, d10⟩ := id r1
  obtain ⟨p, l, n1, n2, n3, n4, n5, n6⟩ := hy
  obtain ⟨m1, m2, m3, m4, m5⟩ := id n1
  obtain ⟨τ, hτe⟩ : ∃ τ, τ = envS b0 As b1 Bs := ⟨_, rfl⟩
  rw [← hτe] at hτ ⊢
  have hLl : Ly.length = l := by rw [← n4, seg_len]
  have e1 : a1.toInt.toNat = y := by omega
  refine t_239 ?_
  unfold w_239_0
  rw [e1]
  refine ⟨by omega, ?_⟩
  rintro s1 rfl
  refine ⟨by omega, ?_⟩
  rintro s2 rfl
  obtain ⟨t, ht⟩ : ∃ t, t = sf (sf s 107 (s.2.1 231 y)) 108 ((sf s 107 (s.2.1 231 y)).2.1 232 y) := ⟨_, rfl⟩
  rw [← ht]
  have t2 : t.2 = s.2 := by rw [ht]; rfl
  have tk : ∀ k, ¬ k = 107 → ¬ k = 108 → t.1 k = s.1 k := fun k k1 k2 => by rw [ht, sf_1, if_neg k2, sf_1, if_neg k1]
  have t107 : (t.1 107).toInt = (p : Int) := by rw [ht]; exact m2
  have t108 : (t.1 108).toInt = (l : Int) := by rw [ht]; exact m3
  have tX : RX pfK E pl Vn vt s t := ⟨fun k hk => tk k (fun w => hk (by rw [w]; decide)) (fun w => hk (by rw [w]; decide)), fun q i _ _ _ _ _ _ => by rw [t2], by rw [t2], fun i => by rw [t2]; exact d5 i, fun i => by rw [t2]; exact d6 i⟩
  clear ht
  have tT : TYN t := fun i => by rw [t2]; exact d5 i
  refine Tot.imp (Tot.mono (by omega) (s_238 (d := 0) (p := p) (l := l) tT t107 t108 (by omega))) ?_
  rintro v t' ⟨es, x5, rfl, h5⟩
  have es := es.symm
  subst es
  have same : ∀ k, k ∈ [70, 105, 106, 98, 97, 95, 96, 94, 93] → t.1 k = s.1 k := fun k hk => tk k (fun w => by rw [w] at hk; revert hk; decide) (fun w => by rw [w] at hk; revert hk; decide)
  have RTt : RTm own b n W N T F H S0 G S O E pl c Vn vt L t := RT_rx hR tX (by decide) (by rw [same 70 (by decide)]; exact r4) (by rw [same 105 (by decide)]; exact r5) (by rw [same 106 (by decide)]; exact r6) (by rw [same 98 (by decide)]; exact r7) (by rw [same 97 (by decide)]; exact r8) (by rw [same 95 (by decide)]; exact r9) (by rw [same 96 (by decide)]; exact r11) (by rw [same 94 (by decide)]; exact r12) (by rw [same 93 (by decide)]; exact r13) (Nat.le_refl _) (Nat.le_refl _) r16 r19
  refine ⟨x5, rfl, fun h50 => ?_, fun h50 => ⟨0, rfl, tX, vt, L, RTt, Nat.le_refl _, Nat.le_refl _, by decide, (fun _ => ?_), Or.inl ⟨?_, by decide, usd_0 (same 95 (by decide)) (same 94 (by decide))⟩⟩⟩
  · have hnp : ¬ ∀ x ∈ Ly, x / 8 < 1000 := by
      have := (h5.resolve_right (fun w => h50 w.1)).2
      rw [seg_2 t2, n4] at this
      exact this
    rintro s6 rfl
    have e107 : (sf t 64 100000).1 107 = t.1 107 := rfl
    have e108 : (sf t 64 100000).1 108 = t.1 108 := rfl
    rw [e107, e108]
    have uV : EV (sf t 64 100000) ev vt b0 As b1 Bs := RX_EV (s := s) hV (RX_sf (k := 64) (v := 100000) tX (by decide)) hev (by omega) (Nat.le_refl _)
    have segu : seg (sf t 64 100000) p l = Ly := by
      rw [← n4]
      exact seg_2 (s := s) (by show t.2 = s.2; exact t2)
    refine Tot.imp (Tot.mono (by omega) (s_191 (d := 0) (e := ev) (P := 100000) tT (fun i => by show 0 ≤ (t.2.1 265 i).toInt ∧ (t.2.1 265 i).toInt ≤ 10000; rw [t2]; exact d6 i) (by show (100000 : Int32).toInt = _; decide) (EV_top uV (by omega)) (by omega) t107 t108 h2 (by omega) (by omega))) ?_
    rintro v u ⟨x9, rfl, hPF, hk2, hr⟩
    rw [segu, ← hτe] at hr
    have uX0 : RX pfK E pl Vn vt s u := by
      refine RX_tr (RX_sf (k := 64) (v := 100000) tX (by decide)) (RX_xf (ks := [64, 71, 72]) ⟨hk2, fun q i h1 _ _ => hPF.1 q i (fun w => h1 ⟨w.1, w.2.1⟩), hPF.2.1, hPF.2.2, fun i => ?_⟩) (by decide) (Nat.le_refl _) (Nat.le_refl _) (Nat.le_refl _) (Nat.le_refl _)
      rw [hPF.1 265 i (fun w => by omega)]
      show 0 ≤ (t.2.1 265 i).toInt ∧ (t.2.1 265 i).toInt ≤ 10000
      rw [t2]
      exact d6 i
    have uk : ∀ k, k ∉ [64, 71, 72] → u.1 k = t.1 k := fun k hk => by
      rw [hk2 k hk, sf_1, if_neg (fun w => hk (by rw [w]; decide))]
    have uks : ∀ k, k ∈ [70, 105, 106, 98, 97, 95, 96, 94, 93] → u.1 k = s.1 k := fun k hk => by rw [uk k (by clear same; revert k; decide), same k hk]
    have RTu : RTm own b n W N T F H S0 G S O E pl c Vn vt L u := RT_rx hR uX0 (by decide) (by rw [uks 70 (by decide)]; exact r4) (by rw [uks 105 (by decide)]; exact r5) (by rw [uks 106 (by decide)]; exact r6) (by rw [uks 98 (by decide)]; exact r7) (by rw [uks 97 (by decide)]; exact r8) (by rw [uks 95 (by decide)]; exact r9) (by rw [uks 96 (by decide)]; exact r11) (by rw [uks 94 (by decide)]; exact r12) (by rw [uks 93 (by decide)]; exact r13) (Nat.le_refl _) (Nat.le_refl _) r16 r19
    refine ⟨x9, rfl, fun hx9 => ?_, fun hx9 => ⟨4, rfl, uX0, vt, L, RTu, Nat.le_refl _, Nat.le_refl _, by decide, (fun w => absurd w (by decide)), Or.inr ⟨hnp, Or.inl ⟨?_, by decide, usd_0 (uks 95 (by decide)) (uks 94 (by decide))⟩⟩⟩⟩
    rotate_left
    · rcases hr with hr | hr
      · exact hr.2.2
      · omega
    obtain ⟨-, M, q1, q2, q3, q4, q5, q6⟩ := hr.resolve_left (fun w => hx9 w.1)
    have q3' : (u.1 71).toInt = 100000 := by rw [q3]; show (100000 : Int32).toInt = _; decide
    refine Tot.imp (Tot.mono (by omega) (s_237 (d := 0) (m := M) q4 (by omega) (by rw [uks 95 (by decide), uks 96 (by decide)]; omega) (by rw [uks 96 (by decide)]; exact r10) (by rw [uks 94 (by decide)]; exact r12))) ?_
    rintro v w ⟨X1, X3, r, rfl, rfl, g1, g2, g3, g4, g5⟩
    rw [uks 96 (by decide)] at g2
    rw [uks 95 (by decide)] at g1
    rw [uks 94 (by decide)] at g3
    rw [uks 95 (by decide), uks 94 (by decide)] at g5
    obtain ⟨z, hz⟩ : ∃ z, z = sf (sf u 95 X1) 94 X3 := ⟨_, rfl⟩
    rw [← hz]
    have z2 : z.2 = u.2 := by rw [hz]; rfl
    have z95 : z.1 95 = X1 := by rw [hz]; rfl
    have z94 : z.1 94 = X3 := by rw [hz]; rfl
    have zk : ∀ k, ¬ k = 95 → ¬ k = 94 → z.1 k = u.1 k := fun k k1 k2 => by rw [hz, sf_1, if_neg k2, sf_1, if_neg k1]
    have zX : RX pfK E pl Vn vt s z := by rw [hz]; exact RX_sf (RX_sf uX0 (by decide)) (by decide)
    clear hz
    obtain ⟨L', hL'⟩ : ∃ L' : Nat, X1.toInt = (L' : Int) := ⟨X1.toInt.toNat, by omega⟩
    have zs : ∀ k, k ∈ [70, 105, 106, 98, 97, 96, 93] → z.1 k = s.1 k := fun k hk => by
      rw [zk k (fun w => by rw [w] at hk; revert hk; decide) (fun w => by rw [w] at hk; revert hk; decide), uks k (by clear same uks; revert k; decide)]
    have RTz : RTm own b n W N T F H S0 G S O E pl c Vn vt L' z := RT_rx hR zX (by decide) (by rw [zs 70 (by decide)]; exact r4) (by rw [zs 105 (by decide)]; exact r5) (by rw [zs 106 (by decide)]; exact r6) (by rw [zs 98 (by decide)]; exact r7) (by rw [zs 97 (by decide)]; exact r8) (by rw [z95]; exact hL') (by rw [zs 96 (by decide)]; omega) (by rw [z94]; omega) (by rw [zs 93 (by decide)]; omega) (by omega) (Nat.le_refl _) (by omega) r19
    have elf : lft u = lft s := by
      unfold lft
      rw [uks 96 (by decide), uks 95 (by decide), uks 94 (by decide)]
    rw [elf] at g5
    refine ⟨r, rfl, fun hr0 => ?_, fun hr0 => ⟨2, rfl, zX, vt, L', RTz, Nat.le_refl _, by omega, by decide, (fun w => absurd w (by decide)), Or.inr ⟨hnp, Or.inr (Or.inr ?_)⟩⟩⟩
    rotate_left
    · rcases g5 with ⟨g, -⟩ | ⟨-, y1, y2, y3⟩
      · omega
      · exact ⟨by omega, by omega, by decide, by rw [z95]; exact y1, by rw [z94]; exact y2⟩
    have hg5 : X1.toInt = (s.1 95).toInt + M := (g5.resolve_right (fun w => by omega)).2.1
    have hg6 := (g5.resolve_right (fun w => by omega)).2.2
    have z72 : (z.1 72).toInt = (M : Int) := by rw [zk 72 (by decide) (by decide)]; exact q4
    have z71 : (z.1 71).toInt = 100000 := by rw [zk 71 (by decide) (by decide)]; exact q3'
    have z97 : (z.1 97).toInt = (vt : Int) := by rw [zs 97 (by decide)]; exact r8
    have zseg : seg z 100000 M = subs τ Ly := by rw [seg_2 z2]; exact q6
    have hM : (subs τ Ly).length = M := by rw [q1]
    refine ⟨fun v1 v2 v3 w => w.1 = z.1 ∧ RX pfK E pl Vn vt s w ∧ ∃ k : Nat, v3.toInt = (k : Int) ∧ k ≤ M ∧ (∀ i, i < M → w.2.1 264 (100000 + i) = z.2.1 264 (100000 + i)) ∧ ∀ i, i < k → w.2.1 264 (vt + i) = z.2.1 264 (100000 + i), fun _ _ v3 _ => (100 - v3.toInt).toNat, ⟨rfl, zX, 0, by decide, by omega, fun _ _ => rfl, fun i hi => by omega⟩, ?_⟩
    rintro v1 v2 v3 w ⟨w1, wX, k, k1, k2, k3, k4⟩
    unfold w_239_43
    rw [w1]
    refine ⟨fun hend => ?_, fun hmore => ⟨by omega, fun y5 hy5 => ⟨by omega, fun y6 hy6 => ⟨by omega, by omega, ?_⟩⟩⟩⟩
    · have ek : k = M := by omega
      subst ek
      rintro s1 rfl s2 rfl
      have a72 : (sf w 107 (z.1 97)).1 72 = z.1 72 := by show w.1 72 = _; rw [w1]
      have b97 : (sf (sf w 107 (z.1 97)) 108 (z.1 72)).1 97 = z.1 97 := by show w.1 97 = _; rw [w1]
      have b72 : (sf (sf w 107 (z.1 97)) 108 (z.1 72)).1 72 = z.1 72 := by show w.1 72 = _; rw [w1]
      rw [a72, b97, b72]
      refine ⟨by omega, ?_⟩
      rintro x3 hx3 s4 rfl
      obtain ⟨f, hf⟩ : ∃ f, f = sf (sf (sf w 107 (z.1 97)) 108 (z.1 72)) 97 x3 := ⟨_, rfl⟩
      rw [← hf]
      have f2 : f.2 = w.2 := by rw [hf]; rfl
      have fk : ∀ k, ¬ k = 97 → ¬ k = 107 → ¬ k = 108 → f.1 k = z.1 k := fun k k1 k2 k3 => by rw [hf, sf_1, if_neg k1, sf_1, if_neg k3, sf_1, if_neg k2, w1]
      have f97 : (f.1 97).toInt = ((vt + k : Nat) : Int) := by rw [hf]; show x3.toInt = _; omega
      have f107 : (f.1 107).toInt = (vt : Int) := by rw [hf]; exact z97
      have f108 : (f.1 108).toInt = (k : Int) := by rw [hf]; exact z72
      have fX : RX pfK E pl Vn vt s f := by rw [hf]; exact RX_sf (RX_sf (RX_sf wX (by decide)) (by decide)) (by decide)
      clear hf
      have fs : ∀ k, k ∈ [70, 105, 106, 98, 96, 93] → f.1 k = s.1 k := fun k hk => by
        rw [fk k (fun w => by rw [w] at hk; revert hk; decide) (fun w => by rw [w] at hk; revert hk; decide) (fun w => by rw [w] at hk; revert hk; decide), zs k (by clear same uks zs; revert k; decide)]
      have RTf : RTm own b n W N T F H S0 G S O E pl c Vn (vt + k) L' f := RT_rx hR fX (by decide) (by rw [fs 70 (by decide)]; exact r4) (by rw [fs 105 (by decide)]; exact r5) (by rw [fs 106 (by decide)]; exact r6) (by rw [fs 98 (by decide)]; exact r7) f97 (by rw [fk 95 (by decide) (by decide) (by decide), z95]; exact hL') (by rw [fs 96 (by decide)]; omega) (by rw [fk 94 (by decide) (by decide) (by decide), z94]; omega) (by rw [fs 93 (by decide)]; omega) (by omega) (by omega) (by omega) r19
      refine ⟨0, rfl, fX, vt + k, L', RTf, by omega, by omega, by decide, (fun _ => ⟨vt, f107, by rw [hM]; exact f108, by omega, by omega, ?_⟩), Or.inr ⟨hnp, Or.inr (Or.inl ⟨by omega, by rw [hM]; exact hg6.2, by decide, by rw [hM, fk 95 (by decide) (by decide) (by decide), z95]; exact hg5, by rw [hM, fk 94 (by decide) (by decide) (by decide), z94]; exact hg6.1⟩)⟩⟩
      rw [hM, seg_2 f2, ← zseg, seg_rng, seg_rng]
      refine List.map_congr_left (fun i hi => ?_)
      have := List.mem_range.mp hi
      unfold tyE
      rw [k4 i this]
    · rintro s7 rfl
      rw [show y5.toInt.toNat = vt + k by omega, show y6.toInt.toNat = 100000 + k by omega]
      have hcell : w.2.1 264 (100000 + k) = z.2.1 264 (100000 + k) := k3 k (by omega)
      refine ⟨by omega, fun x8 hx8 => ⟨⟨w1, ⟨wX.1, fun q i c1 c2 c3 c4 c5 c6 => ?_, wX.2.2.1, fun i => ?_, fun i => ?_⟩, k + 1, by omega, by omega, fun i hi => ?_, fun i hi => ?_⟩, by show (100 - x8.toInt).toNat < (100 - v3.toInt).toNat; omega⟩⟩
      · rw [sa_2, if_neg (fun w => c1 ⟨w.1, by omega⟩)]
        exact wX.2.1 q i c1 c2 c3 c4 c5 c6
      · rw [sa_2]
        split
        · rw [hcell]
          exact zX.2.2.2.1 _
        · exact wX.2.2.2.1 i
      · rw [sa_2, if_neg (fun w => by omega)]
        exact wX.2.2.2.2 i
      · rw [sa_2, if_neg (fun w => by omega)]
        exact k3 i hi
      · rw [sa_2]
        by_cases w' : i = k
        · rw [if_pos ⟨rfl, by omega⟩, hcell, w']
        · rw [if_neg (fun w => by omega)]
          exact k4 i (by omega)
  · have hlt : ∀ x ∈ Ly, x / 8 < 1000 := by
      have := (h5.resolve_left (fun w => w.1 h50)).2
      rw [seg_2 t2, n4] at this
      exact this
    rw [subs_lt hτ.1 hlt, hLl]
    exact ⟨p, t107, t108, m5, by omega, by rw [seg_2 t2]; exact n4⟩
  · have := (h5.resolve_left (fun w => w.1 h50)).2
    rw [seg_2 t2, n4] at this
    exact this
end RTS2
