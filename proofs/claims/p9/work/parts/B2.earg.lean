/-! ===== evalStruct ===== -/
def REH (own : Nat → Nat × Nat) (b n W N T F H S0 : Nat) (G : PG) (S O c m d : Nat) : Prop := ∀ (s : yS) (a1 a2 a3 : Int32) (fo : Option Nat) (lo hi e fr ev b0 b1 E pl Vn vt L : Nat) (As Bs : List (List Nat)) (A : List Nat), RTm own b n W N T F H S0 G S O E pl c Vn vt L s → RCx G fo E pl Vn vt fr ev b0 As b1 Bs s → (∀ f, fo = some f → f < F) → wE G H b n (scX G fo) (tVX G fo) S O s m lo hi e A → hi ≤ N → N ≤ 12006 → pl + 7 * m + 80 * (40 - c) ≤ 4000 → E ≤ c + 1 → a1.toInt = (e : Int) → a2.toInt = (fr : Int) → a3.toInt = (ev : Int) → Tot d 240 [.ref 213, .int a1, .int a2, .int a3] s (EvQ own b n W N T F H S0 G S O E pl c Vn vt L (envS b0 As b1 Bs) A s)
section ES1
variable {own : Nat → Nat × Nat} {b n W N T F H S0 : Nat} {G : PG} {S O E bot c Vn vt L : Nat} {s u : yS} {fo : Option Nat} {fr ev b0 b1 m lo hi : Nat} {As Bs : List (List Nat)} {fT : Nat → List Nat} {cs : List (Nat × Nat × Nat)}
/-- a row of E, evaluated one by one; k are on the pile from bot on -/
def PAr (own : Nat → Nat × Nat) (b n W N T F H S0 : Nat) (G : PG) (S O E bot c Vn vt L : Nat) (τ : Nat → Option (List Nat)) (fT : Nat → List Nat) (cs : List (Nat × Nat × Nat)) (s : yS) (k : Nat) (x en : Int) (u : yS) : Prop := ∃ Vn' vt' L' : Nat, RX rK E bot Vn vt s u ∧ RTm own b n W N T F H S0 G S O E (bot + k) c Vn' vt' L' u ∧ Vn ≤ Vn' ∧ vt ≤ vt' ∧ L ≤ L' ∧ k ≤ cs.length ∧ 0 ≤ en ∧ (en = 0 → chn s x ((cs.drop k).map (·.2.2)) ∧ ∀ (j : Nat) (q : Nat × Nat × Nat), j < k → cs[j]? = some q → ∃ w : Nat, (u.2.1 278 (bot + j)).toInt = (w : Int) ∧ w < Vn' ∧ impl G (VT u w) (subs τ (fT j)))
theorem scX_ok (hW : WG G H) (hF : gF G = F) (hfo : ∀ f, fo = some f → f < F) : scC G H (scX G fo) := by
  cases fo with
  | none => exact scC_0
  | some f => exact scC_h hW (hW.2.2.2.2.2.2.1 f (by have := hfo f rfl; omega)).1
theorem PAr_step {d k : Nat} {q : Nat × Nat × Nat} {x : Int} {a1 a2 a3 : Int32} (ih : REH own b n W N T F H S0 G S O c m d) (hR : RTm own b n W N T F H S0 G S O E bot c Vn vt L s) (hX : RCx G fo E bot Vn vt fr ev b0 As b1 Bs s) (hfo : ∀ f, fo = some f → f < F) (hcs : ∀ (k : Nat) (q : Nat × Nat × Nat), cs[k]? = some q → lo ≤ q.1 ∧ q.1 ≤ q.2.2 ∧ q.2.2 < q.2.1 ∧ q.2.1 ≤ hi ∧ ∃ B, wE G H b n (scX G fo) (tVX G fo) S O s m q.1 q.2.1 q.2.2 B ∧ impl G B (fT k)) (hok : ∀ k, k < cs.length → okE G (scX G fo) (fT k)) (h6 : cs.length ≤ 6) (hhi : hi ≤ N) (hN : N ≤ 12006) (hpl : bot + 6 + 7 * m + 80 * (40 - c) ≤ 4000) (hE : E ≤ c + 1) (hI : PAr own b n W N T F H S0 G S O E bot c Vn vt L (envS b0 As b1 Bs) fT cs s k x 0 u) (hk : cs[k]? = some q) (h1 : a1.toInt = (q.2.2 : Int)) (h2 : a2.toInt = (fr : Int)) (h3 : a3.toInt = (ev : Int)) : Tot d 240 [.ref 213, .int a1, .int a2, .int a3] u (fun v u1 => ∃ r : Int32, v = some (.int r) ∧ (u1.1 105).toInt = ((bot + k : Nat) : Int) ∧ u1.2.1 225 = s.2.1 225 ∧ ∀ x5 : Int32, x5.toInt = ((bot + k : Nat) : Int) + 1 → PAr own b n W N T F H S0 G S O E bot c Vn vt L (envS b0 As b1 Bs) fT cs s (k + 1) (s.2.1 225 q.2.2).toInt r.toInt (sf (sa u1 278 (bot + k) (u1.1 102)) 105 x5)) := by
  have hv := RT_vt hR
  obtain ⟨r1, r2, r3, r4, r5, r6, r7, r8, r9, r10, r11, r12, r13, r14, r15, r16, r17, r18, r19⟩ := id hR
  obtain ⟨Vn', vt', L', uX, uR, k1, k2, k3, k4, k5, k6⟩ := hI
  obtain ⟨k7, k8⟩ := k6 rfl
  have hv' := RT_vt uR
  obtain ⟨x1, x2, x3, x4⟩ := id hX
  have hkl : k < cs.length := by
    by_cases w : k < cs.length
    · exact w
    · rw [List.getElem?_eq_none (by omega)] at hk
      cases hk
  obtain ⟨c1, c2, c3, c4, B, c5, c6⟩ := hcs k q hk
  have uC : RCx G fo E (bot + k) Vn' vt' fr ev b0 As b1 Bs u := RCx_rx hX uX r17 (by omega) (Nat.le_refl _) (by omega) k1 k2
  have uE := wE_eq (Nat.le_refl _) (Nat.le_refl _) (RX_CA (b := b) (n := n) (lo := q.1) (hi := q.2.1) (S := S) (O := O) uX (by omega) (by omega)) c5
  refine Tot.imp (ih u a1 a2 a3 fo q.1 q.2.1 q.2.2 fr ev b0 b1 E (bot + k) Vn' vt' L' As Bs B uR uC hfo uE (by omega) hN (by omega) hE h1 h2 h3) ?_
  rintro v u1 ⟨r, rfl, g0, vX, Vn2, vt2, L2, vR, g1, g2, g3, g4⟩
  obtain ⟨q1, q2, q3, q4, q5, q6, q7, q8, q9, q10, q11, q12, q13, q14, q15, q16, q17, q18, q19⟩ := id vR
  have hv2 := RT_vt vR
  refine ⟨r, rfl, q5, by rw [RX_row vX (by decide), RX_row uX (by decide)], fun x5 hx5 => ?_⟩
  obtain ⟨f, hf⟩ : ∃ f, f = sf (sa u1 278 (bot + k) (u1.1 102)) 105 x5 := ⟨_, rfl⟩
  rw [← hf]
  have fc : ∀ q i, ¬ (q = 278 ∧ i = bot + k) → f.2.1 q i = u1.2.1 q i := fun q i w => by
    rw [hf]
    show (sa u1 278 (bot + k) (u1.1 102)).2.1 q i = _
    rw [sa_2, if_neg w]
  have f278 : f.2.1 278 (bot + k) = u1.1 102 := by
    rw [hf]
    show (sa u1 278 (bot + k) (u1.1 102)).2.1 278 (bot + k) = _
    rw [sa_2, if_pos ⟨rfl, rfl⟩]
  have fk : ∀ k, ¬ k = 105 → f.1 k = u1.1 k := fun k hk => by
    rw [hf, sf_1, if_neg hk]
    rfl
  have f105 : (f.1 105).toInt = ((bot + (k + 1) : Nat) : Int) := by rw [hf, sf_1, if_pos rfl]; omega
  have fX : RX [105] E (bot + k) Vn2 vt2 u1 f := ⟨fun k hk => fk k (fun w => hk (by rw [w]; decide)), fun q i _ _ _ _ _ w6 => fc q i (fun w => w6 ⟨w.1, by omega⟩), by rw [hf]; rfl, fun i => by rw [fc 264 i (fun w => by omega)]; exact q1.2.2.2.2.1 i, fun i => by rw [fc 265 i (fun w => by omega)]; exact q1.2.2.2.2.2.1 i⟩
  clear hf
  have fR : RTm own b n W N T F H S0 G S O E (bot + (k + 1)) c Vn2 vt2 L2 f := RT_rx vR fX (by decide) (by rw [fk 70 (by decide)]; exact q4) f105 (by rw [fk 106 (by decide)]; exact q6) (by rw [fk 98 (by decide)]; exact q7) (by rw [fk 97 (by decide)]; exact q8) (by rw [fk 95 (by decide)]; exact q9) (by rw [fk 96 (by decide)]; exact q11) (by rw [fk 94 (by decide)]; exact q12) (by rw [fk 93 (by decide)]; exact q13) (Nat.le_refl _) (Nat.le_refl _) q16 q19
  have wX : RX rK E (bot + k) Vn' vt' u f := RX_tr vX fX (by decide) (Nat.le_refl _) (Nat.le_refl _) g1 g2
  refine ⟨Vn2, vt2, L2, RX_tr uX wX (fun _ w => w) (Nat.le_refl _) (by omega) k1 k2, fR, by omega, by omega, by omega, by omega, g0, fun hr => ⟨?_, fun j q' hj hq' => ?_⟩⟩
  · have hd := drop_get hk
    rw [hd] at k7
    exact k7.2
  · by_cases ej : j = k
    · obtain ⟨w, w1, w2, w3⟩ := g4 hr
      have hVf : VT f w = VT u1 w := RX_VT fX w2 (q17 w w2) (by omega)
      rw [ej]
      refine ⟨w, by rw [f278]; exact w1, w2, ?_⟩
      rw [hVf]
      have hG := r1.2.2.2.2.2.2.2.2.1
      have gF' : gF G = F := by rw [← r1.2.2.2.2.2.2.2.1]; exact (pgA r1.1).2.1
      have okB : okE G (scX G fo) B := by
        cases m with
        | zero => exact absurd c5 id
        | succ m =>
          obtain ⟨pp, -, hh⟩ := c5
          exact (wEp_ok hh).1
      exact impl_sub hG (scX_ok hG gF' hfo) x3 okB (hok k hkl) c6 (VOK_vSt (q17 w w2)) w3
    · obtain ⟨w, w1, w2, w3⟩ := k8 j q' (by omega) hq'
      refine ⟨w, ?_, by omega, ?_⟩
      · rw [wX.2.1 278 (bot + j) (fun w => by omega) (fun w => by omega) (fun w => by omega) (fun w => by omega) (fun w => by omega) (fun w => by omega)]
        exact w1
      · rw [RX_VT wX w2 (uR.2.2.2.2.2.2.2.2.2.2.2.2.2.2.2.2.1 w w2) (by omega)]
        exact w3
/-- one value more -/
theorem RT_new {ks : List Nat} {E' pl' E2 pl2 pl c' L' : Nat} {s' : yS} (h : RTm own b n W N T F H S0 G S O E pl c Vn vt L s) (hw : RX ks E2 pl2 Vn vt s s') (hk : 75 ∉ ks ∧ 96 ∉ ks) (hV : VOK G b S vt s' Vn) (h70 : (s'.1 70).toInt = (E' : Int)) (h105 : (s'.1 105).toInt = (pl' : Int)) (h106 : (s'.1 106).toInt = (c' : Int)) (h98 : (s'.1 98).toInt = (Vn : Int) + 1) (h97 : (s'.1 97).toInt = (vt : Int)) (h95 : (s'.1 95).toInt = (L' : Int)) (hL : (L' : Int) ≤ (s'.1 96).toInt) (h94 : 0 ≤ (s'.1 94).toInt ∧ (s'.1 94).toInt ≤ 60000) (h93 : 0 ≤ (s'.1 93).toInt ∧ (s'.1 93).toInt ≤ (L' : Int)) (hLL : L ≤ L') (hVL : Vn + 1 ≤ L') (hc : c' ≤ 40) : RTm own b n W N T F H S0 G S O E' pl' c' (Vn + 1) vt L' s' := by
  have hv := RT_vt h
  obtain ⟨h1, h2, h3, h4, h5, h6, h7, h8, h9, h10, h11, h12, h13, h14, h15, h16, h17, h18, h19⟩ := h
  refine ⟨RX_CK h1 hw hk.1 h15, Lx_eq h2 (RX_row hw (by decide)) (RX_row hw (by decide)) (RX_row hw (by decide)), fun f hf => ?_, h70, h105, h106, by omega, h97, h95, by rw [hw.1 96 hk.2]; exact h10, hL, h94, h93, hVL, h15, by omega, fun v hv' => ?_, h18, hc⟩
  · obtain ⟨e, l, hh, A, k1, k2, k3, k4, k5⟩ := h3 f hf
    exact ⟨e, l, hh, A, by rw [RX_row hw (by decide)]; exact k1, k2, k3, wE_eq (Nat.le_refl _) (Nat.le_refl _) (RX_CA hw (by omega) (by omega)) k4, k5⟩
  · by_cases e : v = Vn
    · rw [e]; exact hV
    · exact RX_VOK (fun d hd => (h1.2.2.2.2.2.2.2.2.1.2.1 d hd).2.1) hw h17 (by omega) (by omega) (Nat.le_refl _)
/-- a struct's arguments, put: within their bounds -/
theorem st_env {sc : Nat → Prop} {τ : Nat → Option (List Nat)} {A : List Nat} {x : Nat} {Cs : List (List Nat)} (hW : WG G H) (hsc : scC G H sc) (hτ : wEnv G sc τ) (hA : okE G sc A) (hB : okBa G A) (hc : cutT A x Cs) (hx : x / 8 < gT G) : wEnv G (scDg G (x / 8)) (envS (1000 + 6 * (x / 8)) (Cs.map (subs τ)) 0 []) := by
  have hT := hW.1.1
  obtain ⟨vx, kC⟩ := okE_cut hc hA
  have hCm : Cs.length = gfm G (x / 8) := by
    rw [hc.2.2]
    rcases vx with z | z
    · exact z.2
    · omega
  have h6 := (hW.2.1 _ hx).1
  refine ⟨fun c hc => envS_lt hc, fun c hc => ?_, fun c hcs => ?_⟩
  · rw [envS_2 (by omega) (grp_none (Or.inr (by rw [List.length_map]; omega)))]
    exact grp_none (Or.inr (by show 0 ≤ _; omega))
  · obtain ⟨k, k1, rfl⟩ := hcs
    have hkC : k < Cs.length := by omega
    have hget : Cs[k]? = some Cs[k] := List.getElem?_eq_getElem hkC
    obtain ⟨C, hC⟩ : ∃ C, C = Cs[k] := ⟨_, rfl⟩
    rw [← hC] at hget
    have okC := kC C (List.mem_of_getElem? hget)
    refine ⟨subs τ C, envS_1 (by omega) ?_, (wEnv_ok hT hτ okC).2, fun V hV hVC => ?_⟩
    · unfold grp
      rw [if_pos (by omega), show 1000 + 6 * (x / 8) + k - (1000 + 6 * (x / 8)) = k by omega, List.getElem?_map, hget]
      rfl
    · have hbd : bdT G 0 (1000 + 6 * (x / 8) + k) = gfb G (x / 8) k := by
        unfold bdT
        rw [if_pos (by omega), show (1000 + 6 * (x / 8) + k - 1000) / 6 = x / 8 by omega, show (1000 + 6 * (x / 8) + k - 1000) % 6 = k by omega]
      have okb := (hW.2.2.2.1 _ hx k k1).1
      rw [hbd, ← dcl_put hT hτ hCm okb]
      have hi := (okBa_cut hB hc (by omega) k C hget).1
      refine impl_sub hW hsc hτ okC (okE_subs hT okb (fun c hc => envS_lt hc) (fun c hc' => ?_)) hi hV hVC
      obtain ⟨B, b1, b2⟩ := dcl_cov (b1 := 0) (Bs := []) hCm hc'
      exact Or.inl ⟨B, b1, kC B b2⟩
end ES1
