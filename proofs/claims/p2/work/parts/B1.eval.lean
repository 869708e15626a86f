/-! ===== eval: its world ===== -/
section EV1
variable (own : Nat → Nat × Nat) (b n W N T F H S0 : Nat) (G : PG) (S O : Nat)
/-- where E is evaluated: the env, the variables on the pile -/
def RCx (fo : Option Nat) (E pl Vn vt fr ev b0 : Nat) (As : List (List Nat)) (b1 : Nat) (Bs : List (List Nat)) (s : yS) : Prop := ev < E ∧ EV s ev vt b0 As b1 Bs ∧ wEnv G (scX G fo) (envS b0 As b1 Bs) ∧ ∀ (k : Nat) (A : List Nat), tVX G fo k = some A → fr + k < pl ∧ ∃ v : Nat, (s.2.1 278 (fr + k)).toInt = (v : Int) ∧ v < Vn ∧ impl G (VT s v) (subs (envS b0 As b1 Bs) A)
def EvQ (E pl c Vn vt L : Nat) (τ : Nat → Option (List Nat)) (A : List Nat) (s : yS) (v : Option Value) (s' : yS) : Prop := ∃ r : Int32, v = some (.int r) ∧ 0 ≤ r.toInt ∧ RX rK E pl Vn vt s s' ∧ ∃ Vn' vt' L' : Nat, RTm own b n W N T F H S0 G S O E pl c Vn' vt' L' s' ∧ Vn ≤ Vn' ∧ vt ≤ vt' ∧ L ≤ L' ∧ (r.toInt = 0 → ∃ w : Nat, (s'.1 102).toInt = (w : Int) ∧ w < Vn' ∧ impl G (VT s' w) (subs τ A))
end EV1
section EV2
variable {own : Nat → Nat × Nat} {b n W N T F H S0 : Nat} {G : PG} {S O E pl c Vn vt L : Nat} {s s' : yS} {fo : Option Nat} {fr ev b0 b1 : Nat} {As Bs : List (List Nat)}
theorem RCx_rx {ks : List Nat} {E' pl' Vn' vt' : Nat} (h : RCx G fo E pl Vn vt fr ev b0 As b1 Bs s) (hw : RX ks E pl Vn vt s s') (hall : ∀ v, v < Vn → VOK G vt s v) (hv : vt ≤ 20000) (hE : E ≤ E') (hp : pl ≤ pl') (hV : Vn ≤ Vn') (ht : vt ≤ vt') : RCx G fo E' pl' Vn' vt' fr ev b0 As b1 Bs s' := by
  obtain ⟨h1, h2, h3, h4⟩ := h
  refine ⟨by omega, RX_EV h2 hw h1 hv ht, h3, fun k A hA => ?_⟩
  obtain ⟨k1, v, k2, k3, k4⟩ := h4 k A hA
  refine ⟨by omega, v, ?_, by omega, ?_⟩
  · rw [hw.2.1 278 (fr + k) (fun w => by omega) (fun w => by omega) (fun w => by omega) (fun w => by omega) (fun w => by omega) (fun w => by omega)]
    exact k2
  · rw [RX_VT hw k3 (hall v k3) hv]
    exact k4
/-- what is below a struct's TYPE is that TYPE -/
theorem impl_st {V I : List Nat} {x : Nat} {Cs : List (List Nat)} (hc : cutT I x Cs) (hs : ¬ gst G (x / 8) = 0) (h : impl G V I) : V = I := by
  obtain ⟨y, Ds, hc', h⟩ := h
  obtain ⟨e1, e2⟩ := cutT_inj hc hc'
  subst e1 e2
  rcases h with ⟨-, h⟩ | ⟨-, h, -⟩
  · exact h
  · exact absurd h hs
theorem VOK_vSt {v : Nat} (h : VOK G vt s v) : vSt G (VT s v) := by
  obtain ⟨p, l, x, As, h1, h2, h3, h4, h5, h6, h7, h8, -⟩ := h
  have : VT s v = seg s p l := by unfold VT; rw [show (s.2.1 275 v).toInt.toNat = p by omega, show (s.2.1 276 v).toInt.toNat = l by omega]
  rw [this]
  exact ⟨h6, x, As, h5, h7, h8⟩
theorem dcl_put {sc : Nat → Prop} {τ : Nat → Option (List Nat)} {D : Nat} {Cs : List (List Nat)} {Lt : List Nat} (hT : gT G ≤ 24) (hτ : wEnv G sc τ) (hC : Cs.length = gfm G D) (hL : okE G (scDg G D) Lt) : subs τ (subs (envS (1000 + 6 * D) Cs 0 []) Lt) = subs (envS (1000 + 6 * D) (Cs.map (subs τ)) 0 []) Lt := by
  rw [subs_env]
  · rfl
  · intro x hx
    rcases hL.2 x hx with w | ⟨w1, w2, w3⟩
    · exact Or.inr (hτ.1 _ (by omega))
    · obtain ⟨A, k1, -⟩ := dcl_cov (b1 := 0) (Bs := []) hC w3
      exact Or.inl ⟨A, k1⟩
end EV2
