/-! ===== instances: their world, addParts ===== -/
def jK : List Nat := [64, 71, 72, 111, 112, 118]
def IWm (own : Nat → Nat × Nat) (b n N T F H S0 : Nat) (G : PG) (S R M P : Nat) (s : yS) : Prop := CK own b n N T F H S0 G s ∧ RW G R M s ∧ (s.1 64).toInt = (P : Int) ∧ 100000 ≤ P ∧ P ≤ 199000 ∧ S ≤ 8210
/-- an env whose TYPES stand above all rows -/
def JE (s : yS) (e P b0 : Nat) (As : List (List Nat)) (b1 : Nat) (Bs : List (List Nat)) : Prop := EV s e P b0 As b1 Bs ∧ (∀ a, a < As.length → 100000 ≤ (s.2.1 267 (12 * e + a)).toInt) ∧ ∀ a, a < Bs.length → 100000 ≤ (s.2.1 267 (12 * e + 6 + a)).toInt
section IWS
variable {own : Nat → Nat × Nat} {b n N T F H S0 : Nat} {G : PG} {S O R M P E R' M' P' E' : Nat} {ks : List Nat} {s s' : yS}
theorem JF_CK (h : CK own b n N T F H S0 G s) (hF : JF ks R M P E s s') (h75 : 75 ∉ ks) (hM : 20000 ≤ M) (hP : 100000 ≤ P) : CK own b n N T F H S0 G s' := by
  have hS := h.2.2.2.2.2.2.2.2.2
  have hb := h.1.1
  have h8 : S0 ≤ 8210 := z41 hS hb
  have r : ∀ q, q ∉ [264, 265, 266, 267, 268, 279, 280, 281, 282, 283] → s'.2.1 q = s.2.1 q := fun q hq => JF_row hF hq
  exact CK_eq h ⟨fun t _ _ => ⟨by rw [r 215 (by decide)], by rw [r 217 (by decide)]⟩, fun x _ _ => ⟨⟨by rw [r 221 (by decide)], by rw [r 222 (by decide)], by rw [r 223 (by decide)], by rw [r 224 (by decide)], by rw [r 227 (by decide)], by rw [r 229 (by decide)], fun _ => by rw [r 226 (by decide)], fun _ => by rw [r 230 (by decide)]⟩, by rw [r 225 (by decide)], by rw [r 228 (by decide)]⟩, fun p i hp _ _ => by rw [r p ((show ∀ p ∈ tbR, p ∉ [264, 265, 266, 267, 268, 279, 280, 281, 282, 283] by decide) p hp)]⟩ (fun y _ _ _ => ⟨by rw [r 231 (by decide)], by rw [r 232 (by decide)]⟩) (fun j hj => hF.2.1 264 j (fun w => by have := w.1; revert this; decide) (fun w => by omega) (fun w => by omega) (fun w => by omega)) (fun i _ _ => by rw [r 261 (by decide)]) hF.2.2.2.1 hF.2.2.2.2 (by rw [hF.1 75 h75]; exact h.2.2.2.2.2.2.1)
theorem JF_CA {lo hi : Nat} (hF : JF ks R M P E s s') (hS : S ≤ 8210) (hM : 20000 ≤ M) (hP : 100000 ≤ P) : CA b n lo hi S O s s' := ⟨fun q hq x _ _ => by rw [JF_row hF ((show ∀ q ∈ wR, q ∉ [264, 265, 266, 267, 268, 279, 280, 281, 282, 283] by decide) q hq)], fun t _ _ => by rw [JF_row hF (by decide)], fun j _ j2 => hF.2.1 264 j (fun w => by have := w.1; revert this; decide) (fun w => by omega) (fun w => by omega) (fun w => by omega), fun j _ _ => by rw [JF_row hF (by decide)]⟩
theorem JE_jf {e b0 b1 : Nat} {As Bs : List (List Nat)} (h : JE s e P b0 As b1 Bs) (hF : JF ks R M P E s s') (he : e < E) (hP : P ≤ P') : JE s' e P' b0 As b1 Bs := by
  obtain ⟨⟨⟨a1, a2, a3, a4⟩, ⟨c1, c2, c3, c4⟩⟩, h2, h3⟩ := h
  have cell : ∀ q i, ((q = 265 ∨ q = 266) ∧ i < 2 * E) ∨ ((q = 267 ∨ q = 268) ∧ i < 12 * E) → s'.2.1 q i = s.2.1 q i := fun q i hq => hF.2.1 q i (fun w => by
    have := w.1
    simp only [List.mem_cons, List.not_mem_nil, or_false] at this
    omega) (fun w => by omega) (fun w => by omega) (fun w => by omega)
  have sg : ∀ q l : Nat, 100000 ≤ q → q + l ≤ P → seg s' q l = seg s q l := fun q l q1 q2 => seg_eq (fun j j1 j2 => hF.2.1 264 j (fun w => by have := w.1; revert this; decide) (fun w => by omega) (fun w => by omega) (fun w => by omega))
  have lt : ∀ {α : Type} {L : List α} {a : Nat} {A : α}, L[a]? = some A → a < L.length := fun {α L a A} h => by
    by_cases q : a < L.length
    · exact q
    · rw [List.getElem?_eq_none (by omega)] at h
      cases h
  refine ⟨⟨⟨by rw [cell _ _ (by omega)]; exact a1, by rw [cell _ _ (by omega)]; exact a2, a3, fun a A hA => ?_⟩, ⟨by rw [cell _ _ (by omega)]; exact c1, by rw [cell _ _ (by omega)]; exact c2, c3, fun a A hA => ?_⟩⟩, fun a ha => by rw [cell _ _ (by omega)]; exact h2 a ha, fun a ha => by rw [cell _ _ (by omega)]; exact h3 a ha⟩
  · obtain ⟨k1, q, k2, k3, k4, k5⟩ := a4 a A hA
    have ha := lt hA
    have hq := h2 a ha
    rw [show 6 * (2 * e) + a = 12 * e + a by omega] at k2 k3 ⊢
    exact ⟨k1, q, by rw [cell _ _ (by omega)]; exact k2, by rw [cell _ _ (by omega)]; exact k3, by rw [sg q _ (by omega) k5]; exact k4, by omega⟩
  · obtain ⟨k1, q, k2, k3, k4, k5⟩ := c4 a A hA
    have ha := lt hA
    have hq := h3 a ha
    rw [show 6 * (2 * e + 1) + a = 12 * e + 6 + a by omega] at k2 k3 ⊢
    exact ⟨k1, q, by rw [cell _ _ (by omega)]; exact k2, by rw [cell _ _ (by omega)]; exact k3, by rw [sg q _ (by omega) k5]; exact k4, by omega⟩
/-- what addE promises at a level -/
def AEH (own : Nat → Nat × Nat) (b n N T F H S0 : Nat) (G : PG) (S O m d : Nat) : Prop := ∀ (s : yS) (a1 a2 : Int32) (fo : Option Nat) (lo hi e ev b0 b1 R M P E : Nat) (As Bs : List (List Nat)) (A : List Nat), IWm own b n N T F H S0 G S R M P s → JE s ev P b0 As b1 Bs → ev < E → E ≤ 280 → wEnv G (scX G fo) (envS b0 As b1 Bs) → (∀ c A, envS b0 As b1 Bs c = some A → okL G 1 A) → (∀ f, fo = some f → f < F) → wE G H b n (scX G fo) (tVX G fo) S O s m lo hi e A → hi ≤ 12006 → P + 600 ≤ 199000 → O ≤ 120000 → a1.toInt = (e : Int) → a2.toInt = (ev : Int) → Tot d 253 [.ref 213, .int a1, .int a2] s (fun v s' => v = none ∧ JF jK R M P E s s' ∧ s'.1 64 = s.1 64 ∧ ∃ R' M' : Nat, IWm own b n N T F H S0 G S R' M' P s' ∧ R ≤ R' ∧ M ≤ M')
/-- how long a row is -/
def chf (s : yS) : Nat → Int → Nat
  | 0, _ => 0
  | f + 1, x => if x < 0 then 0 else 1 + chf s f (s.2.1 225 x.toNat).toInt
theorem chf_eq {s : yS} : ∀ {f : Nat} {L : List Nat} {x : Int}, L.length ≤ f → chn s x L → chf s f x = L.length
  | 0, [], x, _, _ => rfl
  | f + 1, [], x, _, h => by
    have h : x = -1 := h
    unfold chf
    rw [if_pos (by omega)]
    rfl
  | 0, c :: L, x, hl, _ => by
    have : L.length + 1 ≤ 0 := hl
    omega
  | f + 1, c :: L, x, hl, h => by
    have hx : x = (c : Int) := h.1
    have hl' : L.length + 1 ≤ f + 1 := hl
    unfold chf
    rw [if_neg (by omega), show x.toNat = c by omega, chf_eq (by omega) h.2]
    show 1 + L.length = L.length + 1
    omega
theorem s_254 {d m m' lo hi ev b0 b1 : Nat} {As Bs : List (List Nat)} {x : Int32} {a2 : Int32} {fo : Option Nat} {fT : Nat → List Nat} (ih : AEH own b n N T F H S0 G S O m d) (hm : m' ≤ 6) (hI : IWm own b n N T F H S0 G S R M P s) (hV : JE s ev P b0 As b1 Bs) (hev : ev < E) (hE : E ≤ 280) (hτ : wEnv G (scX G fo) (envS b0 As b1 Bs)) (hok : ∀ c A, envS b0 As b1 Bs c = some A → okL G 1 A) (hfo : ∀ f, fo = some f → f < F) (hL : wL G s (wE G H b n (scX G fo) (tVX G fo) S O s m) x.toInt lo hi m' fT) (h12 : hi ≤ 12006) (hP : P + 600 ≤ 199000) (hO : O ≤ 120000) (h2 : a2.toInt = (ev : Int)) : Tot (d + 1) 254 [.ref 213, .int x, .int a2] s (fun v s' => v = none ∧ JF jK R M P E s s' ∧ s'.1 64 = s.1 64 ∧ ∃ R' M' : Nat, IWm own b n N T F H S0 G S R' M' P s' ∧ R ≤ R' ∧ M ≤ M') := by
  obtain ⟨cs, l1, l2, l3⟩ := hL
  obtain ⟨c1, c2, c3, c4, c5, c6⟩ := id hI
  obtain ⟨M92, M20⟩ := RW_M c2
  refine t_254 ?_
  unfold w_254_0
  refine ⟨fun z1 z2 z3 w => z2 = a2 ∧ ∃ (k R' M' : Nat), k ≤ cs.length ∧ chn s z3.toInt ((cs.drop k).map (·.2.2)) ∧ JF jK R M P E s w ∧ w.1 64 = s.1 64 ∧ IWm own b n N T F H S0 G S R' M' P w ∧ R ≤ R' ∧ M ≤ M', fun _ _ z3 _ => chf s 10 z3.toInt, ⟨rfl, 0, R, M, by omega, l2, JF_rf c1.2.2.2.2.1 c1.2.2.2.2.2.1, rfl, hI, Nat.le_refl _, Nat.le_refl _⟩, ?_⟩
  rintro z1 z2 z3 w ⟨e2, k, R', M', k1, k2, k3, k4, k5, k6, k7⟩
  have e2 := e2.symm
  subst e2
  unfold w_254_2 w_254_23
  refine ⟨fun _ => ⟨rfl, k3, k4, R', M', k5, k6, k7⟩, fun hpos => ⟨fun _ => ⟨rfl, k3, k4, R', M', k5, k6, k7⟩, fun _ => ?_⟩⟩
  cases hdr : cs.drop k with
  | nil =>
    rw [hdr] at k2
    have : z3.toInt = -1 := k2
    omega
  | cons q cs' =>
    have hck : cs[k]? = some q := by
      have := congrArg List.head? hdr
      rw [List.head?_drop] at this
      exact this
    have hkl := cs_lt hck
    obtain ⟨p1, p2, p3, p4, B, p5, p6⟩ := l3 k q hck
    have k2' := k2
    rw [hdr] at k2
    have hz : z3.toInt = (q.2.2 : Int) := k2.1
    obtain ⟨d1, d2, d3, d4, d5, d6⟩ := id k5
    have wV : JE w ev P b0 As b1 Bs := JE_jf hV k3 hev (Nat.le_refl _)
    refine Tot.imp (ih w z3 a2 fo q.1 q.2.1 q.2.2 ev b0 b1 R' M' P E As Bs B k5 wV hev hE hτ hok hfo (wE_eq (Nat.le_refl _) (Nat.le_refl _) (JF_CA (b := b) (n := n) (O := O) k3 c6 M20 c4) p5) (by omega) hP hO hz h2) ?_
    rintro v t ⟨rfl, tJ, t64, R2, M2, tI, g1, g2⟩
    refine ⟨rfl, ?_⟩
    rintro s3 rfl
    rw [← t64, sf_id]
    have e25 : t.2.1 225 = s.2.1 225 := by rw [JF_row tJ (by decide), JF_row k3 (by decide)]
    rw [e25, show z3.toInt.toNat = q.2.2 by omega]
    have hd := drop_get hck
    have hn : chn s (s.2.1 225 q.2.2).toInt ((cs.drop (k + 1)).map (·.2.2)) := by
      rw [hd] at hdr
      rw [(List.cons.inj hdr).2]
      exact k2.2
    refine ⟨by omega, ⟨rfl, k + 1, R2, M2, by omega, hn, JF_tr k3 tJ (fun _ w => w) k6 k7 (Nat.le_refl _) (Nat.le_refl _), t64.trans k4, tI, by omega, by omega⟩, ?_⟩
    show chf s 10 (s.2.1 225 q.2.2).toInt < chf s 10 z3.toInt
    rw [chf_eq (by rw [List.length_map, List.length_drop]; omega) hn, chf_eq (by rw [List.length_map, List.length_drop]; omega) k2', List.length_map, List.length_map, List.length_drop, List.length_drop]
    omega
end IWS
