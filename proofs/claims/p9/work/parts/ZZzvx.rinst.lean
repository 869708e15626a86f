/-! ===== the reference: instances: its loops ===== -/
/-- a row of CALLS and a TYPE are seen to -/
def PRr (kd : Int → Int) (mv : List Int → List Int → Int) (fx : Int → Int → Int) (its : List Mit) (c j : Nat) : Prop := ∀ (t : List Int) (w : Int) (Ts : List (List Int)) (A : List Int), its[c]? = some (1, t, w, Ts) → its[j]? = some (0, A, 0, []) → kd (A.headD 0) = 1 → ¬ mv A t = 9 ∧ (mv A t = 0 → (2, A, fx (A.headD 0) w, Ts) ∈ its)
/-- those of a sort -/
def ofS (k : Nat) (its : List Mit) : List Mit := its.filter (fun x => decide (x.1 = k))
/-- how one TYPE meets another -/
def mvR (ar kd : Int → Int) (cf : Nat → Int) (fs : Nat → Nat) (F : Nat) (tm tn : Int → Nat) (hw : Nat → Int) (hd : Nat → Nat × Nat × List (List Int)) (A t : List Int) : Int := mtV ar kd (rso kd cf fs F tm tn hw) hw hd tm tn A A t
/-- what the loops keep -/
def INVi (own : Nat → Nat × Nat) (b n N T F H S0 : Nat) (G : PG) (S : Nat) (s : yS) (ar : Int → Int) (nT : Int) (Hk : Nat) (wr hw : Nat → Int) (fx : Int → Int → Int) (Dr : Mit → Prop) (Bd : Prop) (Cm : List Ins) (cd : Int → List Ins) (its : List Mit) (f : yS) : Prop := (∃ R, IL own b n N T F H S0 G S s R f) ∧ RIl ar nT wr hw Hk fx Dr Bd its f ∧ (f.1 110).toInt = 1 ∧ (¬ (f.1 111).toInt = 0 → dn ar (eta [] []) its Cm ∧ BDn ar cd its)
/-- what stands: the tables, the funcs -/
def WLD (own : Nat → Nat × Nat) (b n N T F H S0 : Nat) (G : PG) (S O : Nat) (s : yS) (ar kd : Int → Int) (cf : Nat → Int) (fs : Nat → Nat) (Fk Hk : Nat) (nT : Int) (tm tn : Int → Nat) (hd : Nat → Nat × Nat × List (List Int)) (hb ow hw : Nat → Int) (Bf : Int → List (List Int)) (Ag Z : Int) (wr : Nat → Int) (fx : Int → Int → Int) (Cm : List Ins) (cd : Int → List Ins) : Prop := (PT b n N F H G S O s ∧ N ≤ 12006 ∧ O ≤ 120000 ∧ S ≤ 8210) ∧ PGr ar kd cf fs Fk Hk nT tm tn hd hb ow hw Bf (b : Int) Ag s ∧ (Ag ≤ 13000 ∧ b < 2 ∧ Z ≤ 13000) ∧ (∀ g, g < Hk → wHr (b : Int) s g = wr g) ∧ (∀ c w, fx c w = lFw cf (fun f => hw (fs f)) c w Fk) ∧ FNn ar nT Z wr hw Hk Fk cf fs hd cd (b : Int) s ∧ ∀ (g : yS) (R : Nat) (its : List Mit) (c j : Nat) (t : List Int) (w : Int) (Ts : List (List Int)) (A : List Int) (Dr : Mit → Prop) (Bd : Prop), IL own b n N T F H S0 G S s R g → RIl ar nT wr hw Hk fx Dr Bd its g → its[c]? = some (1, t, w, Ts) → its[j]? = some (0, A, 0, []) → kd (A.headD 0) = 1 → mvR ar kd cf fs Fk tm tn hw hd A t = 0 → ∃ kf : Nat, kf < Fk ∧ fx (A.headD 0) w = (kf : Int) ∧ Ts.length = (hd (fs kf)).1
section ZVX
variable {own : Nat → Nat × Nat} {b n N T F H S0 Fk Hk : Nat} {G : PG} {S O : Nat} {ar kd : Int → Int} {nT Z Ag A0 : Int} {wr hw : Nat → Int} {fx : Int → Int → Int} {Dr : Mit → Prop} {Bd : Prop} {its ws : List Mit} {s s' u f : yS} {c d j k : Nat} {cf hb ow : Nat → Int} {fs : Nat → Nat} {hd : Nat → Nat × Nat × List (List Int)} {tm tn : Int → Nat} {Bf : Int → List (List Int)} {Cm : List Ins} {cd : Int → List Ins} {a1 a2 a3 : Int32} {mv : List Int → List Int → Int} {fo : Int → Int → Int} {st : Int → Prop} {e : Int} {bI : Int}
theorem Tot_Par {k i : Nat} {vs : List Value} {P : Option Value → yS → Prop} (h : Tot k i vs s P) : Par d i vs s P := by
  intro pre post res hp hr
  obtain ⟨v, s1, h1, h0, h2⟩ := h
  have g1 := ycx_mono (Nat.le_max_left k d) i vs _ _ (h2 pre post hp)
  have g2 := ycx_mono (Nat.le_max_right k d) i vs _ _ hr
  rw [g1] at g2
  exact ⟨v, s1, (Option.some.inj g2).symm, h0, h1⟩
theorem PRr_a (h1 : c < its.length) (h2 : j < its.length) (h : PRr kd mv fx its c j) : PRr kd mv fx (its ++ ws) c j := fun t w Ts A hc hj hk => by
  rw [List.getElem?_append_left h1] at hc
  rw [List.getElem?_append_left h2] at hj
  obtain ⟨g1, g2⟩ := h t w Ts A hc hj hk
  exact ⟨g1, fun q => List.mem_append_left _ (g2 q)⟩
/-- isOfStruct, by the tables -/
theorem x_220p (hG : PGr ar kd cf fs Fk Hk nT tm tn hd hb ow hw Bf bI A0 s) (hel : KI (s.2.1 264) a1.toInt / 8 = e) (hc : 0 ≤ e ∧ e < nT) : Par d 220 [.ref 213, .int a1] s (fun v s' => s' = s ∧ ∃ r : Int32, v = some (.int r) ∧ ((r.toInt = 1 ∧ kd e = 1) ∨ (r.toInt = 0 ∧ ¬ kd e = 1))) := by
  cases d with
  | zero => exact Par_0
  | succ d =>
    obtain ⟨⟨g75, -, -, -, -, hn24⟩, gT, -⟩ := id hG
    refine pb_220 ?_
    unfold ub_220_0
    intro k0
    rw [KI_p k0.1] at hel
    refine Par.imp x_185 ?_
    rintro v2 s1 ⟨hs1, x3, rfl, hx3⟩
    have hs1 := hs1.symm
    subst hs1
    rw [hel] at hx3
    refine ⟨x3, rfl, fun w => absurd w (by omega), fun w _ x4 hx4 _ => Par.imp x_185 ?_⟩
    rintro v6 s5 ⟨hs5, x7, rfl, hx7⟩
    have hs5 := hs5.symm
    subst hs5
    rw [hel] at hx7
    refine ⟨x7, rfl, fun _ x8 hx8 _ => ?_⟩
    have e8 : x8.toInt = 24 * bI + e := by omega
    rw [e8]
    unfold ub_220_23 ub_220_24
    have hk := (gT e hc.1 hc.2).1
    refine ⟨fun w2 _ => ⟨rfl, 0, rfl, Or.inr ⟨by decide, fun q => ?_⟩⟩, fun w2 _ => ⟨rfl, 1, rfl, Or.inl ⟨by decide, ?_⟩⟩⟩
    · rcases hk with q1 | q1
      · omega
      · omega
    · rcases hk with q1 | q1
      · exact q1.1
      · exact absurd q1.2 w2
/-- howMany -/
theorem x_258 (hI : RIl ar nT wr hw Hk fx Dr Bd its s) (h1 : a1.toInt = (k : Int)) : Par d 258 [.ref 213, .int a1] s (fun v s' => s' = s ∧ ∃ r : Int32, v = some (.int r) ∧ r.toInt = ((ofS k its).length : Int)) := by
  cases d with
  | zero => exact Par_0
  | succ d =>
    obtain ⟨⟨n1, n2⟩, -, n3, -⟩ := id hI
    have z0 : (0 : Int32).toInt = 0 := by decide
    have z1 : (1 : Int32).toInt = 1 := by decide
    refine pb_258 ?_
    unfold ub_258_0
    refine ⟨fun b1 b2 b3 u => a1 = b1 ∧ s = u ∧ ∃ i : Nat, b3.toInt = (i : Int) ∧ i ≤ its.length ∧ b2.toInt = ((ofS k (its.take i)).length : Int), ⟨rfl, rfl, 0, by decide, Nat.zero_le _, by show (0 : Int32).toInt = ((0 : Nat) : Int); decide⟩, ?_⟩
    rintro b1 b2 b3 u ⟨e1, e2, i, i1, i2, i3⟩
    subst e1 e2
    unfold ub_258_4
    refine ⟨fun hend => ⟨rfl, b2, rfl, ?_⟩, fun hlt _ => ?_⟩
    · have ei : i = its.length := by omega
      rw [ei, List.take_length] at i3
      exact i3
    · have hi : i < its.length := by omega
      obtain ⟨x, hx⟩ : ∃ x, its[i]? = some x := ⟨_, List.getElem?_eq_getElem hi⟩
      obtain ⟨E, -, -, -, ⟨v1, -⟩, -⟩ := n3 i x hx
      have et : its.take (i + 1) = its.take i ++ [x] := by
        rw [List.take_add_one, hx]
        rfl
      have hof : (ofS k (its.take (i + 1))).length = (ofS k (its.take i)).length + (if x.1 = k then 1 else 0) := by
        unfold ofS
        rw [et, List.filter_append, List.length_append]
        congr 1
        by_cases e : x.1 = k
        · rw [if_pos e, List.filter_cons_of_pos (by simpa using e)]
          rfl
        · rw [if_neg e, List.filter_cons_of_neg (by simpa using e)]
          rfl
      rw [show b3.toInt.toNat = i by omega]
      unfold ub_258_18
      refine ⟨fun hne _ x1 hx1 _ x2 hx2 => ⟨rfl, rfl, i + 1, by omega, by omega, ?_⟩, fun he _ x1 hx1 _ x2 hx2 => ⟨rfl, rfl, i + 1, by omega, by omega, ?_⟩⟩
      · rw [hof, if_neg (by omega)]
        omega
      · rw [hof, if_pos (by omega)]
        omega
/-- a TYPE's row, a row of CALLS -/
theorem it_0 (hI : RIl ar nT wr hw Hk fx Dr Bd its s) (hj : j < its.length) (h0 : (s.2.1 279 j).toInt = 0) : ∃ A : List Int, its[j]? = some (0, A, 0, []) ∧ TGo ar nT 0 0 A ∧ (s.2.1 283 j).toInt = (A.length : Int) ∧ (20000 ≤ (s.2.1 282 j).toInt ∧ (s.2.1 282 j).toInt + (A.length : Int) ≤ (s.1 118).toInt) ∧ RWel s (s.2.1 282 j).toInt (enI ar A) := by
  obtain ⟨⟨k, A, w, Ts⟩, hx⟩ : ∃ x, its[j]? = some x := ⟨_, List.getElem?_eq_getElem hj⟩
  obtain ⟨E, e1, e2, e3, ⟨⟨v1, v2, v3, v4⟩, ⟨v5, v6⟩, v7⟩⟩ := hI.2.2.1 j _ hx
  have v1 : (s.2.1 279 j).toInt = (k : Int) := v1
  have v4 : E = enI ar (A ++ Ts.flatten) := v4
  rcases v7 with ⟨c1, c2, c3, c4⟩ | ⟨c1, -⟩ | ⟨c1, -⟩
  · have c1 : k = 0 := c1
    have c3 : w = 0 := c3
    have c4 : Ts = [] := c4
    subst c1 c3 c4
    have v4 : E = enI ar A := by
      rw [v4]
      show enI ar (A ++ []) = enI ar A
      rw [List.append_nil]
    have lE : E.length = A.length := by rw [v4, enI_len]
    rw [lE] at e1 e2
    rw [v4] at e3
    exact ⟨A, hx, v5, e1, e2, e3⟩
  · have c1 : k = 1 := c1
    omega
  · have c1 : k = 2 := c1
    omega
theorem it_k (hI : RIl ar nT wr hw Hk fx Dr Bd its s) (hj : j < its.length) (h1 : (s.2.1 279 j).toInt = (k : Int)) : ∃ (t : List Int) (w : Int) (Ts : List (List Int)), its[j]? = some (k, t, w, Ts) := by
  obtain ⟨⟨k', A, w, Ts⟩, hx⟩ : ∃ x, its[j]? = some x := ⟨_, List.getElem?_eq_getElem hj⟩
  obtain ⟨E, e1, e2, e3, ⟨⟨v1, -⟩, -⟩⟩ := hI.2.2.1 j _ hx
  have v1 : (s.2.1 279 j).toInt = (k' : Int) := v1
  have : k' = k := by omega
  subst this
  exact ⟨A, w, Ts, hx⟩
/-- what the loops leave alone -/
theorem IN_r (h : JF nK 0 20000 100000 0 s f) {q : Nat} (hq : q < 264 ∨ (268 < q ∧ q < 279)) : f.2.1 q = s.2.1 q := funext fun i => h.2.1 q i (fun w => by
  have w1 := w.1
  simp only [List.mem_cons, List.not_mem_nil, or_false] at w1
  omega) (fun w => by omega) (fun w => by omega) (fun w => by omega)
theorem IN_t (h : JF nK 0 20000 100000 0 s f) {i : Nat} (hi : (i : Int) < 13000) : f.2.1 264 i = s.2.1 264 i := h.2.1 264 i (fun w => by
  have w1 := w.1
  revert w1
  decide) (fun w => by omega) (fun w => by omega) (fun w => by omega)
theorem IN_PG (h : JF nK 0 20000 100000 0 s f) (hA : Ag ≤ 13000) (g : PGr ar kd cf fs Fk Hk nT tm tn hd hb ow hw Bf bI Ag s) : PGr ar kd cf fs Fk Hk nT tm tn hd hb ow hw Bf bI Ag f := PGr_x (fun q hq => IN_r h (Or.inl hq)) (fun i hi => IN_t h (by omega)) (h.1 75 (by decide)) g
theorem IN_FN (h : JF nK 0 20000 100000 0 s f) (hZ : Z ≤ 13000) (g : FNn ar nT Z wr hw Hk Fk cf fs hd cd bI s) : FNn ar nT Z wr hw Hk Fk cf fs hd cd bI f := fun x hx => by
  obtain ⟨⟨fu, C0, h1, h2⟩, h3⟩ := g x hx
  refine ⟨⟨fu, C0, h1, ?_⟩, h3⟩
  rw [IN_r h (q := 258) (by decide)]
  exact nNd_q (fun q hq => IN_r h (by omega)) (fun i hi => IN_t h (by omega)) fu _ C0 h2
theorem IN_wr (h : JF nK 0 20000 100000 0 s f) (x : Nat) : wHr bI f x = wHr bI s x := by
  unfold wHr
  rw [IN_r h (q := 217) (by decide), IN_r h (q := 244) (by decide)]
set_option maxHeartbeats 4000000 in
/-- a row of CALLS with each TYPE -/
theorem in75p {R54 : Int32 → Int32 → yS → Prop} {R66 : Int32 → Int32 → Int32 → yS → Prop} {Φ : Option Value → yS → Prop} (hW : WLD own b n N T F H S0 G S O s ar kd cf fs Fk Hk nT tm tn hd hb ow hw Bf Ag Z wr fx Cm cd) (hI : INVi own b n N T F H S0 G S s ar nT Hk wr hw fx (DrM ar Cm cd fx (fun c => kd c = 1) (mvR ar kd cf fs Fk tm tn hw hd)) (BdM ar Cm cd fx (fun c => kd c = 1) (mvR ar kd cf fs Fk tm tn hw hd)) Cm cd its f) (h3 : a3.toInt = (c : Int)) (hc : c < its.length) (hΦ : ∀ (ws : List Mit) (g : yS), INVi own b n N T F H S0 G S s ar nT Hk wr hw fx (DrM ar Cm cd fx (fun c => kd c = 1) (mvR ar kd cf fs Fk tm tn hw hd)) (BdM ar Cm cd fx (fun c => kd c = 1) (mvR ar kd cf fs Fk tm tn hw hd)) Cm cd (its ++ ws) g → (¬ (g.1 111).toInt = 0 → ∀ j, j < its.length → PRr kd (mvR ar kd cf fs Fk tm tn hw hd) fx (its ++ ws) c j) → ∀ x : Int32, x.toInt = (c : Int) + 1 → R66 a1 a2 x g) : ubl_257_75 (Par d) R54 R66 a1 a2 a3 0 f Φ := by
  obtain ⟨⟨hPT, hN6, hO, hS⟩, hG, ⟨hAg, hb2, hZ⟩, hwr, hfxe, hN, hFF⟩ := hW
  obtain ⟨mv, hmv⟩ : ∃ mv, mv = mvR ar kd cf fs Fk tm tn hw hd := ⟨_, rfl⟩
  obtain ⟨Dr, hDr⟩ : ∃ Dr, Dr = DrM ar Cm cd fx (fun c => kd c = 1) mv := ⟨_, rfl⟩
  obtain ⟨Bd, hBd⟩ : ∃ Bd, Bd = BdM ar Cm cd fx (fun c => kd c = 1) mv := ⟨_, rfl⟩
  rw [← hmv, ← hDr, ← hBd] at hI hΦ
  obtain ⟨I, hI'⟩ : ∃ I : Int32 → Int32 → Int32 → Int32 → yS → Prop, I = fun z1 z2 z3 z4 g => z1 = a1 ∧ z2 = a2 ∧ z3 = a3 ∧ ∃ (ws : List Mit) (j : Nat), INVi own b n N T F H S0 G S s ar nT Hk wr hw fx Dr Bd Cm cd (its ++ ws) g ∧ z4.toInt = (j : Int) ∧ j ≤ (its ++ ws).length ∧ (¬ (g.1 111).toInt = 0 → ∀ j', j' < j → PRr kd mv fx (its ++ ws) c j') := ⟨_, rfl⟩
  refine ⟨I, ?_, ?_⟩
  · rw [hI']
    exact ⟨rfl, rfl, rfl, [], 0, by rw [List.append_nil]; exact hI, by decide, Nat.zero_le _, fun _ j' hj => absurd hj (Nat.not_lt_zero _)⟩
  intro z1 z2 z3 z4 g hg
  rw [hI'] at hg
  obtain ⟨e1, e2, e3, ws, j, gI, j1, j2, j3⟩ := hg
  have e1 := e1.symm
  have e2 := e2.symm
  have e3 := e3.symm
  subst e1 e2 e3
  obtain ⟨⟨R, gL⟩, gR, g110, gD⟩ := id gI
  have hlen : (g.1 112).toInt = ((its ++ ws).length : Int) := gR.1.1
  have hl150 := gR.1.2
  have la : (its ++ ws).length = its.length + ws.length := by rw [List.length_append]
  have hcl : c < (its ++ ws).length := by omega
  have out : (¬ (g.1 111).toInt = 0 → ∀ j', j' < its.length → PRr kd mv fx (its ++ ws) c j') → ub_257_116 (Par d) R54 R66 a1 a2 a3 z4 g Φ := fun h => by
    unfold ub_257_116
    exact fun _ x hx => hΦ ws g gI h x (by omega)
  have nxt : ∀ (ws2 : List Mit) (g2 : yS), INVi own b n N T F H S0 G S s ar nT Hk wr hw fx Dr Bd Cm cd (its ++ ws2) g2 → (its ++ ws).length ≤ (its ++ ws2).length → j < (its ++ ws).length → (¬ (g2.1 111).toInt = 0 → ∀ j', j' < j + 1 → PRr kd mv fx (its ++ ws2) c j') → ub_257_114 (Par d) R54 R66 I a1 a2 a3 z4 g2 Φ := fun ws2 g2 q1 q2 q3 q4 => by
    unfold ub_257_114
    intro _ x hx
    rw [hI']
    exact ⟨rfl, rfl, rfl, ws2, j + 1, q1, by omega, by omega, q4⟩
  unfold ub_257_75
  rw [show a3.toInt.toNat = c by omega, show z4.toInt.toNat = j by omega]
  refine ⟨fun hend => out (fun w j' hj' => j3 w j' (by omega)), fun hlt => ⟨fun hf => out (fun w => absurd hf w), fun hf _ => ⟨fun hn1 => out (fun _ j' _ => ?_), fun h1 _ => ⟨fun hn0 => nxt ws g gI (Nat.le_refl _) (by omega) (fun hf' j' hj' => ?_), fun h0 _ => ?_⟩⟩⟩⟩
  · intro t w Ts A hc1 _ _
    obtain ⟨E, -, -, -, ⟨⟨v1, -⟩, -⟩⟩ := gR.2.2.1 c _ hc1
    have v1 : (g.2.1 279 c).toInt = 1 := v1
    exact absurd v1 hn1
  · rcases Nat.lt_or_eq_of_le (Nat.le_of_lt_succ hj') with q | q
    · exact j3 hf' j' q
    · rw [q]
      intro t w Ts A _ hj1 _
      obtain ⟨E, -, -, -, ⟨⟨v1, -⟩, -⟩⟩ := gR.2.2.1 j _ hj1
      have v1 : (g.2.1 279 j).toInt = 0 := v1
      exact absurd v1 hn0
  have hjl : j < (its ++ ws).length := by omega
  obtain ⟨A, hA, tA, rA3, rA2, rAw⟩ := it_0 gR hjl h0
  obtain ⟨t, w, Ts, hcr⟩ := it_k (k := 1) gR hcl h1
  obtain ⟨ca, A', eA⟩ : ∃ ca A', A = ca :: A' := by
    cases A with
    | nil => exact absurd (TGo_ne tA) (Nat.lt_irrefl 0)
    | cons ca A' => exact ⟨ca, A', rfl⟩
  have ehd : A.headD 0 = ca := by
    rw [eA]
    rfl
  have mca : ca ∈ A := by
    rw [eA]
    exact List.mem_cons_self
  have hc24 := cd_cl tA.2.2 ca mca
  have hcT : ca < nT := tA.2.1.2 ca mca hc24.2
  obtain ⟨gJ, M, gW, g70⟩ := id gL
  have PGg := IN_PG gJ hAg hG
  have hac := PGg.2.2.2.2.2.2.1 ca
  have hel : KI (g.2.1 264) (g.2.1 282 j).toInt / 8 = ca := by
    have := rAw 0 (rhE ar 1000 2000 ca) (by rw [eA]; rfl)
    rw [show (g.2.1 282 j).toInt + ((0 : Nat) : Int) = (g.2.1 282 j).toInt by omega, rhE_0 hc24.2] at this
    omega
  obtain ⟨c1, c2, c3, c4, c5, c6⟩ := id gW
  obtain ⟨M92, M20⟩ := RW_M c2
  obtain ⟨o1, o2, o3, o4, o5, o6, o7⟩ := id c2
  have hjR : j < R := by omega
  have hcR : c < R := by omega
  obtain ⟨p, l, m, t1, t2, t3, t4, t5, t6, t7⟩ := o7 j hjR
  obtain ⟨oV, hl60⟩ := t7.2.2.1 h0
  obtain ⟨v, Vs, cV⟩ := cutT_ex oV.1
  have hty : tyE g p / 8 < T ∨ 1000 ≤ tyE g p / 8 := by
    rw [(cut_len cV).2]
    have gT' : gT G = T := by rw [← c1.2.2.2.2.2.2.2.1]; exact (pgA c1.1).1
    rcases (okE_cut cV ⟨oV.1, oV.2.1⟩).1 with w | w
    · exact Or.inl (by omega)
    · exact absurd w.2.2 id
  refine Par.imp (Par_and (x_220p (A0 := Ag) PGg hel ⟨hc24.1, hcT⟩) (Tot_Par (s_220 (d := 0) (H := H) (p := p) c1.1 c1.2.2.2.2.1 c1.2.2.2.2.2.2.1 t1 (by omega) hty))) ?_
  rintro vv w1 ⟨⟨es, x3, rfl, hx3⟩, -, x3', e3', hr⟩
  have e3 : x3' = x3 := by
    cases e3'
    rfl
  rw [e3] at hr
  have es := es.symm
  subst es
  refine ⟨x3, rfl, fun z => nxt ws g gI (Nat.le_refl _) hjl (fun hf' j' hj' => ?_), fun z => ?_⟩
  · rcases Nat.lt_or_eq_of_le (Nat.le_of_lt_succ hj') with q | q
    · exact j3 hf' j' q
    · rw [q]
      intro t2 w2 Ts2 A2 _ hj1 hk
      rw [hA] at hj1
      have eA2 : A2 = A := (congrArg (fun x : Mit => x.2.1) (Option.some.inj hj1)).symm
      rw [eA2, ehd] at hk
      rcases hx3 with q3 | q3
      · omega
      · exact absurd hk q3.2
  intro s4 hs4 _ _
  have hkd : kd (A.headD 0) = 1 := by
    rw [ehd]
    rcases hx3 with q3 | q3
    · exact q3.2
    · exact absurd q3.1 z
  have F4 : ∀ q, s4.1 q = if q = 64 then 100000 else g.1 q := fun q => by rw [hs4, sfr_1]
  have r4 : s4.2 = g.2 := by rw [hs4, sfr_2]
  have sI := IL_sf gL (x := 100000) (by decide)
  rw [← hs4] at sI
  obtain ⟨sJ, M2, sW, s70⟩ := id sI
  have sPT : PT b n N F H G S O s4 := PT_ca hPT (fun f _ => by rw [JF_row sJ (by decide)]) (fun l h _ _ => JF_CA sJ hS (Nat.le_refl _) (Nat.le_refl _))
  have et : ∀ q, tyE s4 q = tyE g q := fun q => by
    unfold tyE
    rw [r4]
  have hst : tyE g p / 8 < T ∧ ¬ gst G (tyE g p / 8) = 0 := by
    rcases hr with ⟨-, q1, q2⟩ | ⟨q, -⟩
    · rw [c1.2.2.2.2.2.2.2.1] at q2
      exact ⟨q1, q2⟩
    · exact absurd q z
  have R4 : RIl ar nT wr hw Hk fx Dr Bd (its ++ ws) s4 := RIl_f gR (by rw [F4, if_neg (by decide)]) (by rw [F4, if_neg (by decide)]) (fun q j _ _ _ => by rw [r4]) (fun j _ _ => by rw [r4]) (fun w => gR.2.2.2.2 (by rw [F4, if_neg (by decide)] at w; exact w))
  have f4 : ¬ (s4.1 111).toInt = 0 := by
    rw [F4, if_neg (by decide)]
    exact hf
  have hDc : Dr (1, t, w, Ts) := gR.2.2.2.1.2 _ (List.mem_of_getElem? hcr)
  have hDa : Dr (0, A, 0, []) := gR.2.2.2.1.2 _ (List.mem_of_getElem? hA)
  have hcl3 : clM ar Cm cd fx (fun c => kd c = 1) mv Dr := by
    rw [hDr]
    exact DrM_c
  have hD2 : mv A t = 0 → Dr (2, A, fx (A.headD 0) w, Ts) := fun hm => hcl3.2.1 t w Ts A hDc hDa hkd hm
  have emv : mtV ar kd (rso kd cf fs Fk tm tn hw) hw hd tm tn A A t = mv A t := by
    rw [hmv]
    rfl
  have hB9 : mv A t = 9 → Bd := fun hm => by
    rw [hBd]
    rw [hDr] at hDc hDa
    exact Or.inr (Or.inr ⟨t, w, Ts, A, hDc, hDa, hkd, hm⟩)
  have hX2 : mv A t = 0 → (∀ x, hsC ar (eta (argT ar A) Ts) (cd (fx (A.headD 0) w)) x → Dr x) ∧ (grC (eta (argT ar A) Ts) (cd (fx (A.headD 0) w)) → Bd) := fun hm => ⟨fun x hx => hcl3.2.2 A _ Ts x (hD2 hm) hx, fun hgr => by
    have h2 := hD2 hm
    rw [hBd]
    rw [hDr] at h2
    exact Or.inr (Or.inl ⟨A, _, Ts, h2, hgr⟩)⟩
  have hF0 : mv A t = 0 → ∃ kf : Nat, kf < Fk ∧ fx (A.headD 0) w = (kf : Int) ∧ Ts.length = (hd (fs kf)).1 := fun hm => hFF g R (its ++ ws) c j t w Ts A Dr Bd gL gR hcr hA hkd (by rw [← hmv]; exact hm)
  have X := x_256 (d := d) (e := 1) (c := c) (A := A) (t := t) (w := w) (Ts := Ts) (its := its ++ ws) (Dr := Dr) (Bd := Bd) (wr := wr) (fx := fx) (cd := cd) (a1 := s4.2.1 282 j) (a2 := s4.2.1 283 j) (a3 := a3) hZ (IN_PG sJ hAg hG) hAg (by omega) (fun g' hg' => by rw [IN_wr sJ]; exact hwr g' hg') hfxe (IN_FN sJ hZ hN) R4 (by rw [F4, if_pos rfl]; decide) (by rw [s70]; rfl) (by decide) hcr h3 tA (by rw [r4, F4, if_neg (by decide)]; exact rA2) (by
    rw [r4]
    intro i c' hc'
    rw [r4]
    exact rAw i c' hc') (by rw [r4]; exact rA3) hkd (by rw [emv]; exact hF0) (by rw [emv]; exact hB9) (by rw [emv]; exact hD2) (by rw [emv]; exact hX2) (fun _ => (gD hf).2)
  rw [emv] at X
  refine Par.imp (Par_and X (Tot_Par (s_256 (it := j) (ic := c) (p := 0) (l := 0) (pc := 0) (lc := 0) (E := 1) (AEH_all (own := own) (b := b) (n := n) (N := N) (T := T) (F := F) (H := H) (S0 := S0) (G := G) (S := S) (O := O) 11) (by decide) sW sPT hN6 hO (by rw [s70]; rfl) (by omega) (by omega) hcR (by rw [r4]; exact h1) hjR (by rw [r4]; exact h0) rfl rfl h3 (fun p' hp' => ?_)))) ?_
  · have hp2 : (s4.2.1 282 j).toInt = (p' : Int) := hp'
    rw [r4] at hp2
    have : p' = p := by omega
    rw [this, et]
    exact hst
  rintro vv u ⟨⟨rfl, Fu, -, -, us, Iu, hu⟩, -, uJ, u70, R2, M3, uW, k1, k2⟩
  rw [List.append_assoc] at Iu hu
  have lb : (its ++ (ws ++ us)).length = (its ++ ws).length + us.length := by rw [← List.append_assoc, List.length_append]
  refine ⟨rfl, nxt (ws ++ us) u ⟨⟨R2, JF_tr sJ uJ (by decide) (by omega) (RW_M sW.2.1).2 (Nat.le_refl _) (by omega), M3, uW, by rw [u70]; exact s70⟩, Iu, ?_, fun hf' => ⟨?_, (hu hf').1⟩⟩ (by omega) hjl (fun hf' j' hj' => ?_)⟩
  · rw [Fu.1 110 (by decide), F4, if_neg (by decide)]
    exact g110
  · rw [← List.append_assoc]
    exact dn_a (gD hf).1
  · rcases Nat.lt_or_eq_of_le (Nat.le_of_lt_succ hj') with q | q
    · rw [← List.append_assoc]
      exact PRr_a hcl (by omega) (j3 hf j' q)
    · rw [q]
      intro t2 w2 Ts2 A2 hc2 hj2 hk2
      rw [← List.append_assoc, List.getElem?_append_left hcl, hcr] at hc2
      rw [← List.append_assoc, List.getElem?_append_left hjl, hA] at hj2
      have eA2 : A2 = A := (congrArg (fun x : Mit => x.2.1) (Option.some.inj hj2)).symm
      have et2 : t2 = t := (congrArg (fun x : Mit => x.2.1) (Option.some.inj hc2)).symm
      have ew2 : w2 = w := (congrArg (fun x : Mit => x.2.2.1) (Option.some.inj hc2)).symm
      have eT2 : Ts2 = Ts := (congrArg (fun x : Mit => x.2.2.2) (Option.some.inj hc2)).symm
      rw [eA2, et2, ew2, eT2]
      exact (hu hf').2
end ZVX
