/-! ===== what holds of every run of the reference that ends ===== -/
def Lb (d n ml : Nat) (ret : Option FieldType) (E l : xCd) (rl st : List Value) (s : yS) (P : Option Value → yS → Prop) : Prop :=
  ∀ k, k ≤ n → ∀ (pre post : xH) (loc : List (Nat × Value)) (res : xR), pre.length = 213 → yL rl loc → xit (ycx d) (xmc ml ret E E) k (some (.inl (xmc ml ret E l, (loc, st, yh pre post s, 0, 0)))) = some (.inr res) → ∃ v s', res = (v, yh pre post s', 0, 0) ∧ OUT s s' ∧ P v s'
def Par (d i : Nat) (vs : List Value) (s : yS) (P : Option Value → yS → Prop) : Prop :=
  ∀ (pre post : xH) (res : xR), pre.length = 213 → ycx d i vs (yh pre post s) = some res → ∃ v s', res = (v, yh pre post s', 0, 0) ∧ OUT s s' ∧ P v s'
theorem Par.imp {d i : Nat} {vs : List Value} {s : yS} {P Q : Option Value → yS → Prop} (h : Par d i vs s P) (hq : ∀ v s', P v s' → Q v s') : Par d i vs s Q := by
  intro pre post res hp hr
  obtain ⟨v, s', h1, h2, h3⟩ := h pre post res hp hr
  exact ⟨v, s', h1, h2, hq v s' h3⟩
theorem Par_0 {i : Nat} {vs : List Value} {s : yS} {P : Option Value → yS → Prop} : Par 0 i vs s P := fun _ _ _ _ hr => by cases hr
theorem Par_and {d i : Nat} {vs : List Value} {s : yS} {P Q : Option Value → yS → Prop} (h : Par d i vs s P) (g : Par d i vs s Q) : Par d i vs s (fun v s' => P v s' ∧ Q v s') := by
  intro pre post res hp hr
  obtain ⟨v, s', h1, h2, h3⟩ := h pre post res hp hr
  obtain ⟨v2, s2, g1, g2, g3⟩ := g pre post res hp hr
  rw [h1] at g1
  have e1 : v = v2 := congrArg Prod.fst g1
  have e2 : yh pre post s' = yh pre post s2 := congrArg (fun q => q.2.1) g1
  have e3 := yh_one hp e2 h2 g2
  subst e1
  subst e3
  exact ⟨v, s', h1, h2, h3, g3⟩
/-- a run that ends, and what holds of each that does -/
theorem Tot_par {d d' i : Nat} {vs : List Value} {s : yS} {P Q : Option Value → yS → Prop} (h : Tot d i vs s P) (hd : d ≤ d') (g : Par d' i vs s Q) : Tot d' i vs s (fun v s' => P v s' ∧ Q v s') := by
  obtain ⟨v, s', h1, h0, h2⟩ := h
  have h3 : ∀ (pre post : xH), pre.length = 213 → ycx d' i vs (yh pre post s) = some (v, yh pre post s', 0, 0) := fun pre post hp => ycx_mono hd i vs _ _ (h2 pre post hp)
  have hl : (List.replicate 213 (Sum.inr (0, []) : xE)).length = 213 := List.length_replicate
  obtain ⟨v2, s2, g1, g2, g3⟩ := g _ [] _ hl (h3 _ [] hl)
  have e1 : v = v2 := congrArg Prod.fst g1
  have e2 : yh (List.replicate 213 (Sum.inr (0, []) : xE)) [] s' = yh (List.replicate 213 (Sum.inr (0, []) : xE)) [] s2 := congrArg (fun q => q.2.1) g1
  have e3 := yh_one hl e2 h0 g2
  subst e1
  subst e3
  exact ⟨v, s', ⟨h1, g3⟩, h0, h3⟩
section LB
variable {d n ml : Nat} {ret : Option FieldType} {E : xCd} {pc len : Nat} {i : Instr} {r : xCd} {rl st : List Value} {s : yS} {P : Option Value → yS → Prop}
theorem Lb.imp {l : xCd} {Q : Option Value → yS → Prop} (h : Lb d n ml ret E l rl st s P) (hq : ∀ v s', P v s' → Q v s') : Lb d n ml ret E l rl st s Q := by
  intro k hk pre post loc res hp hl hr
  obtain ⟨v, s', h1, h2, h3⟩ := h k hk pre post loc res hp hl hr
  exact ⟨v, s', h1, h2, hq v s' h3⟩
theorem Lb_le {m : Nat} {l : xCd} (hm : m ≤ n) (h : Lb d n ml ret E l rl st s P) : Lb d m ml ret E l rl st s P := fun k hk => h k (Nat.le_trans hk hm)
theorem Lb_w {l : xCd} (h : Lb d (n + 1) ml ret E l rl st s P) : Lb d n ml ret E l rl st s P := Lb_le (Nat.le_succ n) h
theorem Lb_0 {l : xCd} : Lb d 0 ml ret E l rl st s P := by
  intro k hk pre post loc res hp hl hr
  have e : k = 0 := by omega
  subst e
  cases hr
theorem lb_gen {f : xF} (hf : xIt xL_12 ml ret false E pc i len r = f) (h : ∀ (pre post : xH) (loc : List (Nat × Value)), pre.length = 213 → yL rl loc → yck i loc st = true → ∀ z, f (ycx d) (loc, st, yh pre post s, 0, 0) = some z → (∃ loc' rl' st' s', z = .inl (none, (loc', st', yh pre post s', 0, 0)) ∧ yL rl' loc' ∧ OUT s s' ∧ Lb d n ml ret E r rl' st' s' P) ∨ (∃ t st', z = .inl (some t, (loc, st', yh pre post s, 0, 0)) ∧ Lb d n ml ret E (E.drop t) rl st' s P) ∨ ∃ v, z = .inr (v, yh pre post s, 0, 0) ∧ P v s) : Lb d (n + 1) ml ret E ((pc, i, len) :: r) rl st s P := by
  intro k hk pre post loc res hp hl hr
  cases k with
  | zero => cases hr
  | succ k =>
    rw [xit_s, xmc_s] at hr
    dsimp only at hr
    rw [hf] at hr
    cases hz : yCk i f (ycx d) (loc, st, yh pre post s, 0, 0) with
    | none =>
      rw [hz] at hr
      dsimp only at hr
      rw [xit_none] at hr
      cases hr
    | some z =>
      rw [hz] at hr
      obtain ⟨k1, k2⟩ := yCk_inv hz
      rcases h pre post loc hp hl k1 z k2 with ⟨loc', rl', st', s', rfl, h1, h2, h3⟩ | ⟨t, st', rfl, h3⟩ | ⟨v, rfl, h3⟩
      · obtain ⟨v, s2, e1, e2, e3⟩ := h3 k (by omega) pre post loc' res hp h1 hr
        exact ⟨v, s2, e1, OUT_tr h2 e2, e3⟩
      · dsimp only [xnx] at hr
        rw [xmc_drop] at hr
        exact h3 k (by omega) pre post loc res hp hl hr
      · dsimp only at hr
        rw [xit_done] at hr
        cases hr
        exact ⟨v, s, rfl, OUT_rf, h3⟩
theorem lb_next {rl' st' : List Value} {s' : yS} {f : xF} (hf : xIt xL_12 ml ret false E pc i len r = f) (F : List (Nat × Value) → List (Nat × Value)) (hF : ∀ loc, yL rl loc → yL rl' (F loc)) (ho : OUT s s') (h : ∀ (pre post : xH) (loc : List (Nat × Value)), pre.length = 213 → yL rl loc → f (ycx d) (loc, st, yh pre post s, 0, 0) = some (.inl (none, (F loc, st', yh pre post s', 0, 0)))) (g : Lb d n ml ret E r rl' st' s' P) : Lb d (n + 1) ml ret E ((pc, i, len) :: r) rl st s P := by
  refine lb_gen hf (fun pre post loc hp hl _ z hz => Or.inl ⟨F loc, rl', st', s', ?_, hF loc hl, ho, g⟩)
  rw [h pre post loc hp hl] at hz
  exact (Option.some.inj hz).symm
theorem lb_jump {st' : List Value} {t : Nat} {f : xF} (hf : xIt xL_12 ml ret false E pc i len r = f) (h : ∀ (pre post : xH) (loc : List (Nat × Value)), f (ycx d) (loc, st, yh pre post s, 0, 0) = some (.inl (some t, (loc, st', yh pre post s, 0, 0)))) (g : Lb d n ml ret E (E.drop t) rl st' s P) : Lb d (n + 1) ml ret E ((pc, i, len) :: r) rl st s P := by
  refine lb_gen hf (fun pre post loc hp hl _ z hz => Or.inr (Or.inl ⟨t, st', ?_, g⟩))
  rw [h pre post loc] at hz
  exact (Option.some.inj hz).symm
theorem lb_end {v : Option Value} {f : xF} (hf : xIt xL_12 ml ret false E pc i len r = f) (h : ∀ (pre post : xH) (loc : List (Nat × Value)), f (ycx d) (loc, st, yh pre post s, 0, 0) = some (.inr (v, yh pre post s, 0, 0))) (hp : P v s) : Lb d (n + 1) ml ret E ((pc, i, len) :: r) rl st s P := by
  refine lb_gen hf (fun pre post loc _ hl _ z hz => Or.inr (Or.inr ⟨v, ?_, hp⟩))
  rw [h pre post loc] at hz
  exact (Option.some.inj hz).symm
theorem lb_fg {l : xCd} (k : Nat) (g : Lb d n ml ret E l (rl.set k .null) st s P) : Lb d n ml ret E l rl st s P := fun m hm pre post loc res hp hl hr => g m hm pre post loc res hp (yL_fg hl) hr
theorem lb_ld {k : Nat} {ok : Value → Bool} {v : Value} (hf : xIt xL_12 ml ret false E pc i len r = xLd k ok) (hk : rl[k]? = some v) (hv : (ynn v && ok v) = true) (g : Lb d n ml ret E r rl (v :: st) s P) : Lb d (n + 1) ml ret E ((pc, i, len) :: r) rl st s P := by
  rw [Bool.and_eq_true] at hv
  refine lb_next hf (fun l => l) (fun _ h => h) OUT_rf (fun pre post loc hp hl => ?_) g
  simp only [xLd, yL_ld hl hk hv.1, hv.2]
theorem lb_st (rl' : List Value) {k : Nat} {ok : Value → Bool} {v : Value} (hf : xIt xL_12 ml ret false E pc i len r = xSt k ok xf1) (hv : (ok v && ylj rl k) = true) (he : rl.set k v = rl') (g : Lb d n ml ret E r rl' st s P) : Lb d (n + 1) ml ret E ((pc, i, len) :: r) rl (v :: st) s P := by
  rw [Bool.and_eq_true] at hv
  subst he
  refine lb_next hf (fun l => (k, v) :: xf1 k l) (fun _ h => yL_st h hv.2) OUT_rf (fun pre post loc hp hl => ?_) g
  simp only [xSt, hv.1]
theorem lb_stL (rl' : List Value) {k : Nat} {ok : Value → Bool} {v : Value} (hf : xIt xL_12 ml ret false E pc i len r = xSt k ok xf2) (hv : (ok v && ylj rl k) = true) (he : (rl.set k v).set (k + 1) .null = rl') (g : Lb d n ml ret E r rl' st s P) : Lb d (n + 1) ml ret E ((pc, i, len) :: r) rl (v :: st) s P := by
  rw [Bool.and_eq_true] at hv
  subst he
  refine lb_next hf (fun l => (k, v) :: xf2 k l) (fun _ h => yL_stL h hv.2) OUT_rf (fun pre post loc hp hl => ?_) g
  simp only [xSt, hv.1]
theorem lb_inc (rl' : List Value) {k : Nat} {m : Int} {x : Int32} (hf : xIt xL_12 ml ret false E pc (.iinc k m) len r = xInc k m) (hk : rl[k]? = some (.int x)) (hv : ylj rl k = true) (he : rl.set k (.int (x + Int32.ofInt m)) = rl') (g : ynf (x.toInt + m) = true → Lb d n ml ret E r rl' st s P) : Lb d (n + 1) ml ret E ((pc, .iinc k m, len) :: r) rl st s P := by
  subst he
  refine lb_gen hf (fun pre post loc hp hl hc z hz => Or.inl ⟨(k, .int (x + Int32.ofInt m)) :: xf1 k loc, _, st, s, ?_, yL_st hl hv, OUT_rf, g ?_⟩)
  · simp only [xInc, yL_ld hl hk rfl] at hz
    exact (Option.some.inj hz).symm
  · unfold yck at hc
    dsimp only at hc
    rw [yL_ld hl hk rfl] at hc
    exact hc
theorem lb_c (st' : List Value) (op : List Value → Option (List Value)) (hf : xIt xL_12 ml ret false E pc i len r = xPure op) (ho : op st = some st') (g : Lb d n ml ret E r rl st' s P) : Lb d (n + 1) ml ret E ((pc, i, len) :: r) rl st s P := by
  refine lb_next hf (fun l => l) (fun _ h => h) OUT_rf (fun pre post loc hp hl => ?_) g
  simp only [xPure, ho]
theorem lb_ca (st' : List Value) (op : List Value → Option (List Value)) (hf : xIt xL_12 ml ret false E pc i len r = xPure op) (ho : op st = some st') (g : ∀ loc, yck i loc st = true → Lb d n ml ret E r rl st' s P) : Lb d (n + 1) ml ret E ((pc, i, len) :: r) rl st s P := by
  refine lb_gen hf (fun pre post loc hp hl hc z hz => Or.inl ⟨loc, rl, st', s, ?_, hl, OUT_rf, g loc hc⟩)
  simp only [xPure, ho] at hz
  exact (Option.some.inj hz).symm
theorem lb_br {c : List Value → Option (Bool × List Value)} {t : Nat} {b : Bool} {st' : List Value} (hf : xIt xL_12 ml ret false E pc i len r = xBr c t) (hc : c st = some (b, st')) (g1 : b = true → Lb d n ml ret E (E.drop t) rl st' s P) (g2 : b = false → Lb d n ml ret E r rl st' s P) : Lb d (n + 1) ml ret E ((pc, i, len) :: r) rl st s P := by
  cases b with
  | true => exact lb_jump hf (fun pre post loc => by simp only [xBr, hc]) (g1 rfl)
  | false => exact lb_next hf (fun l => l) (fun _ h => h) OUT_rf (fun pre post loc hp hl => by simp only [xBr, hc]) (g2 rfl)
theorem lb_brP {c : List Value → Option (Bool × List Value)} {t : Nat} {p : Prop} {dp : Decidable p} {st' : List Value} (hf : xIt xL_12 ml ret false E pc i len r = xBr c t) (hc : c st = some (@decide p dp, st')) (g : (p → Lb d n ml ret E (E.drop t) rl st' s P) ∧ (¬ p → Lb d n ml ret E r rl st' s P)) : Lb d (n + 1) ml ret E ((pc, i, len) :: r) rl st s P :=
  lb_br hf hc (fun h => g.1 (of_decide_eq_true h)) (fun h => g.2 (of_decide_eq_false h))
theorem lb_brN {c : List Value → Option (Bool × List Value)} {t : Nat} {p : Prop} {dp : Decidable p} {st' : List Value} (hf : xIt xL_12 ml ret false E pc i len r = xBr c t) (hc : c st = some (!@decide p dp, st')) (g : (¬ p → Lb d n ml ret E (E.drop t) rl st' s P) ∧ (p → Lb d n ml ret E r rl st' s P)) : Lb d (n + 1) ml ret E ((pc, i, len) :: r) rl st s P :=
  lb_br hf hc (fun h => g.1 (by
    intro hp
    rw [decide_eq_true hp] at h
    cases h)) (fun h => g.2 (by
    by_cases hp : p
    · exact hp
    · rw [decide_eq_false hp] at h
      cases h))
theorem lb_go {t : Nat} (hf : xIt xL_12 ml ret false E pc i len r = xBr xc_go t) (g : Lb d n ml ret E (E.drop t) rl st s P) : Lb d (n + 1) ml ret E ((pc, i, len) :: r) rl st s P :=
  lb_jump hf (fun pre post loc => rfl) g
theorem lb_get {k : Nat} {v : Value} (hf : xIt xL_12 ml ret false E pc i len r = xGet 12 k) (hk : yf[k]? = some v) (g : Lb d n ml ret E r rl (yfv s k v :: st) s P) : Lb d (n + 1) ml ret E ((pc, i, len) :: r) rl (.ref 213 :: st) s P := by
  refine lb_next hf (fun l => l) (fun _ h => h) OUT_rf (fun pre post loc hp hl => ?_) g
  simp only [xGet, yh_o hp, yfl_at hk, show Nat.beq 12 12 = true from rfl]
theorem lb_put {k t : Nat} {z v : Int32} (hf : xIt xL_12 ml ret false E pc i len r = xPut 12 k t) (hk : yf[k]? = some (.int z)) (g : xfT t (.int v) = true → Lb d n ml ret E r rl st (sf s k v) P) : Lb d (n + 1) ml ret E ((pc, i, len) :: r) rl (.int v :: .ref 213 :: st) s P := by
  cases ht : xfT t (.int v) with
  | true =>
    refine lb_next hf (fun l => l) (fun _ h => h) (OUT_sf (v := v) hk) (fun pre post loc hp hl => ?_) (g ht)
    have h1 : Nat.blt k (yfl s).length = true := Nat.ble_eq_true_of_le (by
      have h2 := (List.getElem?_eq_some_iff.mp hk).1
      unfold yfl
      rw [List.length_mapIdx]
      exact h2)
    simp only [xPut, yh_o hp, show Nat.beq 12 12 = true from rfl, h1, ht, Bool.and_self, yh_sf hp hk]
  | false =>
    refine lb_gen hf (fun pre post loc hp hl _ z hz => ?_)
    simp only [xPut, yh_o hp, ht, Bool.and_false] at hz
    cases hz
theorem lb_ial {p m : Nat} {x : Int32} (hf : xIt xL_12 ml ret false E pc i len r = xIal) (hq : ytab p = some (0, m)) (g : xIn x m = true → Lb d n ml ret E r rl (.int (s.2.1 p x.toNatClampNeg) :: st) s P) : Lb d (n + 1) ml ret E ((pc, i, len) :: r) rl (.int x :: .ref p :: st) s P := by
  cases hx : xIn x m with
  | true =>
    refine lb_next hf (fun l => l) (fun _ h => h) OUT_rf (fun pre post loc hp hl => ?_) (g hx)
    simp only [xIal, yh_a hp hq, ycell, hx]
  | false =>
    refine lb_gen hf (fun pre post loc hp hl _ z hz => ?_)
    simp only [xIal, yh_a hp hq, ycell, hx] at hz
    cases hz
theorem lb_zal {p m : Nat} {x : Int32} (hf : xIt xL_12 ml ret false E pc i len r = xZal) (hq : ytab p = some (2, m)) (g : xIn x m = true → Lb d n ml ret E r rl (.int (s.2.1 p x.toNatClampNeg) :: st) s P) : Lb d (n + 1) ml ret E ((pc, i, len) :: r) rl (.int x :: .ref p :: st) s P := by
  cases hx : xIn x m with
  | true =>
    refine lb_next hf (fun l => l) (fun _ h => h) OUT_rf (fun pre post loc hp hl => ?_) (g hx)
    simp only [xZal, yh_a hp hq, ycell, hx]
  | false =>
    refine lb_gen hf (fun pre post loc hp hl _ z hz => ?_)
    simp only [xZal, yh_a hp hq, ycell, hx] at hz
    cases hz
theorem lb_lal {p m : Nat} {x : Int32} (hf : xIt xL_12 ml ret false E pc i len r = xLal) (hq : ytab p = some (1, m)) (g : xIn x m = true → Lb d n ml ret E r rl (.long (s.2.2 p x.toNatClampNeg) :: st) s P) : Lb d (n + 1) ml ret E ((pc, i, len) :: r) rl (.int x :: .ref p :: st) s P := by
  cases hx : xIn x m with
  | true =>
    refine lb_next hf (fun l => l) (fun _ h => h) OUT_rf (fun pre post loc hp hl => ?_) (g hx)
    simp only [xLal, yh_a hp hq, ycell, hx]
  | false =>
    refine lb_gen hf (fun pre post loc hp hl _ z hz => ?_)
    simp only [xLal, yh_a hp hq, ycell, hx] at hz
    cases hz
theorem lb_ias {p m : Nat} {x v : Int32} (hf : xIt xL_12 ml ret false E pc i len r = xIas) (hq : ytab p = some (0, m)) (g : xIn x m = true → Lb d n ml ret E r rl st (sa s p x.toNatClampNeg v) P) : Lb d (n + 1) ml ret E ((pc, i, len) :: r) rl (.int v :: .int x :: .ref p :: st) s P := by
  cases hx : xIn x m with
  | true =>
    refine lb_next hf (fun l => l) (fun _ h => h) (OUT_sa (i := x.toNatClampNeg) (v := v) hq (by decide)) (fun pre post loc hp hl => ?_) (g hx)
    simp only [xIas, yh_a hp hq, ycell, hx, yh_sa hp hq (show (0 : Nat) ≠ 1 by decide)]
  | false =>
    refine lb_gen hf (fun pre post loc hp hl _ z hz => ?_)
    simp only [xIas, yh_a hp hq, ycell, hx] at hz
    cases hz
theorem lb_zas {p m : Nat} {x v : Int32} (hf : xIt xL_12 ml ret false E pc i len r = xZas) (hq : ytab p = some (2, m)) (g : xIn x m = true → (v == 0 || v == 1) = true → Lb d n ml ret E r rl st (sa s p x.toNatClampNeg v) P) : Lb d (n + 1) ml ret E ((pc, i, len) :: r) rl (.int v :: .int x :: .ref p :: st) s P := by
  cases hx : (xIn x m && (v == 0 || v == 1)) with
  | true =>
    have hx' := hx
    rw [Bool.and_eq_true] at hx'
    refine lb_next hf (fun l => l) (fun _ h => h) (OUT_sa (i := x.toNatClampNeg) (v := v) hq (by decide)) (fun pre post loc hp hl => ?_) (g hx'.1 hx'.2)
    simp only [xZas, yh_a hp hq, ycell, hx, yh_sa hp hq (show (2 : Nat) ≠ 1 by decide)]
  | false =>
    refine lb_gen hf (fun pre post loc hp hl _ z hz => ?_)
    simp only [xZas, yh_a hp hq, ycell, hx] at hz
    cases hz
theorem lb_las {p m : Nat} {x : Int32} {v : Int64} (hf : xIt xL_12 ml ret false E pc i len r = xLas) (hq : ytab p = some (1, m)) (g : xIn x m = true → Lb d n ml ret E r rl st (sl s p x.toNatClampNeg v) P) : Lb d (n + 1) ml ret E ((pc, i, len) :: r) rl (.long v :: .int x :: .ref p :: st) s P := by
  cases hx : xIn x m with
  | true =>
    refine lb_next hf (fun l => l) (fun _ h => h) (OUT_sl (i := x.toNatClampNeg) (v := v) hq) (fun pre post loc hp hl => ?_) (g hx)
    simp only [xLas, yh_a hp hq, ycell, hx, yh_sl hp hq]
  | false =>
    refine lb_gen hf (fun pre post loc hp hl _ z hz => ?_)
    simp only [xLas, yh_a hp hq, ycell, hx] at hz
    cases hz
theorem lb_lenS (hf : xIt xL_12 ml ret false E pc i len r = xLenS) (h8 : Nat.ble (xcs st) 8 = true) (g : Lb d n ml ret E r rl (.int 39 :: st) s P) : Lb d (n + 1) ml ret E ((pc, i, len) :: r) rl (.ref 1000000 :: st) s P := by
  refine lb_next hf (fun l => l) (fun _ h => h) OUT_rf (fun pre post loc hp hl => ?_) g
  simp only [xLenS, show Nat.ble 1000000 1000000 = true from rfl, show Nat.blt 1000000 1000007 = true from rfl, h8, Bool.and_self]
  rfl
theorem lb_chS {x : Int32} (hf : xIt xL_12 ml ret false E pc i len r = xChS) (h8 : Nat.ble (xcs st) 8 = true) (g : xIn x 39 = true → Lb d n ml ret E r rl (.int (xch 0 x) :: st) s P) : Lb d (n + 1) ml ret E ((pc, i, len) :: r) rl (.int x :: .ref 1000000 :: st) s P := by
  cases hx : xIn x 39 with
  | true =>
    refine lb_next hf (fun l => l) (fun _ h => h) OUT_rf (fun pre post loc hp hl => ?_) (g hx)
    have h1 : (xIn x (xsl.getD (1000000 % 1000000) 0) && Nat.ble (xcs st) 8) = true := by
      rw [h8, Bool.and_true]
      exact hx
    simp only [xChS, show Nat.ble 1000000 1000000 = true from rfl, show Nat.blt 1000000 1000007 = true from rfl, h1, Bool.and_self]
  | false =>
    refine lb_gen hf (fun pre post loc hp hl _ z hz => ?_)
    have h1 : (xIn x (xsl.getD (1000000 % 1000000) 0) && Nat.ble (xcs st) 8) = false := by
      rw [h8, Bool.and_true]
      exact hx
    simp only [xChS, h1, Bool.and_false] at hz
    cases hz
theorem lb_call (vs st' : List Value) {j m : Nat} {ci : Option Nat} (hf : xIt xL_12 ml ret false E pc i len r = xCall j m ci) (hst : st = vs.reverse ++ st') (hn : (Nat.beq vs.length m && (Nat.ble (xcs st') 8 && yrc ci vs)) = true) (g : Par d j vs s (fun v s1 => Lb d n ml ret E r rl (v.toList ++ st') s1 P)) : Lb d (n + 1) ml ret E ((pc, i, len) :: r) rl st s P := by
  rw [Bool.and_eq_true, Bool.and_eq_true] at hn
  refine lb_gen hf (fun pre post loc hp hl _ z hz => ?_)
  have hn1 := Nat.eq_of_beq_eq_true hn.1
  have e1 : st.take m = vs.reverse := by rw [hst, ← hn1, ← List.length_reverse, List.take_left']; rfl
  have e2 : st.drop m = st' := by rw [hst, ← hn1, ← List.length_reverse, List.drop_left']; rfl
  have e3 : Nat.ble m st.length = true := Nat.ble_eq_true_of_le (by rw [hst, List.length_append, List.length_reverse]; omega)
  simp only [xCall, e1, e2, e3, List.reverse_reverse, hn.2.1, yrc_ok hn.2.2 hp, Bool.and_self] at hz
  cases hr : ycx d j vs (yh pre post s) with
  | none =>
    rw [hr] at hz
    cases hz
  | some res =>
    rw [hr] at hz
    obtain ⟨v, s1, h1, h2, h3⟩ := g pre post res hp hr
    subst h1
    exact Or.inl ⟨loc, rl, v.toList ++ st', s1, (Option.some.inj hz).symm, hl, h2, h3⟩
theorem lb_ret0 (hf : xIt xL_12 ml ret false E pc i len r = xRet0) (hp : P none s) : Lb d (n + 1) ml ret E ((pc, i, len) :: r) rl [] s P := lb_end hf (fun _ _ _ => rfl) hp
theorem lb_retI {v : Int32} (hf : xIt xL_12 ml ret false E pc i len r = xRetI) (hp : P (some (.int v)) s) : Lb d (n + 1) ml ret E ((pc, i, len) :: r) rl [.int v] s P := lb_end hf (fun _ _ _ => rfl) hp
theorem lb_retZ {v : Int32} (hf : xIt xL_12 ml ret false E pc i len r = xRetZ) (hp : (v == 0 || v == 1) = true → P (some (.int v)) s) : Lb d (n + 1) ml ret E ((pc, i, len) :: r) rl [.int v] s P := by
  cases hv : (v == 0 || v == 1) with
  | true => exact lb_end hf (fun _ _ _ => by simp only [xRetZ, hv]) (hp hv)
  | false =>
    refine lb_gen hf (fun pre post loc hp hl _ z hz => ?_)
    simp only [xRetZ, hv] at hz
    cases hz
theorem lb_sw {lo hi dflt : Int} {offs : Array Int} {x : Int32} (h : ∃ t, (if x.toInt < lo ∨ hi < x.toInt then xgt E pc dflt else match offs.toList[(x.toInt - lo).toNat]? with
    | some off => xgt E pc off
    | none => none) = some t ∧ Lb d n ml ret E (E.drop t) rl st s P) : Lb d (n + 1) ml ret E ((pc, .tableswitch dflt lo hi offs, len) :: r) rl (.int x :: st) s P := by
  obtain ⟨t, h1, h2⟩ := h
  refine lb_jump (t := t) (f := xTs lo hi offs.toList dflt (xgt E pc)) rfl (fun pre post loc => ?_) h2
  simp only [xTs]
  split at h1
  · rename_i hx
    rw [if_pos hx]
    simp only [h1]
  · rename_i hx
    rw [if_neg hx]
    split at h1
    · rename_i off ho
      simp only [ho, h1]
    · cases h1
end LB
theorem par_of {d i ml : Nat} {vs : List Value} {s : yS} {P : Option Value → yS → Prop} {E : xCd} {ret : Option FieldType} (hF : ycF i = some (ml, ret, E)) (g : ∀ n, Lb d n ml ret E E (yin ml vs) [] s P) : Par (d + 1) i vs s P := by
  intro pre post res hp hr
  obtain ⟨M, q, n, -, h2, -, h4⟩ := ycx_spec hr
  rw [hF] at h2
  cases h2
  exact g n n (Nat.le_refl _) pre post _ res hp yL_entry h4
