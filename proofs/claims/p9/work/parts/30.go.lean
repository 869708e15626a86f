/-! ===== runs of the reference's methods: rules, one a kind of instruction ===== -/
/-- locals by their places; null: not known -/
def yL (rl : List Value) (loc : List (Nat × Value)) : Prop := ∀ (k : Nat) (v : Value), rl[k]? = some v → v = .null ∨ xlk k loc = some v
def ynn : Value → Bool
  | .null => false
  | _ => true
theorem yL_ld {rl : List Value} {loc : List (Nat × Value)} {k : Nat} {v : Value} (h : yL rl loc) (hk : rl[k]? = some v) (hv : ynn v = true) : xlk k loc = some v := by
  rcases h k v hk with rfl | h
  · cases hv
  · exact h
def ylj (rl : List Value) (k : Nat) : Bool := match k with
  | 0 => true
  | k + 1 => match rl[k]? with
    | some (.long _) => false
    | some (.double _) => false
    | _ => true
theorem xlk_fil {k : Nat} {v : Value} (p : Nat × Value → Bool) (hp : p (k, v) = true) : ∀ (l : List (Nat × Value)), xlk k l = some v → xlk k (l.filter p) = some v
  | [], h => h
  | q :: l, h => by
    rw [List.filter_cons]
    unfold xlk at h
    cases hb : Nat.beq q.1 k with
    | true =>
      rw [hb] at h
      cases h
      have e := Nat.eq_of_beq_eq_true hb
      have hq : p q = true := by
        rw [show q = (k, q.2) by rw [← e]]
        exact hp
      rw [if_pos hq]
      unfold xlk
      rw [hb]
    | false =>
      rw [hb] at h
      have ih := xlk_fil p hp l h
      split
      · unfold xlk
        rw [hb]
        exact ih
      · exact ih
theorem xlk_f1 {i k : Nat} (hk : k ≠ i) (l : List (Nat × Value)) (v : Value) (h : xlk k l = some v) (hc : ¬ (k + 1 = i ∧ v.category = 2)) : xlk k (xf1 i l) = some v := by
  refine xlk_fil (fun q => !(q.1 == i) && !(q.1 + 1 == i && q.2.category == 2)) ?_ l h
  simp only [Bool.and_eq_true, Bool.not_eq_true', beq_eq_false_iff_ne, ne_eq, Bool.and_eq_false_iff]
  refine ⟨hk, ?_⟩
  by_cases h1 : k + 1 = i
  · exact Or.inr (fun h2 => hc ⟨h1, h2⟩)
  · exact Or.inl h1
theorem xlk_f2 {i k : Nat} (hk : k ≠ i) (hk2 : k ≠ i + 1) (l : List (Nat × Value)) (v : Value) (h : xlk k l = some v) (hc : ¬ (k + 1 = i ∧ v.category = 2)) : xlk k (xf2 i l) = some v := by
  refine xlk_fil (fun q => !(q.1 == i) && (!(q.1 == i + 1) && !(q.1 + 1 == i && q.2.category == 2))) ?_ l h
  simp only [Bool.and_eq_true, Bool.not_eq_true', beq_eq_false_iff_ne, ne_eq, Bool.and_eq_false_iff]
  refine ⟨hk, hk2, ?_⟩
  by_cases h1 : k + 1 = i
  · exact Or.inr (fun h2 => hc ⟨h1, h2⟩)
  · exact Or.inl h1
theorem xlk_cons {i : Nat} {v : Value} {l : List (Nat × Value)} : xlk i ((i, v) :: l) = some v := by
  unfold xlk
  rw [show Nat.beq i i = true from Nat.beq_refl i]
theorem xlk_ne {i k : Nat} {v : Value} {l : List (Nat × Value)} (h : k ≠ i) : xlk k ((i, v) :: l) = xlk k l := by
  show (match Nat.beq i k with
    | true => some v
    | false => xlk k l) = _
  have hb : Nat.beq i k = false := by
    cases hb : Nat.beq i k with
    | false => rfl
    | true => exact absurd (Nat.eq_of_beq_eq_true hb).symm h
  rw [hb]
theorem yL_cat {rl : List Value} {k i : Nat} {w : Value} (hj : ylj rl i = true) (hk : rl[k]? = some w) : ¬ (k + 1 = i ∧ w.category = 2) := by
  rintro ⟨rfl, hc⟩
  unfold ylj at hj
  dsimp only at hj
  rw [hk] at hj
  cases w <;> first | (cases hj; done) | (exact absurd (show (1 : Nat) = 2 from hc) (by decide))
theorem yL_st {rl : List Value} {loc : List (Nat × Value)} {i : Nat} {v : Value} (h : yL rl loc) (hj : ylj rl i = true) : yL (rl.set i v) ((i, v) :: xf1 i loc) := by
  intro k w hk
  by_cases hki : k = i
  · subst hki
    right
    rw [List.getElem?_set, if_pos rfl] at hk
    split at hk
    · cases hk
      exact xlk_cons
    · cases hk
  · rw [List.getElem?_set, if_neg (Ne.symm hki)] at hk
    rcases h k w hk with h1 | h1
    · exact Or.inl h1
    · right
      rw [xlk_ne hki]
      exact xlk_f1 hki loc w h1 (yL_cat hj hk)
theorem yL_stL {rl : List Value} {loc : List (Nat × Value)} {i : Nat} {v : Value} (h : yL rl loc) (hj : ylj rl i = true) : yL ((rl.set i v).set (i + 1) .null) ((i, v) :: xf2 i loc) := by
  intro k w hk
  by_cases hk2 : k = i + 1
  · subst hk2
    rw [List.getElem?_set, if_pos rfl] at hk
    split at hk
    · cases hk
      exact Or.inl rfl
    · cases hk
  · rw [List.getElem?_set, if_neg (Ne.symm hk2)] at hk
    by_cases hki : k = i
    · subst hki
      right
      rw [List.getElem?_set, if_pos rfl] at hk
      split at hk
      · cases hk
        exact xlk_cons
      · cases hk
    · rw [List.getElem?_set, if_neg (Ne.symm hki)] at hk
      rcases h k w hk with h1 | h1
      · exact Or.inl h1
      · right
        rw [xlk_ne hki]
        exact xlk_f2 hki hk2 loc w h1 (yL_cat hj hk)
theorem yL_fg {rl : List Value} {loc : List (Nat × Value)} {i : Nat} (h : yL rl loc) : yL (rl.set i .null) loc := by
  intro k w hk
  rw [List.getElem?_set] at hk
  split at hk
  · split at hk
    · cases hk
      exact Or.inl rfl
    · cases hk
  · exact h k w hk
theorem o_irem {x y : Int32} {st : List Value} (h : ¬ y = 0) : xo_irem (.int y :: .int x :: st) = some (.int (x - x / y * y) :: st) := by
  show (if y = 0 then none else some (Value.int (x - x / y * y) :: st)) = _
  exact if_neg h
theorem o_idiv {x y : Int32} {st : List Value} (h : ¬ y = 0) : xo_idiv (.int y :: .int x :: st) = some (.int (x / y) :: st) := by
  show (if y = 0 then none else some (Value.int (x / y) :: st)) = _
  exact if_neg h
theorem o_ldiv {x y : Int64} {st : List Value} (h : ¬ y = 0) : xo_ldiv (.long y :: .long x :: st) = some (.long (x / y) :: st) := by
  show (if y = 0 then none else some (Value.long (x / y) :: st)) = _
  exact if_neg h
theorem o_lrem {x y : Int64} {st : List Value} (h : ¬ y = 0) : xo_lrem (.long y :: .long x :: st) = some (.long (x - x / y * y) :: st) := by
  show (if y = 0 then none else some (Value.long (x - x / y * y) :: st)) = _
  exact if_neg h
/-- a run from a place of a method's code to its end -/
def Go (d ml : Nat) (ret : Option FieldType) (E l : xCd) (rl st : List Value) (s : yS) (P : Option Value → yS → Prop) : Prop :=
  ∃ (n : Nat) (v : Option Value) (s' : yS), P v s' ∧ OUT s s' ∧ ∀ (pre post : xH) (loc : List (Nat × Value)), pre.length = 213 → yL rl loc → xit (ycx d) (xmc ml ret E E) n (some (.inl (xmc ml ret E l, (loc, st, yh pre post s, 0, 0)))) = some (.inr (v, yh pre post s', 0, 0))
/-- a call -/
def Tot (d i : Nat) (vs : List Value) (s : yS) (P : Option Value → yS → Prop) : Prop :=
  ∃ (v : Option Value) (s' : yS), P v s' ∧ OUT s s' ∧ ∀ (pre post : xH), pre.length = 213 → ycx d i vs (yh pre post s) = some (v, yh pre post s', 0, 0)
theorem Tot.imp {d i : Nat} {vs : List Value} {s : yS} {P Q : Option Value → yS → Prop} (h : Tot d i vs s P) (hq : ∀ v s', P v s' → Q v s') : Tot d i vs s Q := by
  obtain ⟨v, s', h1, h2⟩ := h
  exact ⟨v, s', hq v s' h1, h2⟩
section GO
variable {d ml : Nat} {ret : Option FieldType} {E : xCd} {pc len : Nat} {i : Instr} {r : xCd} {rl st : List Value} {s : yS} {P : Option Value → yS → Prop}
theorem Go.imp {l : xCd} {Q : Option Value → yS → Prop} (h : Go d ml ret E l rl st s P) (hq : ∀ v s', P v s' → Q v s') : Go d ml ret E l rl st s Q := by
  obtain ⟨n, v, s', h1, h2⟩ := h
  exact ⟨n, v, s', hq v s' h1, h2⟩
theorem g_step {rl' st' : List Value} {s' : yS} {f : xF} (hf : xIt xL_12 ml ret false E pc i len r = f) (F : List (Nat × Value) → List (Nat × Value)) (hF : ∀ loc, yL rl loc → yL rl' (F loc)) (hk : ∀ loc, yL rl loc → yck i loc st = true) (ho : OUT s s') (h : ∀ (pre post : xH) (loc : List (Nat × Value)), pre.length = 213 → yL rl loc → f (ycx d) (loc, st, yh pre post s, 0, 0) = some (.inl (none, (F loc, st', yh pre post s', 0, 0)))) (g : Go d ml ret E r rl' st' s' P) : Go d ml ret E ((pc, i, len) :: r) rl st s P := by
  obtain ⟨n, v, s2, h1, h0, h2⟩ := g
  refine ⟨n + 1, v, s2, h1, OUT_tr ho h0, fun pre post loc hp hl => ?_⟩
  show xit (ycx d) _ (n + 1) (some (.inl ((pc, yCk i (xIt xL_12 ml ret false E pc i len r)) :: xmc ml ret E r, _))) = _
  rw [hf]
  exact xit_l (yCk_of (hk loc hl) (h pre post loc hp hl)) (h2 pre post (F loc) hp (hF loc hl))
theorem g_jump {st' : List Value} {t : Nat} {f : xF} (hf : xIt xL_12 ml ret false E pc i len r = f) (h : ∀ (pre post : xH) (loc : List (Nat × Value)), f (ycx d) (loc, st, yh pre post s, 0, 0) = some (.inl (some t, (loc, st', yh pre post s, 0, 0)))) (g : Go d ml ret E (E.drop t) rl st' s P) (hn : ynk i = true := by exact rfl) : Go d ml ret E ((pc, i, len) :: r) rl st s P := by
  obtain ⟨n, v, s2, h1, h0, h2⟩ := g
  refine ⟨n + 1, v, s2, h1, h0, fun pre post loc hp hl => ?_⟩
  show xit (ycx d) _ (n + 1) (some (.inl ((pc, yCk i (xIt xL_12 ml ret false E pc i len r)) :: xmc ml ret E r, _))) = _
  rw [hf]
  refine xit_l (yCk_of (ynk_ok hn) (h pre post loc)) ?_
  have h3 := h2 pre post loc hp hl
  rw [← xmc_drop] at h3
  exact h3
theorem g_end {v : Option Value} {f : xF} (hf : xIt xL_12 ml ret false E pc i len r = f) (h : ∀ (pre post : xH) (loc : List (Nat × Value)), f (ycx d) (loc, st, yh pre post s, 0, 0) = some (.inr (v, yh pre post s, 0, 0))) (hp : P v s) (hn : ynk i = true := by exact rfl) : Go d ml ret E ((pc, i, len) :: r) rl st s P := by
  refine ⟨1, v, s, hp, OUT_rf, fun pre post loc hp hl => ?_⟩
  show xit (ycx d) _ (0 + 1) (some (.inl ((pc, yCk i (xIt xL_12 ml ret false E pc i len r)) :: xmc ml ret E r, _))) = _
  rw [hf]
  exact xit_r (yCk_of (ynk_ok hn) (h pre post loc))
theorem g_fg {l : xCd} (k : Nat) (g : Go d ml ret E l (rl.set k .null) st s P) : Go d ml ret E l rl st s P := by
  obtain ⟨n, v, s2, h1, h0, h2⟩ := g
  exact ⟨n, v, s2, h1, h0, fun pre post loc hp hl => h2 pre post loc hp (yL_fg hl)⟩
theorem g_ld {k : Nat} {ok : Value → Bool} {v : Value} (hf : xIt xL_12 ml ret false E pc i len r = xLd k ok) (hk : rl[k]? = some v) (hv : (ynn v && ok v) = true) (g : Go d ml ret E r rl (v :: st) s P) (hn : ynk i = true := by exact rfl) : Go d ml ret E ((pc, i, len) :: r) rl st s P := by
  rw [Bool.and_eq_true] at hv
  refine g_step hf (fun l => l) (fun _ h => h) (fun _ _ => ynk_ok hn) OUT_rf (fun pre post loc hp hl => ?_) g
  simp only [xLd, yL_ld hl hk hv.1, hv.2]
theorem g_st (rl' : List Value) {k : Nat} {ok : Value → Bool} {v : Value} (hf : xIt xL_12 ml ret false E pc i len r = xSt k ok xf1) (hv : (ok v && ylj rl k) = true) (he : rl.set k v = rl') (g : Go d ml ret E r rl' st s P) (hn : ynk i = true := by exact rfl) : Go d ml ret E ((pc, i, len) :: r) rl (v :: st) s P := by
  rw [Bool.and_eq_true] at hv
  subst he
  refine g_step hf (fun l => (k, v) :: xf1 k l) (fun _ h => yL_st h hv.2) (fun _ _ => ynk_ok hn) OUT_rf (fun pre post loc hp hl => ?_) g
  simp only [xSt, hv.1]
theorem g_stL (rl' : List Value) {k : Nat} {ok : Value → Bool} {v : Value} (hf : xIt xL_12 ml ret false E pc i len r = xSt k ok xf2) (hv : (ok v && ylj rl k) = true) (he : (rl.set k v).set (k + 1) .null = rl') (g : Go d ml ret E r rl' st s P) (hn : ynk i = true := by exact rfl) : Go d ml ret E ((pc, i, len) :: r) rl (v :: st) s P := by
  rw [Bool.and_eq_true] at hv
  subst he
  refine g_step hf (fun l => (k, v) :: xf2 k l) (fun _ h => yL_stL h hv.2) (fun _ _ => ynk_ok hn) OUT_rf (fun pre post loc hp hl => ?_) g
  simp only [xSt, hv.1]
theorem g_inc (rl' : List Value) {k : Nat} {n : Int} {x : Int32} (hf : xIt xL_12 ml ret false E pc (.iinc k n) len r = xInc k n) (hk : rl[k]? = some (.int x)) (hv : ylj rl k = true) (he : rl.set k (.int (x + Int32.ofInt n)) = rl') (hc : ynf (x.toInt + n) = true) (g : Go d ml ret E r rl' st s P) : Go d ml ret E ((pc, .iinc k n, len) :: r) rl st s P := by
  subst he
  refine g_step hf (fun l => (k, .int (x + Int32.ofInt n)) :: xf1 k l) (fun _ h => yL_st h hv) (fun loc hl => ?_) OUT_rf (fun pre post loc hp hl => ?_) g
  · unfold yck
    dsimp only
    rw [yL_ld hl hk rfl]
    exact hc
  · simp only [xInc, yL_ld hl hk rfl]
theorem g_ca (st' : List Value) (op : List Value → Option (List Value)) (hf : xIt xL_12 ml ret false E pc i len r = xPure op) (ho : op st = some st') (hk : ∀ loc, yck i loc st = true) (g : Go d ml ret E r rl st' s P) : Go d ml ret E ((pc, i, len) :: r) rl st s P := by
  refine g_step hf (fun l => l) (fun _ h => h) (fun loc _ => hk loc) OUT_rf (fun pre post loc hp hl => ?_) g
  simp only [xPure, ho]
theorem g_p {op : List Value → Option (List Value)} {st' : List Value} (hf : xIt xL_12 ml ret false E pc i len r = xPure op) (ho : op st = some st') (g : Go d ml ret E r rl st' s P) (hn : ynk i = true := by exact rfl) : Go d ml ret E ((pc, i, len) :: r) rl st s P := by
  refine g_step hf (fun l => l) (fun _ h => h) (fun _ _ => ynk_ok hn) OUT_rf (fun pre post loc hp hl => ?_) g
  simp only [xPure, ho]
theorem g_c (st' : List Value) (op : List Value → Option (List Value)) (hf : xIt xL_12 ml ret false E pc i len r = xPure op) (ho : op st = some st') (g : Go d ml ret E r rl st' s P) (hn : ynk i = true := by exact rfl) : Go d ml ret E ((pc, i, len) :: r) rl st s P := g_p hf ho g hn
theorem g_br {c : List Value → Option (Bool × List Value)} {t : Nat} {b : Bool} {st' : List Value} (hf : xIt xL_12 ml ret false E pc i len r = xBr c t) (hc : c st = some (b, st')) (g1 : b = true → Go d ml ret E (E.drop t) rl st' s P) (g2 : b = false → Go d ml ret E r rl st' s P) (hn : ynk i = true := by exact rfl) : Go d ml ret E ((pc, i, len) :: r) rl st s P := by
  cases b with
  | true => exact g_jump hf (fun pre post loc => by simp only [xBr, hc]) (g1 rfl) hn
  | false => exact g_step hf (fun l => l) (fun _ h => h) (fun _ _ => ynk_ok hn) OUT_rf (fun pre post loc hp hl => by simp only [xBr, hc]) (g2 rfl)
theorem g_brP {c : List Value → Option (Bool × List Value)} {t : Nat} {p : Prop} {dp : Decidable p} {st' : List Value} (hf : xIt xL_12 ml ret false E pc i len r = xBr c t) (hc : c st = some (@decide p dp, st')) (g : (p → Go d ml ret E (E.drop t) rl st' s P) ∧ (¬ p → Go d ml ret E r rl st' s P)) (hn : ynk i = true := by exact rfl) : Go d ml ret E ((pc, i, len) :: r) rl st s P :=
  g_br hf hc (fun h => g.1 (of_decide_eq_true h)) (fun h => g.2 (of_decide_eq_false h)) hn
theorem g_brN {c : List Value → Option (Bool × List Value)} {t : Nat} {p : Prop} {dp : Decidable p} {st' : List Value} (hf : xIt xL_12 ml ret false E pc i len r = xBr c t) (hc : c st = some (!@decide p dp, st')) (g : (¬ p → Go d ml ret E (E.drop t) rl st' s P) ∧ (p → Go d ml ret E r rl st' s P)) (hn : ynk i = true := by exact rfl) : Go d ml ret E ((pc, i, len) :: r) rl st s P :=
  g_br hf hc (fun h => g.1 (by
    intro hp
    rw [decide_eq_true hp] at h
    cases h)) (fun h => g.2 (by
    by_cases hp : p
    · exact hp
    · rw [decide_eq_false hp] at h
      cases h)) hn
theorem g_go {t : Nat} (hf : xIt xL_12 ml ret false E pc i len r = xBr xc_go t) (g : Go d ml ret E (E.drop t) rl st s P) (hn : ynk i = true := by exact rfl) : Go d ml ret E ((pc, i, len) :: r) rl st s P :=
  g_jump hf (fun pre post loc => rfl) g hn
theorem yfl_at {k : Nat} {v : Value} (hk : yf[k]? = some v) : (yfl s)[k]? = some (yfv s k v) := by
  unfold yfl
  rw [List.getElem?_mapIdx, hk]
  rfl
theorem g_get {k : Nat} {v : Value} (hf : xIt xL_12 ml ret false E pc i len r = xGet 12 k) (hk : yf[k]? = some v) (g : Go d ml ret E r rl (yfv s k v :: st) s P) (hn : ynk i = true := by exact rfl) : Go d ml ret E ((pc, i, len) :: r) rl (.ref 213 :: st) s P := by
  refine g_step hf (fun l => l) (fun _ h => h) (fun _ _ => ynk_ok hn) OUT_rf (fun pre post loc hp hl => ?_) g
  simp only [xGet, yh_o hp, yfl_at hk, show Nat.beq 12 12 = true from rfl]
theorem g_put {k t : Nat} {z v : Int32} (hf : xIt xL_12 ml ret false E pc i len r = xPut 12 k t) (hk : yf[k]? = some (.int z)) (ht : xfT t (.int v) = true) (g : Go d ml ret E r rl st (sf s k v) P) (hn : ynk i = true := by exact rfl) : Go d ml ret E ((pc, i, len) :: r) rl (.int v :: .ref 213 :: st) s P := by
  refine g_step hf (fun l => l) (fun _ h => h) (fun _ _ => ynk_ok hn) (OUT_sf hk) (fun pre post loc hp hl => ?_) g
  have h1 : Nat.blt k (yfl s).length = true := Nat.ble_eq_true_of_le (by
    have h2 := (List.getElem?_eq_some_iff.mp hk).1
    unfold yfl
    rw [List.length_mapIdx]
    exact h2)
  simp only [xPut, yh_o hp, show Nat.beq 12 12 = true from rfl, h1, ht, Bool.and_self, yh_sf hp hk]
theorem g_ial {p n : Nat} {x : Int32} (hf : xIt xL_12 ml ret false E pc i len r = xIal) (hq : ytab p = some (0, n)) (hx : xIn x n = true) (g : Go d ml ret E r rl (.int (s.2.1 p x.toNatClampNeg) :: st) s P) (hn : ynk i = true := by exact rfl) : Go d ml ret E ((pc, i, len) :: r) rl (.int x :: .ref p :: st) s P := by
  refine g_step hf (fun l => l) (fun _ h => h) (fun _ _ => ynk_ok hn) OUT_rf (fun pre post loc hp hl => ?_) g
  simp only [xIal, yh_a hp hq, ycell, hx]
theorem g_zal {p n : Nat} {x : Int32} (hf : xIt xL_12 ml ret false E pc i len r = xZal) (hq : ytab p = some (2, n)) (hx : xIn x n = true) (g : Go d ml ret E r rl (.int (s.2.1 p x.toNatClampNeg) :: st) s P) (hn : ynk i = true := by exact rfl) : Go d ml ret E ((pc, i, len) :: r) rl (.int x :: .ref p :: st) s P := by
  refine g_step hf (fun l => l) (fun _ h => h) (fun _ _ => ynk_ok hn) OUT_rf (fun pre post loc hp hl => ?_) g
  simp only [xZal, yh_a hp hq, ycell, hx]
theorem g_lal {p n : Nat} {x : Int32} (hf : xIt xL_12 ml ret false E pc i len r = xLal) (hq : ytab p = some (1, n)) (hx : xIn x n = true) (g : Go d ml ret E r rl (.long (s.2.2 p x.toNatClampNeg) :: st) s P) (hn : ynk i = true := by exact rfl) : Go d ml ret E ((pc, i, len) :: r) rl (.int x :: .ref p :: st) s P := by
  refine g_step hf (fun l => l) (fun _ h => h) (fun _ _ => ynk_ok hn) OUT_rf (fun pre post loc hp hl => ?_) g
  simp only [xLal, yh_a hp hq, ycell, hx]
theorem g_ias {p n : Nat} {x v : Int32} (hf : xIt xL_12 ml ret false E pc i len r = xIas) (hq : ytab p = some (0, n)) (hx : xIn x n = true) (g : Go d ml ret E r rl st (sa s p x.toNatClampNeg v) P) (hn : ynk i = true := by exact rfl) : Go d ml ret E ((pc, i, len) :: r) rl (.int v :: .int x :: .ref p :: st) s P := by
  refine g_step hf (fun l => l) (fun _ h => h) (fun _ _ => ynk_ok hn) (OUT_sa hq (by decide)) (fun pre post loc hp hl => ?_) g
  simp only [xIas, yh_a hp hq, ycell, hx, yh_sa hp hq (show (0 : Nat) ≠ 1 by decide)]
theorem g_zas {p n : Nat} {x v : Int32} (hf : xIt xL_12 ml ret false E pc i len r = xZas) (hq : ytab p = some (2, n)) (hx : (xIn x n && (v == 0 || v == 1)) = true) (g : Go d ml ret E r rl st (sa s p x.toNatClampNeg v) P) (hn : ynk i = true := by exact rfl) : Go d ml ret E ((pc, i, len) :: r) rl (.int v :: .int x :: .ref p :: st) s P := by
  refine g_step hf (fun l => l) (fun _ h => h) (fun _ _ => ynk_ok hn) (OUT_sa hq (by decide)) (fun pre post loc hp hl => ?_) g
  simp only [xZas, yh_a hp hq, ycell, hx, yh_sa hp hq (show (2 : Nat) ≠ 1 by decide)]
theorem g_las {p n : Nat} {x : Int32} {v : Int64} (hf : xIt xL_12 ml ret false E pc i len r = xLas) (hq : ytab p = some (1, n)) (hx : xIn x n = true) (g : Go d ml ret E r rl st (sl s p x.toNatClampNeg v) P) (hn : ynk i = true := by exact rfl) : Go d ml ret E ((pc, i, len) :: r) rl (.long v :: .int x :: .ref p :: st) s P := by
  refine g_step hf (fun l => l) (fun _ h => h) (fun _ _ => ynk_ok hn) (OUT_sl hq) (fun pre post loc hp hl => ?_) g
  simp only [xLas, yh_a hp hq, ycell, hx, yh_sl hp hq]
theorem g_lenS (hf : xIt xL_12 ml ret false E pc i len r = xLenS) (h8 : Nat.ble (xcs st) 8 = true) (g : Go d ml ret E r rl (.int 39 :: st) s P) (hn : ynk i = true := by exact rfl) : Go d ml ret E ((pc, i, len) :: r) rl (.ref 1000000 :: st) s P := by
  refine g_step hf (fun l => l) (fun _ h => h) (fun _ _ => ynk_ok hn) OUT_rf (fun pre post loc hp hl => ?_) g
  simp only [xLenS, show Nat.ble 1000000 1000000 = true from rfl, show Nat.blt 1000000 1000007 = true from rfl, h8, Bool.and_self]
  rfl
theorem g_chS {x : Int32} (hf : xIt xL_12 ml ret false E pc i len r = xChS) (hx : (xIn x 39 && Nat.ble (xcs st) 8) = true) (g : Go d ml ret E r rl (.int (xch 0 x) :: st) s P) (hn : ynk i = true := by exact rfl) : Go d ml ret E ((pc, i, len) :: r) rl (.int x :: .ref 1000000 :: st) s P := by
  refine g_step hf (fun l => l) (fun _ h => h) (fun _ _ => ynk_ok hn) OUT_rf (fun pre post loc hp hl => ?_) g
  have h1 : (xIn x (xsl.getD (1000000 % 1000000) 0) && Nat.ble (xcs st) 8) = true := hx
  simp only [xChS, show Nat.ble 1000000 1000000 = true from rfl, show Nat.blt 1000000 1000007 = true from rfl, h1, Bool.and_self]
def yrc (ci : Option Nat) (vs : List Value) : Bool := match ci with
  | none => true
  | some k => match vs with
    | .ref 213 :: _ => Nat.beq k 12
    | _ => false
theorem yrc_ok {ci : Option Nat} {vs : List Value} {pre post : xH} (h : yrc ci vs = true) (hp : pre.length = 213) : xrc ci vs (yh pre post s) = true := by
  unfold yrc at h
  unfold xrc
  split at h
  · rfl
  · split at h
    · dsimp only
      rw [yh_o hp]
      have e := Nat.eq_of_beq_eq_true h
      subst e
      exact Nat.beq_refl 12
    · cases h
theorem g_call (vs st' : List Value) {j n : Nat} {ci : Option Nat} (hf : xIt xL_12 ml ret false E pc i len r = xCall j n ci) (hst : st = vs.reverse ++ st') (hn : (Nat.beq vs.length n && (Nat.ble (xcs st') 8 && yrc ci vs)) = true) (g : Tot d j vs s (fun v s1 => Go d ml ret E r rl (v.toList ++ st') s1 P)) (hnk : ynk i = true := by exact rfl) : Go d ml ret E ((pc, i, len) :: r) rl st s P := by
  rw [Bool.and_eq_true, Bool.and_eq_true] at hn
  obtain ⟨v, s1, ⟨n1, v2, s2, h1, h0, h2⟩, h4, h3⟩ := g
  refine ⟨n1 + 1, v2, s2, h1, OUT_tr h4 h0, fun pre post loc hp hl => ?_⟩
  show xit (ycx d) _ (n1 + 1) (some (.inl ((pc, yCk i (xIt xL_12 ml ret false E pc i len r)) :: xmc ml ret E r, _))) = _
  rw [hf]
  have hn1 := Nat.eq_of_beq_eq_true hn.1
  have e1 : st.take n = vs.reverse := by rw [hst, ← hn1, ← List.length_reverse, List.take_left']; rfl
  have e2 : st.drop n = st' := by rw [hst, ← hn1, ← List.length_reverse, List.drop_left']; rfl
  have e3 : Nat.ble n st.length = true := Nat.ble_eq_true_of_le (by rw [hst, List.length_append, List.length_reverse]; omega)
  refine xit_l (q := (none, (loc, v.toList ++ st', yh pre post s1, 0, 0))) (yCk_of (ynk_ok hnk) ?_) (h2 pre post loc hp hl)
  simp only [xCall, e1, e2, e3, List.reverse_reverse, hn.2.1, yrc_ok hn.2.2 hp, h3 pre post hp, Bool.and_self]
theorem g_ret0 (hf : xIt xL_12 ml ret false E pc i len r = xRet0) (hp : P none s) (hn : ynk i = true := by exact rfl) : Go d ml ret E ((pc, i, len) :: r) rl [] s P := g_end hf (fun _ _ _ => rfl) hp hn
theorem g_retI {v : Int32} (hf : xIt xL_12 ml ret false E pc i len r = xRetI) (hp : P (some (.int v)) s) (hn : ynk i = true := by exact rfl) : Go d ml ret E ((pc, i, len) :: r) rl [.int v] s P := g_end hf (fun _ _ _ => rfl) hp hn
theorem g_retZ {v : Int32} (hf : xIt xL_12 ml ret false E pc i len r = xRetZ) (hv : (v == 0 || v == 1) = true) (hp : P (some (.int v)) s) (hn : ynk i = true := by exact rfl) : Go d ml ret E ((pc, i, len) :: r) rl [.int v] s P := g_end hf (fun _ _ _ => by simp only [xRetZ, hv]) hp hn
theorem g_sw {lo hi dflt : Int} {offs : Array Int} {x : Int32} (h : ∃ t, (if x.toInt < lo ∨ hi < x.toInt then xgt E pc dflt else match offs.toList[(x.toInt - lo).toNat]? with
    | some off => xgt E pc off
    | none => none) = some t ∧ Go d ml ret E (E.drop t) rl st s P) : Go d ml ret E ((pc, .tableswitch dflt lo hi offs, len) :: r) rl (.int x :: st) s P := by
  obtain ⟨t, h1, h2⟩ := h
  refine g_jump (t := t) (f := xTs lo hi offs.toList dflt (xgt E pc)) rfl (fun pre post loc => ?_) h2
  simp only [xTs]
  split at h1
  · rename_i hx
    rw [if_pos hx]
    simp only [h1]
  · rename_i hx
    rw [if_neg hx]
    split at h1
    · rename_i off ho
      simp only [ho, h1]
    · cases h1
end GO
/-- the locals as a method begins -/
def yin (ml : Nat) (vs : List Value) : List Value := (vs.flatMap fun v => if v.category = 2 then [v, .null] else [v]) ++ List.replicate ml .null
theorem yL_in : ∀ (vs : List Value) (i : Nat) (w : List Value), ∀ k v, ((vs.flatMap fun v => if v.category = 2 then [v, .null] else [v]) ++ w)[k]? = some v → k < (lg_sl vs).length → v = .null ∨ xlk (i + k) (lv_args i vs) = some v := by
  intro vs
  induction vs with
  | nil => intro i w k v _ hk; exact absurd hk (Nat.not_lt_zero k)
  | cons u vs ih =>
    intro i w k v h hk
    by_cases hc : u.category = 2
    · have e1 : lv_args i (u :: vs) = (i, u) :: lv_args (i + 2) vs := by show (i, u) :: lv_args (if u.category = 2 then i + 2 else i + 1) vs = _; rw [if_pos hc]
      have e2 : (lg_sl (u :: vs)).length = (lg_sl vs).length + 2 := by simp [lg_sl, hc]
      rw [List.flatMap_cons, if_pos hc] at h
      match k, h, hk with
      | 0, h, hk =>
        cases h
        right
        rw [e1]
        exact xlk_cons
      | 1, h, hk =>
        cases h
        exact Or.inl rfl
      | k + 2, h, hk =>
        rcases ih (i + 2) w k v h (by omega) with h1 | h1
        · exact Or.inl h1
        · right
          rw [e1, xlk_ne (by omega), show i + (k + 2) = i + 2 + k by omega]
          exact h1
    · have e1 : lv_args i (u :: vs) = (i, u) :: lv_args (i + 1) vs := by show (i, u) :: lv_args (if u.category = 2 then i + 2 else i + 1) vs = _; rw [if_neg hc]
      have e2 : (lg_sl (u :: vs)).length = (lg_sl vs).length + 1 := by simp [lg_sl, hc]
      rw [List.flatMap_cons, if_neg hc] at h
      match k, h, hk with
      | 0, h, hk =>
        cases h
        right
        rw [e1]
        exact xlk_cons
      | k + 1, h, hk =>
        rcases ih (i + 1) w k v h (by omega) with h1 | h1
        · exact Or.inl h1
        · right
          rw [e1, xlk_ne (by omega), show i + (k + 1) = i + 1 + k by omega]
          exact h1
theorem yL_entry {ml : Nat} {vs : List Value} : yL (yin ml vs) (lv_args 0 vs) := by
  intro k v h
  by_cases hk : k < (lg_sl vs).length
  · have h1 := yL_in vs 0 _ k v h hk
    rw [Nat.zero_add] at h1
    exact h1
  · left
    have e : ((vs.flatMap fun v => if v.category = 2 then [v, Value.null] else [v])).length = (lg_sl vs).length := by
      clear h hk
      induction vs with
      | nil => rfl
      | cons u vs ih =>
        simp only [lg_sl, List.flatMap_cons, List.length_append] at ih ⊢
        rw [ih]
        by_cases hc : u.category = 2 <;> simp [hc]
    unfold yin at h
    rw [List.getElem?_append_right (by omega), List.getElem?_replicate] at h
    split at h
    · cases h
      rfl
    · cases h
theorem tot_of {d i ml : Nat} {vs : List Value} {s : yS} {P : Option Value → yS → Prop} {M : xM} {E : xCd} {ret : Option FieldType} (hM : xsg i = some M) (hF : ycF i = some (ml, ret, E)) (hl : Nat.ble (lg_sl vs).length M.2.2.1 = true) (g : Go d ml ret E E (yin ml vs) [] s P) : Tot (d + 1) i vs s P := by
  obtain ⟨n, v, s', h1, h0, h2⟩ := g
  exact ⟨v, s', h1, h0, fun pre post hp => ycx_of hM hF hl (h2 pre post _ hp yL_entry)⟩
