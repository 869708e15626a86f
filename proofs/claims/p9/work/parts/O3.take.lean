/-! ===== a text as tokens ===== -/
/-- a sign that goes on with a word -/
def iwd (sg : Nat → Int32) : Nat → Bool
  | 0 => false
  | k + 1 => (isLt (sg (k + 1)).toInt || isDg (sg (k + 1)).toInt) && (iwd sg k || isLt (sg k).toInt)
def blk (c : Int) : Bool := decide (c = 10) || decide (c = 32)
/-- a token begins -/
def stt (sg : Nat → Int32) (k : Nat) : Bool := !(blk (sg k).toInt) && !(iwd sg k)
/-- how many begin ahead -/
def ntk (sg : Nat → Int32) : Nat → Nat
  | 0 => 0
  | k + 1 => ntk sg k + (if stt sg k = true then 1 else 0)
/-- where a token ends -/
def WEd (sg : Nat → Int32) (n k e : Nat) : Prop := k < e ∧ e ≤ n ∧ (∀ j, k < j → j < e → iwd sg j = true) ∧ (e = n ∨ iwd sg e = false)
def sgB (c : Int) : Bool := decide (c = 40) || (decide (c = 41) || (decide (c = 44) || (decide (c = 46) || (decide (c = 59) || (decide (c = 91) || (decide (c = 93) || (decide (c = 123) || decide (c = 125))))))))
/-- what kind of token: 0 the end, 1 a word, 2 none, 3 .. 8 a kept word, else a sign -/
def kdP (sg : Nat → Int32) (k l : Nat) (r : Int) : Prop := (isLt (sg k).toInt = true ∧ ((12 < l ∧ r = 2) ∨ (l ≤ 12 ∧ kwF sg k l r))) ∨ (isLt (sg k).toInt = false ∧ ((sgB (sg k).toInt = true ∧ r = (sg k).toInt) ∨ (sgB (sg k).toInt = false ∧ r = 2)))
/-- the tokens that begin ahead of k stand -/
def TKp (s : zS) (P n k : Nat) : Prop := ∀ j, j < k → stt (s.2 (P + 2)) j = true → ∃ e : Nat, WEd (s.2 (P + 2)) n j e ∧ (s.2 (P + 6) (ntk (s.2 (P + 2)) j)).toInt = (j : Int) ∧ (s.2 (P + 8) (ntk (s.2 (P + 2)) j)).toInt = (e : Int) - (j : Int) ∧ kdP (s.2 (P + 2)) j (e - j) (s.2 (P + 4) (ntk (s.2 (P + 2)) j)).toInt
section LXP
variable {sg : Nat → Int32} {n k e j : Nat}
theorem ntk_le : ntk sg k ≤ k := by
  induction k with
  | zero => exact Nat.le_refl _
  | succ k ih =>
    show ntk sg k + (if stt sg k = true then 1 else 0) ≤ k + 1
    split <;> omega
theorem ntk_mo (h : j ≤ k) : ntk sg j ≤ ntk sg k := by
  induction k with
  | zero =>
    rw [show j = 0 by omega]
    exact Nat.le_refl _
  | succ k ih =>
    by_cases e : j = k + 1
    · rw [e]
      exact Nat.le_refl _
    · have := ih (by omega)
      show ntk sg j ≤ ntk sg k + (if stt sg k = true then 1 else 0)
      omega
theorem ntk_lt (h : j < k) (hs : stt sg j = true) : ntk sg j < ntk sg k := by
  have := ntk_mo (sg := sg) (show j + 1 ≤ k from h)
  have e : ntk sg (j + 1) = ntk sg j + 1 := by
    show ntk sg j + (if stt sg j = true then 1 else 0) = _
    rw [if_pos hs]
  omega
theorem ntk_no (hs : stt sg k = false) : ntk sg (k + 1) = ntk sg k := by
  show ntk sg k + (if stt sg k = true then 1 else 0) = _
  rw [if_neg (by rw [hs]; decide)]
  rfl
theorem ntk_run (hs : stt sg k = true) (h : k < e) (hr : ∀ j, k < j → j < e → iwd sg j = true) : ntk sg e = ntk sg k + 1 := by
  induction e with
  | zero => omega
  | succ e ih =>
    by_cases ee : k = e
    · rw [← ee]
      show ntk sg k + (if stt sg k = true then 1 else 0) = _
      rw [if_pos hs]
    · rw [ntk_no (by unfold stt; rw [hr e (by omega) (by omega)]; simp), ih (by omega) (fun j h1 h2 => hr j h1 (by omega))]
theorem isLt_b {c : Int} (h : blk c = true) : isLt c = false ∧ isDg c = false := by
  unfold blk at h
  unfold isLt isDg
  grind
theorem iwd_no (h : iwd sg k = false) (hl : isLt (sg k).toInt = false) : iwd sg (k + 1) = false := by
  show ((isLt (sg (k + 1)).toInt || isDg (sg (k + 1)).toInt) && (iwd sg k || isLt (sg k).toInt)) = false
  rw [h, hl]
  simp
theorem iwd_go (h : isLt (sg k).toInt = true ∨ iwd sg k = true) : iwd sg (k + 1) = (isLt (sg (k + 1)).toInt || isDg (sg (k + 1)).toInt) := by
  show ((isLt (sg (k + 1)).toInt || isDg (sg (k + 1)).toInt) && (iwd sg k || isLt (sg k).toInt)) = _
  rcases h with h | h <;> rw [h] <;> simp
theorem zLet_0 {x : Int32} : (zLet x).toInt = 0 ↔ isLt x.toInt = false := by
  unfold zLet isLt
  split
  · rw [i1]
    grind
  · rw [i0]
    grind
theorem zDig_0 {x : Int32} : (zDig x).toInt = 0 ↔ isDg x.toInt = false := by
  unfold zDig isDg
  split
  · rw [i1]
    grind
  · rw [i0]
    grind
theorem zSgn_0 {x : Int32} : (zSgn x).toInt = 0 ↔ sgB x.toInt = false := by
  unfold zSgn sgB
  split
  · rw [i1]
    grind
  · rw [i0]
    grind
end LXP
section ZLEX3
variable {d P : Nat} {s : zS} {a1 a2 a3 : Int32}
/-- one token more, at the sign k, ending at e -/
theorem TKp_ext {s' : zS} {n k e : Nat} (hT : TKp s P n k) (hs : stt (s.2 (P + 2)) k = true) (hW : WEd (s.2 (P + 2)) n k e) (hF : ZFT P (ntk (s.2 (P + 2)) k) s s') (h6 : (s'.2 (P + 6) (ntk (s.2 (P + 2)) k)).toInt = (k : Int)) (h8 : (s'.2 (P + 8) (ntk (s.2 (P + 2)) k)).toInt = (e : Int) - (k : Int)) (h4 : kdP (s.2 (P + 2)) k (e - k) (s'.2 (P + 4) (ntk (s.2 (P + 2)) k)).toInt) : TKp s' P n e := by
  intro j hj hst
  rw [hF.1] at hst ⊢
  by_cases e1 : j < k
  · obtain ⟨e', g1, g2, g3, g4⟩ := hT j e1 hst
    have hl := ntk_lt e1 hst
    obtain ⟨f1, f2, f3, -⟩ := hF.2 _ hl
    exact ⟨e', g1, by rw [f2]; exact g2, by rw [f3]; exact g3, by rw [f1]; exact g4⟩
  · by_cases e2 : j = k
    · subst e2
      exact ⟨e, hW, h6, h8, h4⟩
    · exfalso
      have := hW.2.2.1 j (by omega) hj
      unfold stt at hst
      rw [this] at hst
      simp at hst
theorem TKp_skip {n k : Nat} (hT : TKp s P n k) (hs : stt (s.2 (P + 2)) k = false) : TKp s P n (k + 1) := by
  intro j hj hst
  by_cases e : j = k
  · rw [e, hs] at hst
    cases hst
  · exact hT j (by omega) hst
/-- what a step of the reading of signs leaves -/
def LXf (P : Nat) (s s' : zS) : Prop := (∀ b, b ∉ tkR P → s'.2 b = s.2 b) ∧ ∀ b k, ¬ (b = P + 4 ∧ k = 2) → s'.1 b k = s.1 b k
theorem LXf_rf : LXf P s s := ⟨fun _ _ => rfl, fun _ _ _ => rfl⟩
theorem LXf_tr {s' s'' : zS} (h : LXf P s s') (g : LXf P s' s'') : LXf P s s'' := ⟨fun b hb => (g.1 b hb).trans (h.1 b hb), fun b k hb => (g.2 b k hb).trans (h.2 b k hb)⟩
/-- takeToken -/
theorem zs_112 {n k : Nat} (hP : P = 3 ∨ P = 39) (h1 : a1.toInt = (k : Int)) (hk : k < n) (hn : n ≤ 4000) (hz : (s.1 (P + 2) 2).toInt = (n : Int)) (hw : iwd (s.2 (P + 2)) k = false) (hI : TKI s P (ntk (s.2 (P + 2)) k)) (hT : TKp s P n k) : Zt (d + 12) (wd P 112) 112 [.ref (P + 1), .int a1] s (fun v s' => ∃ (r : Int32) (e : Nat), v = some (.int r) ∧ r.toInt = (e : Int) ∧ k < e ∧ e ≤ n ∧ (e = n ∨ iwd (s.2 (P + 2)) e = false) ∧ TKI s' P (ntk (s.2 (P + 2)) e) ∧ TKp s' P n e ∧ LXf P s s') := by
  refine zc_112 (d := d + 3) hP ?_
  have ek : a1.toInt.toNat = k := by omega
  have hnt := ntk_le (sg := s.2 (P + 2)) (k := k)
  unfold v_112_0
  rw [zg_nn (x := a1) (by omega), ek, zLet_0, zSgn_0]
  have b11 : blk (s.2 (P + 2) k).toInt = true → v_112_11 (fun j => Zt (d + 3 + 8) (wd P j) j) P a1 (s.2 (P + 2) k) s (fun v s' => ∃ (r : Int32) (e : Nat), v = some (.int r) ∧ r.toInt = (e : Int) ∧ k < e ∧ e ≤ n ∧ (e = n ∨ iwd (s.2 (P + 2)) e = false) ∧ TKI s' P (ntk (s.2 (P + 2)) e) ∧ TKp s' P n e ∧ LXf P s s') := by
    intro hb
    unfold v_112_11
    intro x1 hx1
    have e1 := hx1 (by omega)
    have hs : stt (s.2 (P + 2)) k = false := by
      unfold stt
      rw [hb]
      rfl
    exact ⟨x1, k + 1, rfl, by omega, by omega, by omega, Or.inr (iwd_no hw (isLt_b hb).1), by rw [ntk_no hs]; exact hI, TKp_skip hT hs, LXf_rf⟩
  refine ⟨fun h => b11 (by unfold blk; rw [h]; rfl), fun h => ⟨fun h' => ?_, fun h' => b11 (by unfold blk; rw [h']; rfl)⟩⟩
  have hs : stt (s.2 (P + 2)) k = true := by
    unfold stt blk
    rw [hw, decide_eq_false h, decide_eq_false h']
    rfl
  -- one sign
  have one : ∀ t1 : Int32, isLt (s.2 (P + 2) k).toInt = false → kdP (s.2 (P + 2)) k 1 t1.toInt → v_112_25 (fun j => Zt (d + 3 + 8) (wd P j) j) P a1 (s.2 (P + 2) k) t1 s (fun v s' => ∃ (r : Int32) (e : Nat), v = some (.int r) ∧ r.toInt = (e : Int) ∧ k < e ∧ e ≤ n ∧ (e = n ∨ iwd (s.2 (P + 2)) e = false) ∧ TKI s' P (ntk (s.2 (P + 2)) e) ∧ TKp s' P n e ∧ LXf P s s') := by
    intro t1 hl hkd
    unfold v_112_25
    refine Zt.imp (zs_113 (d := d) (a1 := t1) (a2 := a1) (a3 := 1) hP hI (by omega) (by omega) (by rw [i1]; decide)) ?_
    rintro v s' ⟨rfl, g1, g2, ⟨g3, g4, g5⟩, g6, g7⟩
    refine ⟨rfl, fun x3 hx3 => ?_⟩
    have e3 := hx3 (by omega)
    have hW : WEd (s.2 (P + 2)) n k (k + 1) := ⟨by omega, by omega, fun j j1 j2 => by omega, Or.inr (iwd_no hw hl)⟩
    refine ⟨x3, k + 1, rfl, by omega, by omega, by omega, Or.inr (iwd_no hw hl), ?_, TKp_ext hT hs hW g2 (by rw [g4]; exact h1) (by rw [g5, i1]; omega) (by rw [g3, show k + 1 - k = 1 by omega]; exact hkd), ⟨g6, g7⟩⟩
    rw [ntk_run hs hW.1 hW.2.2.1]
    exact g1
  refine ⟨fun hl x1 hx1 => ?_, fun hl => ⟨fun h2 => one 2 hl (Or.inr ⟨hl, Or.inr ⟨h2, by decide⟩⟩), fun h2 => one _ hl (Or.inr ⟨hl, Or.inl ⟨by cases hq : sgB (s.2 (P + 2) k).toInt with | true => rfl | false => exact absurd hq h2, rfl⟩⟩)⟩⟩
  have hl : isLt (s.2 (P + 2) k).toInt = true := by
    cases hq : isLt (s.2 (P + 2) k).toInt with
    | true => rfl
    | false => exact absurd hq hl
  have e1 := hx1 (by omega)
  unfold vl_112_36
  refine ⟨fun b1 b2 b3 t => t = s ∧ b1 = a1 ∧ (k : Int) < b3.toInt ∧ b3.toInt ≤ (n : Int) ∧ ∀ j, k < j → (j : Int) < b3.toInt → iwd (s.2 (P + 2)) j = true, fun _ _ b3 _ => (5000 - b3.toInt).toNat, ⟨rfl, rfl, by omega, by omega, fun j j1 j2 => by omega⟩, ?_⟩
  rintro b1 b2 b3 t ⟨rfl, rfl, g1, g2, g3⟩
  unfold v_112_36
  rw [hz, zg_nn (x := b3) (by omega), zLet_0, zDig_0]
  have prev : isLt (t.2 (P + 2) (b3.toInt.toNat - 1)).toInt = true ∨ iwd (t.2 (P + 2)) (b3.toInt.toNat - 1) = true := by
    by_cases e : b3.toInt.toNat - 1 = k
    · rw [e]
      exact Or.inl hl
    · exact Or.inr (g3 _ (by omega) (by omega))
  have eg := iwd_go prev
  rw [show b3.toInt.toNat - 1 + 1 = b3.toInt.toNat by omega] at eg
  -- the word's end
  have fin : (b3.toInt = (n : Int) ∨ iwd (t.2 (P + 2)) b3.toInt.toNat = false) → v_112_55 (fun j => Zt (d + 3 + 8) (wd P j) j) P b1 b2 b3 t (fun v s' => ∃ (r : Int32) (e : Nat), v = some (.int r) ∧ r.toInt = (e : Int) ∧ k < e ∧ e ≤ n ∧ (e = n ∨ iwd (t.2 (P + 2)) e = false) ∧ TKI s' P (ntk (t.2 (P + 2)) e) ∧ TKp s' P n e ∧ LXf P t s') := by
    intro hend
    have hend' : b3.toInt.toNat = n ∨ iwd (t.2 (P + 2)) b3.toInt.toNat = false := by
      rcases hend with h | h
      · exact Or.inl (by omega)
      · exact Or.inr h
    have hW : WEd (t.2 (P + 2)) n k b3.toInt.toNat := ⟨by omega, by omega, fun j j1 j2 => g3 j j1 (by omega), hend'⟩
    have last : ∀ t1 : Int32, kdP (t.2 (P + 2)) k (b3.toInt.toNat - k) t1.toInt → v_112_69 (fun j => Zt (d + 3 + 8) (wd P j) j) P b1 b2 b3 t1 t (fun v s' => ∃ (r : Int32) (e : Nat), v = some (.int r) ∧ r.toInt = (e : Int) ∧ k < e ∧ e ≤ n ∧ (e = n ∨ iwd (t.2 (P + 2)) e = false) ∧ TKI s' P (ntk (t.2 (P + 2)) e) ∧ TKp s' P n e ∧ LXf P t s') := by
      intro t1 hkd
      unfold v_112_69
      intro x1 hx1
      have e1 := hx1 (by omega)
      refine Zt.imp (zs_113 (d := d) (a1 := t1) (a2 := b1) (a3 := x1) hP hI (by omega) (by omega) (by omega)) ?_
      rintro v s' ⟨rfl, q1, q2, ⟨q3, q4, q5⟩, q6, q7⟩
      refine ⟨rfl, b3, b3.toInt.toNat, rfl, by omega, by omega, by omega, hend', ?_, TKp_ext hT hs hW q2 (by rw [q4]; exact h1) (by rw [q5]; omega) (by rw [q3]; exact hkd), ⟨q6, q7⟩⟩
      rw [ntk_run hs hW.1 hW.2.2.1]
      exact q1
    unfold v_112_55
    intro x1 hx1
    have e1 := hx1 (by omega)
    refine ⟨fun h12 x2 hx2 => ?_, fun h12 => last 2 (Or.inl ⟨hl, Or.inl ⟨by omega, by decide⟩⟩)⟩
    have e2 := hx2 (by omega)
    refine Zt.imp (zs_115 (d := d + 1) (a1 := b1) (a2 := x2) hP (by omega) (by omega)) ?_
    rintro v s' ⟨rfl, r, rfl, hr⟩
    refine ⟨r, rfl, last r (Or.inl ⟨hl, Or.inr ⟨by omega, ?_⟩⟩)⟩
    rw [ek, show x2.toInt.toNat = b3.toInt.toNat - k by omega] at hr
    exact hr
  have on : iwd (t.2 (P + 2)) b3.toInt.toNat = true → b3.toInt < (n : Int) → v_112_53 (fun j => Zt (d + 3 + 8) (wd P j) j) P (fun a1' a2' a3' s' => (s' = t ∧ a1' = b1 ∧ (k : Int) < a3'.toInt ∧ a3'.toInt ≤ (n : Int) ∧ ∀ j, k < j → (j : Int) < a3'.toInt → iwd (t.2 (P + 2)) j = true) ∧ (5000 - a3'.toInt).toNat < (5000 - b3.toInt).toNat) b1 b2 b3 t (fun v s' => ∃ (r : Int32) (e : Nat), v = some (.int r) ∧ r.toInt = (e : Int) ∧ k < e ∧ e ≤ n ∧ (e = n ∨ iwd (t.2 (P + 2)) e = false) ∧ TKI s' P (ntk (t.2 (P + 2)) e) ∧ TKp s' P n e ∧ LXf P t s') := by
    intro hi hlt
    unfold v_112_53
    intro x1 hx1
    have e1 := hx1 (by omega)
    refine ⟨⟨rfl, rfl, by omega, by omega, fun j j1 j2 => ?_⟩, by omega⟩
    by_cases e : (j : Int) = b3.toInt
    · rw [show j = b3.toInt.toNat by omega]
      exact hi
    · exact g3 j j1 (by omega)
  refine ⟨fun h => fin (Or.inl (by omega)), fun h => ⟨fun h2 => on ?_ (by omega), fun h2 => ⟨fun h3 => fin (Or.inr (by rw [eg, h2, h3]; rfl)), fun h3 => on ?_ (by omega)⟩⟩⟩
  · rw [eg]
    cases hq : isLt (t.2 (P + 2) b3.toInt.toNat).toInt with
    | true => rfl
    | false => exact absurd hq h2
  · rw [eg, h2]
    cases hq : isDg (t.2 (P + 2) b3.toInt.toNat).toInt with
    | true => rfl
    | false => exact absurd hq h3
end ZLEX3
