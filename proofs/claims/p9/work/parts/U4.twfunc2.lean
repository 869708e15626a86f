/-! ===== namesOfFunc, whole ===== -/
section UTG
variable {d : Nat} {s s' t z : yS} {B b h x y t0 G : Int} {K L P W : Int → Int} {p q : Nat} {a1 a2 a3 : Int32} {Ls pre : List Int} {m : Nat} {f φ : Int} {σ : RSt} {E : List (Int × Int)}
/-- the funcs ahead, in their rows -/
def FEr (B : Int) (s : yS) (f : Int) (E : List (Int × Int)) : Prop := ∀ (i : Nat) (p : Int × Int), E[i]? = some p → (s.2.1 254 (f + i).toNat).toInt = B + p.1 ∧ (s.2.1 244 (s.2.1 257 (f + i).toNat).toInt.toNat).toInt = B + p.2
theorem anyF_app {l : List (Int × Int)} {u : Int × Int} {a c : Int} : anyF W (l ++ [u]) a c = (anyF W l a c || decide (W u.1 = W a ∧ W u.2 = W c)) := by
  unfold anyF
  rw [List.any_append]
  simp
theorem take_sF {i : Nat} {u : Int × Int} (h : E[i]? = some u) : E.take (i + 1) = E.take i ++ [u] := by
  rw [List.take_succ, h]
  rfl
/-- a fault that stays, or is told here -/
def flt (B : Int) (s : yS) (φ : Int) (c : Bool) (t : Int) : Int := if φ = 0 ∧ c = true then 3 + 16 * lRf B s t else φ
theorem flt_n : flt B s φ false f = φ := by
  unfold flt
  rw [if_neg (fun w => by cases w.2)]
theorem flt_f {c : Bool} (h : ¬ φ = 0) : flt B s φ c f = φ := by
  unfold flt
  rw [if_neg (fun w => h w.1)]
theorem flt_y (h : φ = 0) : flt B s φ true f = 3 + 16 * lRf B s f := by
  unfold flt
  rw [if_pos ⟨h, rfl⟩]
theorem flt_or {c c' : Bool} (hL : 0 ≤ lRf B s f) : flt B s (flt B s φ c f) c' f = flt B s φ (c || c') f := by
  by_cases h0 : φ = 0
  · cases c with
    | true => rw [flt_y h0, flt_f (by omega), Bool.true_or, flt_y h0]
    | false => rw [flt_n, Bool.false_or]
  · rw [flt_f (c := c) h0, flt_f h0, flt_f h0]
set_option maxHeartbeats 1000000 in
/-- the funcs ahead, then PARAMS of the METHOD, then VARs -/
theorem x_202f {Q : Option Value → yS → Prop} {LV LF LP : List Int} {tv tn th Φ : Int} {x1 : Int32} (hG : a1.toInt = G) (hh : a2.toInt = h) (hG0 : 0 ≤ G) (hh0 : 0 ≤ h) (hx1 : x1.toInt = f) (hGm : G = f + (m : Int)) (hf0 : 0 ≤ f) (hm : m ≤ E.length) (hE : FEr B s f E) (h53 : (s.2.1 253 G.toNat).toInt = B + tv) (h54 : (s.2.1 254 G.toNat).toInt = B + tn) (h44 : (s.2.1 244 h.toNat).toInt = B + th) (h55 : (s.2.1 255 G.toNat).toInt = (LP.length : Int)) (h56 : ∀ (i : Nat) (u : Int), LP[i]? = some u → (s.2.1 256 G.toNat).toInt + 2 * (i : Int) = B + u) (h45 : (s.2.1 245 h.toNat).toInt = (LF.length : Int)) (hNF : NTr B s 246 (6 * h) LF) (hN : NTr B s 249 (6 * h) LV) (h48 : (s.2.1 248 h.toNat).toInt = (LV.length : Int)) (hL0 : 0 ≤ lRf B s th) (ht : R8 s t) (hΦ : frst (lRf B s) (tw1 (wRf B s) LP LF ++ tw1 (wRf B s) [tv] LV) (flt B s (t.1 8).toInt (anyF (wRf B s) (E.take m) tn th) th) = Φ) (hQ : ∀ u, R8 s u → (u.1 8).toInt = Φ → Q none u) : ubl_202_61 (Par d) a1 a2 x1 t Q := by
  refine ⟨fun b1 b2 b3 u => b1 = a1 ∧ b2 = a2 ∧ R8 s u ∧ ∃ i : Nat, b3.toInt = f + (i : Int) ∧ i ≤ m ∧ (u.1 8).toInt = flt B s (t.1 8).toInt (anyF (wRf B s) (E.take i) tn th) th, ⟨rfl, rfl, ht, 0, by rw [hx1]; show f = f + ((0 : Nat) : Int); omega, Nat.zero_le _, ?_⟩, ?_⟩
  · unfold flt
    rw [if_neg (fun w => by have := w.2; rw [List.take_zero] at this; cases this)]
  rintro b1 b2 b3 u ⟨e1, e2, g0, i, g1, g2, g3⟩
  subst e1 e2
  unfold ub_202_61
  rw [hG, hh]
  have ew := wRf_8 (B := B) g0
  have el := lRf_8 (B := B) g0
  refine ⟨fun w _ x2 hx2 _ => ?_, fun w _ _ _ _ => ?_⟩
  · have hi : i = m := by omega
    subst hi
    refine Par.imp (x_199 (B := B) (Ls := LF) (pre := LP) (by omega) (by rw [hx2]; exact NTr_8 g0 hNF) (by rw [g0.1]; exact h45) (Or.inr ⟨by omega, by rw [g0.1, hG]; exact h55, fun j v hv => by rw [g0.1, hG]; exact h56 j v hv⟩)) ?_
    rintro v3 s2 ⟨rfl, c1, c2⟩
    rw [el, ew, g3] at c2
    refine ⟨rfl, x_202v (tv := tv) (LV := LV) (Φ := Φ) (by rw [hG]; exact h53) (by rw [hh]; exact hN) (by rw [hh]; exact h48) (R8_tr g0 c1) ?_ hQ⟩
    rw [c2, ← hΦ, frst_app]
  · have hi : i < m := by omega
    have hu : E[i]? = some E[i] := List.getElem?_eq_getElem (by omega)
    obtain ⟨k1, k2⟩ := hE i _ hu
    have es := take_sF hu
    have ei : b3.toInt.toNat = (f + (i : Int)).toNat := by rw [g1]
    have r1 : (u.2.1 254 b3.toInt.toNat).toInt = B + E[i].1 := by rw [g0.1, ei]; exact k1
    have r2 : (u.2.1 254 G.toNat).toInt = B + tn := by rw [g0.1]; exact h54
    have r3 : (u.2.1 244 (u.2.1 257 b3.toInt.toNat).toInt.toNat).toInt = B + E[i].2 := by rw [g0.1, ei]; exact k2
    have r4 : (u.2.1 244 h.toNat).toInt = B + th := by rw [g0.1]; exact h44
    have nxt : ∀ v : yS, R8 u v → (v.1 8).toInt = flt B s (u.1 8).toInt (decide (wRf B s E[i].1 = wRf B s tn ∧ wRf B s E[i].2 = wRf B s th)) th → ub_202_104 (Par d) (fun b1' b2' b3 u => b1' = b1 ∧ b2' = b2 ∧ R8 s u ∧ ∃ i : Nat, b3.toInt = f + (i : Int) ∧ i ≤ m ∧ (u.1 8).toInt = flt B s (t.1 8).toInt (anyF (wRf B s) (E.take i) tn th) th) b1 b2 b3 v Q := by
      intro v v1 v2
      unfold ub_202_104
      intro _ x2 hx2
      refine ⟨rfl, rfl, R8_tr g0 v1, i + 1, by omega, by omega, ?_⟩
      rw [es, anyF_app, v2, g3, flt_or hL0]
    have no : ¬ (wRf B s E[i].1 = wRf B s tn ∧ wRf B s E[i].2 = wRf B s th) → ub_202_104 (Par d) (fun b1' b2' b3 u => b1' = b1 ∧ b2' = b2 ∧ R8 s u ∧ ∃ i : Nat, b3.toInt = f + (i : Int) ∧ i ≤ m ∧ (u.1 8).toInt = flt B s (t.1 8).toInt (anyF (wRf B s) (E.take i) tn th) th) b1 b2 b3 u Q := fun hne => by
      refine nxt u R8_rf ?_
      unfold flt
      rw [decide_eq_false hne, if_neg (fun w => by cases w.2)]
    have q1 : (u.2.1 217 (B + E[i].1).toNat).toInt = wRf B s E[i].1 := by rw [← ew]; rfl
    have q2 : (u.2.1 217 (B + tn).toNat).toInt = wRf B s tn := by rw [← ew]; rfl
    have q3 : (u.2.1 217 (B + E[i].2).toNat).toInt = wRf B s E[i].2 := by rw [← ew]; rfl
    have q4 : (u.2.1 217 (B + th).toNat).toInt = wRf B s th := by rw [← ew]; rfl
    rw [r1, r2, r3, r4, q1, q2, q3, q4]
    refine ⟨fun w1 => no (fun w2 => w1 w2.1), fun w1 _ _ _ _ _ => ⟨fun w2 => no (fun w3 => w2 w3.2), fun w2 _ => ?_⟩⟩
    refine Par.imp (x_163t (B := B) (t := th) r4) ?_
    rintro v3 s3 ⟨rfl, c1, c2⟩
    refine ⟨rfl, nxt s3 c1 ?_⟩
    rw [c2, el]
    unfold flt
    rw [decide_eq_true ⟨w1, w2⟩]
    by_cases h0 : (u.1 8).toInt = 0
    · rw [if_pos h0, if_pos ⟨h0, rfl⟩]
    · rw [if_neg h0, if_neg (fun w => h0 w.1)]
end UTG
