/-! ===== namesOfFunc ===== -/
def anyF (W : Int → Int) (l : List (Int × Int)) (a c : Int) : Bool := l.any (fun p => decide (W p.1 = W a ∧ W p.2 = W c))
/-- a func whose declaration begins at t; E: NAME and METHOD's name of the funcs ahead -/
def twF (W K L : Int → Int) (E : List (Int × Int)) (t : Int) : List (Int × Bool) := tw1 W [] (fPa K L false (0, t)) ++ ((f_5 K L false (0, t)).2, anyF W E (f_2 K L false (0, t)).2 (f_5 K L false (0, t)).2) :: (tw1 W (fPa K L false (0, t)) (h_f K L (0, (f_5 K L false (0, t)).2 + 1)) ++ tw1 W [(f_1 K L false (0, t)).2] (h_v K L (0, (f_5 K L false (0, t)).2 + 1)))
section UTF
variable {d : Nat} {s s' t z : yS} {B b h x y t0 G : Int} {K L P W : Int → Int} {p q : Nat} {a1 a2 a3 : Int32} {Ls pre : List Int} {m : Nat} {f φ : Int} {σ : RSt}
/-- names in [ ] stand two tokens apart -/
theorem pls_ef : ∀ (k : Nat) (σ : RSt) (i : Nat) (u : Int), (p_ls K (e_f K L) k σ)[i]? = some u → u = σ.2 + 2 * (i : Int)
  | 0, σ, i, u, h => by cases h
  | k + 1, σ, 0, u, h => by
    rw [pls_s] at h
    have : σ.2 = u := by simpa using h
    omega
  | k + 1, σ, i + 1, u, h => by
    rw [pls_s] at h
    have h' : (if k ≠ 0 ∧ t_k K 44 (e_f K L (decide (k = 0)) σ) = true then p_ls K (e_f K L) k (a_d (e_f K L (decide (k = 0)) σ)) else [])[i]? = some u := by simpa using h
    by_cases hc : k ≠ 0 ∧ t_k K 44 (e_f K L (decide (k = 0)) σ) = true
    · rw [if_pos hc] at h'
      have := pls_ef k _ i u h'
      have e := (ef_0 (tk_t hc.2).1).2.2.2
      rw [e] at this
      unfold a_d at this
      dsimp only at this
      omega
    · rw [if_neg hc] at h'
      cases h'
theorem anyW_one {u : Int} {t : Int} : anyW W [u] t = decide (W u = W t) := by
  unfold anyW
  simp
/-- the VARs -/
theorem x_202v {Q : Option Value → yS → Prop} {LV : List Int} {tv Φ : Int} (h53 : (s.2.1 253 a1.toInt.toNat).toInt = B + tv) (hN : NTr B s 249 (6 * a2.toInt) LV) (h48 : (s.2.1 248 a2.toInt.toNat).toInt = (LV.length : Int)) (ht : R8 s t) (hΦ : frst (lRf B s) (tw1 (wRf B s) [tv] LV) (t.1 8).toInt = Φ) (hQ : ∀ u, R8 s u → (u.1 8).toInt = Φ → Q none u) : ubl_202_120 (Par d) a1 a2 0 t Q := by
  refine ⟨fun b1 b2 b3 u => b1 = a1 ∧ b2 = a2 ∧ R8 s u ∧ ∃ i : Nat, b3.toInt = (i : Int) ∧ i ≤ LV.length ∧ frst (lRf B s) (tw1 (wRf B s) ([tv] ++ LV.take i) (LV.drop i)) (u.1 8).toInt = Φ, ⟨rfl, rfl, ht, 0, by decide, Nat.zero_le _, by rw [List.take_zero, List.append_nil, List.drop_zero]; exact hΦ⟩, ?_⟩
  rintro b1 b2 b3 u ⟨e1, e2, g0, i, g1, g2, g3⟩
  subst e1 e2
  unfold ub_202_120
  have h48u : (u.2.1 248 b2.toInt.toNat).toInt = (LV.length : Int) := by rw [g0.1]; exact h48
  rw [h48u]
  refine fun _ => ⟨fun w => ?_, fun w _ x1 hx1 _ x2 hx2 _ _ _ _ => ?_⟩
  · have hi : i = LV.length := by omega
    rw [hi, List.drop_length] at g3
    exact hQ u g0 g3
  · have hi : i < LV.length := by omega
    have hu : LV[i]? = some LV[i] := List.getElem?_eq_getElem hi
    have e2 : x2.toInt.toNat = (6 * b2.toInt + (i : Int)).toNat := by omega
    have er : (u.2.1 249 x2.toInt.toNat).toInt = B + LV[i] := by
      rw [g0.1, e2]
      exact hN i _ hu
    have ev : (u.2.1 253 b1.toInt.toNat).toInt = B + tv := by rw [g0.1]; exact h53
    rw [List.drop_eq_getElem_cons hi] at g3
    have ew := wRf_8 (B := B) g0
    have el := lRf_8 (B := B) g0
    have nxt : ∀ v : yS, R8 u v → (v.1 8).toInt = (if (u.1 8).toInt = 0 ∧ anyW (wRf B s) ([tv] ++ LV.take i) LV[i] = true then 3 + 16 * lRf B s LV[i] else (u.1 8).toInt) → ub_202_173 (Par d) (fun b1' b2' b3 u => b1' = b1 ∧ b2' = b2 ∧ R8 s u ∧ ∃ i : Nat, b3.toInt = (i : Int) ∧ i ≤ LV.length ∧ frst (lRf B s) (tw1 (wRf B s) ([tv] ++ LV.take i) (LV.drop i)) (u.1 8).toInt = Φ) b1 b2 b3 v Q := by
      intro v v1 v2
      unfold ub_202_173
      intro _ x3 hx3
      refine ⟨rfl, rfl, R8_tr g0 v1, i + 1, by omega, by omega, ?_⟩
      rw [take_s hu, ← List.append_assoc, v2]
      exact g3
    have bad : anyW (wRf B s) ([tv] ++ LV.take i) LV[i] = true → ∀ v : yS, v = u → ub_202_162 (Par d) (fun b1' b2' b3 u => b1' = b1 ∧ b2' = b2 ∧ R8 s u ∧ ∃ i : Nat, b3.toInt = (i : Int) ∧ i ≤ LV.length ∧ frst (lRf B s) (tw1 (wRf B s) ([tv] ++ LV.take i) (LV.drop i)) (u.1 8).toInt = Φ) b1 b2 b3 v Q := by
      intro hb v hv
      subst hv
      unfold ub_202_162
      intro _ x3 hx3 _ x4 hx4 _
      refine Par.imp (x_163t (B := B) (t := LV[i]) (by rw [show x4.toInt.toNat = x2.toInt.toNat by omega]; exact er)) ?_
      rintro v3 s3 ⟨rfl, c1, c2⟩
      refine ⟨rfl, nxt s3 c1 ?_⟩
      rw [c2, el]
      by_cases h0 : (v.1 8).toInt = 0
      · rw [if_pos h0, if_pos ⟨h0, hb⟩]
      · rw [if_neg h0, if_neg (fun w => h0 w.1)]
    rw [er, ev]
    have ev2 : (u.2.1 217 (B + LV[i]).toNat).toInt = wRf B s LV[i] := by rw [← ew]; rfl
    have ev3 : (u.2.1 217 (B + tv).toNat).toInt = wRf B s tv := by rw [← ew]; rfl
    rw [ev2, ev3]
    refine ⟨fun w1 => bad ?_ _ rfl, fun w1 _ x3 hx3 _ x4 hx4 _ _ x5 hx5 => ?_⟩
    · rw [anyW_ap, anyW_one, decide_eq_true w1.symm, Bool.true_or]
    · refine Par.imp (x_198 (B := B) (t := LV[i]) (Ls := LV) (m := i) (by omega) (by rw [show x4.toInt.toNat = x2.toInt.toNat by omega]; exact er) (by rw [hx5]; exact NTr_8 g0 hN) g1 (by omega)) ?_
      rintro v7 s6 ⟨hs6, x8, rfl, hr⟩
      rw [ew] at hr
      subst hs6
      refine ⟨x8, rfl, fun w8 => ?_, fun w8 => ?_⟩
      · rcases hr with ⟨c1, -⟩ | ⟨-, c1⟩
        · omega
        refine nxt _ R8_rf ?_
        rw [if_neg (fun w => ?_)]
        have := w.2
        rw [anyW_ap, anyW_one, c1, Bool.or_false, decide_eq_true_eq] at this
        exact w1 this.symm
      · rcases hr with ⟨-, c1⟩ | ⟨c1, -⟩
        · exact bad (by rw [anyW_ap, c1, Bool.or_true]) _ rfl
        · omega
end UTF
