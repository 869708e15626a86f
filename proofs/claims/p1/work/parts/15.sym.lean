/-! ===== steps one by one, for runs with a number that isn't known ===== -/
noncomputable def xit (calls : xC) (F : xK) (n : Nat) (z : Option ((xK × xS) ⊕ xR)) : Option ((xK × xS) ⊕ xR) := Nat.rec (motive := fun _ => Option ((xK × xS) ⊕ xR) → Option ((xK × xS) ⊕ xR)) (fun z => z) (fun _ ih z => ih (xstep calls F z)) n z
section XIT
variable {calls : xC} {F : xK}
theorem xit_s (n : Nat) (z : Option ((xK × xS) ⊕ xR)) : xit calls F (n + 1) z = xit calls F n (xstep calls F z) := rfl
theorem xit_add (m n : Nat) (z : Option ((xK × xS) ⊕ xR)) : xit calls F (m + n) z = xit calls F n (xit calls F m z) := by
  induction m generalizing z with
  | zero => rw [Nat.zero_add]; rfl
  | succ m ih =>
    rw [show m + 1 + n = (m + n) + 1 by omega, xit_s, ih, xit_s]
theorem xit_done (n : Nat) (res : xR) : xit calls F n (some (.inr res)) = some (.inr res) := by
  induction n with
  | zero => rfl
  | succ n ih => exact ih
theorem xit_none (n : Nat) : xit calls F n none = none := by
  induction n with
  | zero => rfl
  | succ n ih => exact ih
theorem xrun_it (n : Nat) : ∀ z, xrun calls F n z = xit calls F (2 ^ n) z := by
  induction n with
  | zero => intro z; rfl
  | succ n ih =>
    intro z
    have e1 : xrun calls F (n + 1) z = (match xrun calls F n z with
      | some (.inl q) => xrun calls F n (some (.inl q))
      | some (.inr res) => some (.inr res)
      | none => none) := rfl
    rw [e1, show 2 ^ (n + 1) = 2 ^ n + 2 ^ n by omega, xit_add, ← ih z]
    cases hz : xrun calls F n z with
    | none => rw [xit_none]
    | some y =>
      cases y with
      | inl q => exact ih _
      | inr res => rw [xit_done]
theorem xrun_of {k n : Nat} {z : Option ((xK × xS) ⊕ xR)} {res : xR} (hk : k ≤ 2 ^ n) (h : xit calls F k z = some (.inr res)) : xrun calls F n z = some (.inr res) := by
  rw [xrun_it, show 2 ^ n = k + (2 ^ n - k) by omega, xit_add, h, xit_done]
/-- one step on, or the end -/
theorem xit_l {k pc : Nat} {f : xF} {r : xK} {σ : xS} {q : Option Nat × xS} {z : Option ((xK × xS) ⊕ xR)} (he : f calls σ = some (.inl q)) (h : xit calls F k (some (.inl (xnx F r q.1, q.2))) = z) : xit calls F (k + 1) (some (.inl ((pc, f) :: r, σ))) = z := by
  rw [xit_s]
  have e1 : xstep calls F (some (.inl ((pc, f) :: r, σ))) = (match f calls σ with
    | none => none
    | some (.inr res) => some (.inr res)
    | some (.inl z) => some (.inl (xnx F r z.1, z.2))) := rfl
  rw [e1, he]
  exact h
theorem xit_r {k pc : Nat} {f : xF} {r : xK} {σ : xS} {res : xR} (he : f calls σ = some (.inr res)) : xit calls F (k + 1) (some (.inl ((pc, f) :: r, σ))) = some (.inr res) := by
  rw [xit_s]
  have e1 : xstep calls F (some (.inl ((pc, f) :: r, σ))) = (match f calls σ with
    | none => none
    | some (.inr res) => some (.inr res)
    | some (.inl z) => some (.inl (xnx F r z.1, z.2))) := rfl
  rw [e1, he]
  exact xit_done k res
end XIT
theorem xex_of {sg : Nat → Option xM} {pr : Nat → Option xK} {d i k : Nat} {vs : List Value} {h : xH} {M : xM} {F : xK} {res : xR} (hM : sg i = some M) (hF : pr i = some F) (hl : Nat.ble (lg_sl vs).length M.2.2.1 = true) (hk : k ≤ 16384) (hr : xit (xex sg pr d) F k (some (.inl (F, (lv_args 0 vs, [], h, 0, 0)))) = some (.inr res)) : xex sg pr (d + 1) i vs h = some res := by
  show xen sg pr (xex sg pr d) i vs h = some res
  unfold xen
  rw [hM]
  dsimp only
  rw [hF]
  dsimp only
  rw [hl]
  dsimp only
  rw [xrun_of (n := 14) hk hr]
  rfl
/-- the instructions that look into a cell -/
theorem xe_get {ci k a : Nat} {calls : xC} {loc : List (Nat × Value)} {st fs : List Value} {h : xH} {cs sl : Nat} {v : Value} (hh : h[a]? = some (.inr (ci, fs))) (hv : fs[k]? = some v) : xGet ci k calls (loc, .ref a :: st, h, cs, sl) = some (.inl (none, (loc, v :: st, h, cs, sl))) := by
  simp only [xGet, hh, hv, show Nat.beq ci ci = true from Nat.beq_refl ci]
theorem xe_put {ci k t a : Nat} {calls : xC} {loc : List (Nat × Value)} {st fs : List Value} {h : xH} {cs sl : Nat} {v : Value} (hh : h[a]? = some (.inr (ci, fs))) (hk : k < fs.length) (hv : xfT t v = true) : xPut ci k t calls (loc, v :: .ref a :: st, h, cs, sl) = some (.inl (none, (loc, st, h.set a (.inr (ci, fs.set k v)), cs, sl))) := by
  have h1 : Nat.blt k fs.length = true := Nat.ble_eq_true_of_le hk
  simp only [xPut, hh, hv, show Nat.beq ci ci = true from Nat.beq_refl ci, h1, Bool.and_self]
theorem xobj_at {h : xH} {k : Nat} {q : Nat × List Value} (he : xobj h k = some q) : h[k]? = some (.inr q) := by
  unfold xobj at he
  split at he
  · rename_i q' hq
    cases he
    exact hq
  · cases he
theorem xarr_at {h : xH} {k : Nat} {t n : Nat} (he : xarr h k = some (t, n)) : ∃ f, h[k]? = some (.inl (t, n, .inl f)) := by
  unfold xarr at he
  split at he
  · rename_i f hq
    cases he
    exact ⟨f, hq⟩
  · cases he
/-- run, made, print, out, count: the class -/
theorem xs_run (d : Nat) (n : Int32) : xex xsg xpr (d + 1) 4 [.ref 0, .int n] xh2 = some (some (.int (-1)), xh2, 0, 0) := by
  have h0 := xobj_at xe_8
  refine xex_of (k := 5) rfl rfl rfl (by decide) ?_
  refine xit_l rfl ?_
  refine xit_l (xe_get h0 rfl) ?_
  refine xit_l rfl ?_
  refine xit_l rfl ?_
  exact xit_r rfl
theorem xs_made (d : Nat) (n : Int32) : xex xsg xpr (d + 1) 8 [.ref 0, .int n] xh2 = some (some (.int (-1)), xh2, 0, 0) := by
  have h0 := xobj_at xe_8
  have h1 := xobj_at xe_11
  refine xex_of (k := 6) rfl rfl rfl (by decide) ?_
  refine xit_l rfl ?_
  refine xit_l (xe_get h0 rfl) ?_
  refine xit_l (xe_get h1 rfl) ?_
  refine xit_l rfl ?_
  refine xit_l rfl ?_
  exact xit_r rfl
