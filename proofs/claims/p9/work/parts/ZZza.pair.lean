/-! ===== a call of the class, and the same call of the reference: the tape's signs, the first words ===== -/
/-- the tape's signs -/
def TPz (h : xH) (s : yS) : Prop := ∀ i : Nat, (i : Int) < (s.1 2).toInt → rv h 1 i = s.2.1 214 i
/-- the first words of both programs -/
def SGh (h : xH) : Prop := ∀ a, a = 21 ∨ a = 57 → ∀ i : Nat, i < 18 → (rv h a i).toInt = 24 + (i : Int)
/-- Rows stay where their cells do -/
theorem rc_same {h1 h2 : xH} (hI : INV h1) (flE : ∀ a k, a < 213 → fld h2 a k = fld h1 a k) (hg : ∀ m, (m < 213 ∨ 288 ≤ m) → h2[m]? = h1[m]?) {a : Nat} (ha : a ∈ rowL) : rc h2 a = rc h1 a := by
  obtain ⟨-, c, n, f, q1, -, -, q4, -⟩ := hI.2.1.1 a ha
  unfold rc at q1 ⊢
  rw [flE a 1 (fk_row a ha).2.2]
  cases hq : fld h1 a 1 with
  | none => rfl
  | some w =>
    cases w with
    | ref c' =>
      rw [hq] at q1
      dsimp only at q1 ⊢
      have e : c' = c := by
        split at q1
        · cases q1
          rfl
        · cases q1
      rw [hg c' (by rw [e]; exact q4)]
    | _ => rfl
theorem rv_same {h1 h2 : xH} {a : Nat} (e : rc h2 a = rc h1 a) (i : Nat) : rv h2 a i = rv h1 a i := by
  unfold rv
  rw [e]
theorem SG_wk {h h1 : xH} (g : WKh h h1) (hS : SGh h) : SGh h1 := fun a ha i hi => by
  rw [g a ha i hi]
  exact hS a ha i hi
def zst (h : xH) : zS := (fun a k => match fld h a k with
  | some (.int x) => x
  | _ => 0, rv h)
theorem zst_ok {h : xH} (hI : INV h) : zI h (zst h) := ⟨fun a k hk => by
  obtain ⟨x, e, -⟩ := isIf_ok hI hk
  rw [e]
  show some (Value.int x) = some (Value.int (match fld h a k with
    | some (.int x) => x
    | _ => 0))
  rw [e], fun a _ i => rfl⟩
