/-! ===== goThrough, the first time ===== -/
section UGO
variable {d : Nat} {s : yS} {B b h x y t : Int} {K L : Int → Int} {a2 : Int32} {E : List Int} {F : List (Int × Int)} {m : Nat}
theorem x_231a (h30 : (s.1 30).toInt = b) (hb0 : 0 ≤ b) (h2 : a2.toInt = (m : Int)) (hm2 : m < 100) (hh : 0 ≤ h) (hE : NTr B s 234 (24 * b) E) (hm : m ≤ E.length) (hT : TYr K L B s (24 * b + (m : Int)) h x y t) : Par d 231 [.ref 213, .int 0, .int a2] s (fun v s' => v = none ∧ R8 s s' ∧ (s'.1 8).toInt = frst (lRf B s) (twT (wRf B s) K L (E.take m) t) (s.1 8).toInt) := by
  cases d with
  | zero => exact Par_0
  | succ d =>
    refine pb_231 ?_
    unfold ub_231_0
    rw [h30]
    intro _ x1 hx1 _ x2 hx2 _ x3 hx3 _ x4 hx4 _ x5 hx5
    refine ⟨fun w => absurd (by decide) w, fun _ => ⟨fun w => by omega, fun _ => ?_⟩⟩
    refine Par.imp (x_201 (D := 24 * b + (m : Int)) h30 (by omega) rfl (by omega) hh hE hm hT) ?_
    rintro v s' ⟨rfl, c⟩
    unfold ub_231_56
    exact ⟨rfl, rfl, c⟩
theorem x_231b (h30 : (s.1 30).toInt = b) (hb0 : 0 ≤ b) (h2 : a2.toInt = 100 + (m : Int)) (hh : 0 ≤ h) (hE : FEr B s (60 * b) F) (hm : m ≤ F.length) (hL0 : ∀ u : Int, 0 ≤ lRf B s u) (hF : FNr K L B s (60 * b + (m : Int)) h x y t) : Par d 231 [.ref 213, .int 0, .int a2] s (fun v s' => v = none ∧ R8 s s' ∧ (s'.1 8).toInt = frst (lRf B s) (twF (wRf B s) K L (F.take m) t) (s.1 8).toInt) := by
  cases d with
  | zero => exact Par_0
  | succ d =>
    refine pb_231 ?_
    unfold ub_231_0
    rw [h30]
    intro _ x1 hx1 _ x2 hx2 _ x3 hx3 _ x4 hx4 _ x5 hx5
    refine ⟨fun w => absurd (by decide) w, fun _ => ⟨fun _ => ?_, fun w => by omega⟩⟩
    refine Par.imp (x_202 (G := 60 * b + (m : Int)) h30 hb0 (by omega) rfl hh hE hm hL0 hF) ?_
    rintro v s' ⟨rfl, c⟩
    unfold ub_231_56
    exact ⟨rfl, rfl, c⟩
end UGO
