/-! ===== TYPES whose arguments are within their bounds, all the way down ===== -/
section OKL
variable {G : PG} {H : Nat}
theorem isF_at : ∀ {L : List Nat} {k i : Nat}, isF k L → i < L.length → ∃ A B, L.drop i = A ++ B ∧ isF 1 A
  | [], k, i, _, hi => by
    simp at hi
  | x :: L, k, 0, h, _ => by
    have hk : 1 ≤ k := h.1
    obtain ⟨A, B, e, hA, -⟩ := isF_spl (a := 1) (b := k - 1) (L := x :: L) (by rw [show 1 + (k - 1) = k by omega]; exact h)
    exact ⟨A, B, e, hA⟩
  | x :: L, k, i + 1, h, hi => by
    have hi' : i < L.length := by
      have : i + 1 < L.length + 1 := hi
      omega
    obtain ⟨A, B, e, hA⟩ := isF_at (L := L) (i := i) h.2 hi'
    exact ⟨A, B, e, hA⟩
theorem len_flat : ∀ {Cs : List (List Nat)} {C : List Nat}, C ∈ Cs → C.length ≤ Cs.flatten.length
  | [], C, h => absurd h List.not_mem_nil
  | D :: Cs, C, h => by
    rw [List.flatten_cons, List.length_append]
    rcases List.mem_cons.mp h with rfl | h
    · omega
    · have := len_flat h
      omega
/-- its arguments are within its bounds -/
def gd (G : PG) (A : List Nat) : Prop := ∀ x Cs, cutT A x Cs → x / 8 < gT G → wEnv G (scDg G (x / 8)) (envS (1000 + 6 * (x / 8)) Cs 0 [])
def okL (G : PG) (m : Nat) (L : List Nat) : Prop := isF m L ∧ (∀ x ∈ L, vE G sc0 x) ∧ ∀ i A B, L.drop i = A ++ B → isF 1 A → gd G A
theorem okL_nil : okL G 0 [] := ⟨rfl, fun x hx => absurd hx List.not_mem_nil, fun i A B e hA => by
  rw [List.drop_nil] at e
  have : A = [] := (List.append_eq_nil_iff.mp e.symm).1
  rw [this] at hA
  have hA : 1 = 0 := hA
  omega⟩
theorem okL_app {a b : Nat} {A B : List Nat} (hA : okL G a A) (hB : okL G b B) : okL G (a + b) (A ++ B) := by
  refine ⟨isF_app hA.1 hB.1, fun x hx => (List.mem_append.mp hx).elim (hA.2.1 x) (hB.2.1 x), fun i C D e hC => ?_⟩
  by_cases hi : i < A.length
  · obtain ⟨A1, B1, e1, h1⟩ := isF_at hA.1 hi
    rw [List.drop_append_of_le_length (by omega), e1, List.append_assoc] at e
    obtain ⟨e2, -⟩ := isF_inj h1 hC e
    rw [← e2]
    exact hA.2.2 i A1 B1 e1 h1
  · rw [List.drop_append, List.drop_eq_nil_of_le (by omega), List.nil_append] at e
    exact hB.2.2 _ C D e hC
theorem okL_flat : ∀ {As : List (List Nat)}, (∀ B ∈ As, okL G 1 B) → okL G As.length As.flatten
  | [], _ => okL_nil
  | A :: As, h => by
    have := okL_app (h A List.mem_cons_self) (okL_flat (fun B hB => h B (List.mem_cons_of_mem _ hB)))
    rw [show 1 + As.length = (A :: As).length by rw [List.length_cons]; omega] at this
    exact this
theorem okL_cons {x : Nat} {As : List (List Nat)} (hx : vE G sc0 x) (hc : As.length = x % 8) (hA : ∀ B ∈ As, okL G 1 B) (hg : gd G (x :: As.flatten)) : okL G 1 (x :: As.flatten) := by
  have hF := okL_flat hA
  have h1 : isF 1 (x :: As.flatten) := ⟨Nat.le_refl _, by rw [← hc]; have := hF.1; rw [show 1 - 1 + As.length = As.length by omega]; exact this⟩
  refine ⟨h1, fun y hy => ?_, fun i C D e hC => ?_⟩
  · rcases List.mem_cons.mp hy with rfl | hy
    · exact hx
    · exact hF.2.1 y hy
  · cases i with
    | zero =>
      have e' : (x :: As.flatten) ++ [] = C ++ D := by
        rw [List.append_nil]
        exact e
      rw [← (isF_inj h1 hC e').1]
      exact hg
    | succ i => exact hF.2.2 i C D e hC
/-- a TYPE in scope, put -/
theorem okL_subs {sc : Nat → Prop} {τ : Nat → Option (List Nat)} (hW : WG G H) (hsc : scC G H sc) (hτ : wEnv G sc τ) (hg : ∀ c A, τ c = some A → okL G 1 A) : ∀ (k : Nat) (L : List Nat), L.length ≤ k → okE G sc L → okBa G L → okL G 1 (subs τ L)
  | 0, L, hk, hL, _ => by
    have : L = [] := List.length_eq_zero_iff.mp (by omega)
    rw [this] at hL
    have h1 : 1 = 0 := hL.1
    omega
  | k + 1, L, hk, hL, hB => by
    have hT := hW.1.1
    obtain ⟨x, Cs, hc⟩ := cutT_ex hL.1
    obtain ⟨vx, kC⟩ := okE_cut hc hL
    obtain ⟨oL, kL⟩ := wEnv_ok hT hτ hL
    by_cases hx : x / 8 < gT G
    · have hn : τ (x / 8) = none := hτ.1 _ (by omega)
      have hcut := cut_subs hc oL hn
      rw [hcut.1]
      refine okL_cons ?_ hcut.2.2 (fun B hB' => ?_) ?_
      · have := kL.2
        rw [hcut.1] at this
        exact this x List.mem_cons_self
      · obtain ⟨C, h1, rfl⟩ := List.mem_map.mp hB'
        obtain ⟨a, ha⟩ := List.mem_iff_getElem?.mp h1
        refine okL_subs hW hsc hτ hg k C ?_ (kC C h1) (okBa_cut hB hc (by omega) a C ha).2
        have h2 : C.length ≤ Cs.flatten.length := len_flat h1
        have h3 := congrArg List.length hc.1
        rw [List.length_cons] at h3
        omega
      · intro y Ds hd hy
        have : cutT (subs τ L) y Ds := by rw [hcut.1]; exact hd
        obtain ⟨e1, e2⟩ := cutT_inj hcut this
        subst e1 e2
        exact st_env hW hsc hτ hL hB hc hx
    · rcases vx with z | ⟨z1, z2, z3⟩
      · exact absurd z.1 hx
      · obtain ⟨A, a1, -⟩ := hτ.2.2 _ z3
        have hC0 : Cs = [] := List.length_eq_zero_iff.mp (by rw [hc.2.2]; exact z1)
        have hL1 : L = [x] := by rw [hc.1, hC0]; rfl
        rw [hL1, subs_cons, sub_some a1]
        show okL G 1 (A ++ [])
        rw [List.append_nil]
        exact hg _ A a1
/-- what begins in such a row is such a TYPE -/
theorem okL_sub {m i : Nat} {L A B : List Nat} (h : okL G m L) (e : L.drop i = A ++ B) (hA : isF 1 A) : okL G 1 A := by
  refine ⟨hA, fun x hx => h.2.1 x (List.mem_of_mem_drop (by rw [e]; exact List.mem_append_left _ hx)), fun j C D e' hC => ?_⟩
  refine h.2.2 (i + j) C (D ++ B) ?_ hC
  have hj : j ≤ A.length := by
    by_cases q : j ≤ A.length
    · exact q
    · rw [List.drop_eq_nil_of_le (by omega)] at e'
      have : C = [] := (List.append_eq_nil_iff.mp e'.symm).1
      rw [this] at hC
      have hC : 1 = 0 := hC
      omega
  rw [← List.drop_drop, e, List.drop_append_of_le_length hj, e', List.append_assoc]
/-- a method's row: whoever is below its first TYPE has it, and its env is within the bounds -/
def RM (G : PG) (wd : Int) (I : List Nat) (Ds : List (List Nat)) : Prop := ∀ V v Vs, vSt G V → cutT V v Vs → wEnv G (scDg G (v / 8)) (envS (1000 + 6 * (v / 8)) Vs 0 []) → impl G V I → ∃ kf g, kf < gF G ∧ g = gfh G kf ∧ gso G kf = v / 8 ∧ isHd G (v / 8) wd g (4000 + 6 * kf) ∧ Ds.length = ghn G g ∧ wEnv G (scHg G g) (envS (4000 + 6 * kf) Vs (2000 + 6 * g) Ds)
def RK (G : PG) (st wd : Int) (m : Nat) (L : List Nat) : Prop := isF m L ∧ (∀ x ∈ L, vE G sc0 x) ∧ (st = 0 → okL G 1 L ∧ L.length ≤ 60) ∧ (st = 1 → L.length ≤ 420 ∧ ∃ I Ds, L = I ++ Ds.flatten ∧ isF 1 I ∧ (∀ D ∈ Ds, okL G 1 D) ∧ Ds.length + 1 = m ∧ RM G wd I Ds)
end OKL
