/-! behindPoint -/
def ub_177_160 (T : Nat → List Value → yS → (Option Value → yS → Prop) → Prop)  (a1 : Int32) (a2 : Int32) (a3 : Int32) (a4 : Int32) (s : yS) (P : Option Value → yS → Prop) : Prop :=
  P (some (.int a4)) s
set_option maxRecDepth 20000 in
theorem lk_177_160 {d N0 : Nat}  {a1 : Int32} {a2 : Int32} {a3 : Int32} {a4 : Int32} {s : yS} {P : Option Value → yS → Prop}  (h : ub_177_160 (Par d)  a1 a2 a3 a4 s P) : Lb d N0 6 (some .int) xE_177 (xE_177.drop 160) [.ref 213, .int a1, .int a2, .int a3, .int a4, .null, .null, .null] [] s P := by
  unfold ub_177_160 at h
  refine Lb_w (lb_ld rfl rfl rfl ?_)
  exact Lb_w (lb_retI rfl h)
def ub_177_157 (T : Nat → List Value → yS → (Option Value → yS → Prop) → Prop)  (a1 : Int32) (a2 : Int32) (a3 : Int32) (a4 : Int32) (s : yS) (P : Option Value → yS → Prop) : Prop :=
  T 167 [.ref 213, .int 41] s (fun v2 s1 => v2 = none ∧ (ub_177_160 T  a1 a2 a3 a4  s1 P))
set_option maxRecDepth 20000 in
theorem lk_177_157 {d N0 : Nat}  {a1 : Int32} {a2 : Int32} {a3 : Int32} {a4 : Int32} {s : yS} {P : Option Value → yS → Prop}  (h : ub_177_157 (Par d)  a1 a2 a3 a4 s P) : Lb d N0 6 (some .int) xE_177 (xE_177.drop 157) [.ref 213, .int a1, .int a2, .int a3, .int a4, .null, .null, .null] [] s P := by
  unfold ub_177_157 at h
  refine Lb_w (lb_ld rfl rfl rfl ?_)
  refine Lb_w (lb_c [.int 41, .ref 213] (xo_push (.int 41)) rfl rfl ?_)
  refine Lb_w (lb_call [.ref 213, .int 41] [] rfl rfl rfl (Par.imp h (fun v2 s1 h => ?_)))
  obtain ⟨rfl, h⟩ := h
  change Lb _ _ _ _ _ _ _ [] _ _
  exact lk_177_160  h
def ub_177_136 (T : Nat → List Value → yS → (Option Value → yS → Prop) → Prop)  (a1 : Int32) (a2 : Int32) (a3 : Int32) (a4 : Int32) (s : yS) (P : Option Value → yS → Prop) : Prop :=
  T 167 [.ref 213, .int 40] s (fun v2 s1 => v2 = none ∧ (T 164 [.ref 213, .int 41] s1 (fun v4 s3 => ∃ x5, v4 = some (.int x5) ∧ ((¬ (x5.toInt = 0) → ub_177_157 T  a1 a2 a3 a4  s3 P) ∧ (x5.toInt = 0 → T 176 [.ref 213] s3 (fun v7 s6 => ∃ x8, v7 = some (.int x8) ∧ (((0 ≤ a4.toInt ∧ a4.toInt < 12006) → ∀ s9, s9 = sa s6 224 a4.toInt.toNat x8 → ((0 ≤ a4.toInt ∧ a4.toInt < 12006) → ∀ s10, s10 = sa s9 226 a4.toInt.toNat (s9.1 28) → ub_177_157 T  a1 a2 a3 a4  s10 P)))))))))
set_option maxRecDepth 20000 in
theorem lk_177_136 {d N0 : Nat}  {a1 : Int32} {a2 : Int32} {a3 : Int32} {a4 : Int32} {s : yS} {P : Option Value → yS → Prop}  (h : ub_177_136 (Par d)  a1 a2 a3 a4 s P) : Lb d N0 6 (some .int) xE_177 (xE_177.drop 136) [.ref 213, .int a1, .int a2, .int a3, .int a4, .null, .null, .null] [] s P := by
  unfold ub_177_136 at h
  refine Lb_w (lb_ld rfl rfl rfl ?_)
  refine Lb_w (lb_c [.int 40, .ref 213] (xo_push (.int 40)) rfl rfl ?_)
  refine Lb_w (lb_call [.ref 213, .int 40] [] rfl rfl rfl (Par.imp h (fun v2 s1 h => ?_)))
  obtain ⟨rfl, h⟩ := h
  change Lb _ _ _ _ _ _ _ [] _ _
  refine Lb_w (lb_ld rfl rfl rfl ?_)
  refine Lb_w (lb_c [.int 41, .ref 213] (xo_push (.int 41)) rfl rfl ?_)
  refine Lb_w (lb_call [.ref 213, .int 41] [] rfl rfl rfl (Par.imp h (fun v4 s3 h => ?_)))
  obtain ⟨x5, rfl, h⟩ := h
  change Lb _ _ _ _ _ _ _ [.int x5] _ _
  refine Lb_w (lb_brN rfl rfl ⟨fun hc => ?_, fun hc => ?_⟩)
  · replace h := h.1 (fun q => hc ((i_eq (x := x5) (y := 0) rfl (show (0 : Int32).toInt = 0 by decide)).mpr q))
    exact lk_177_157  h
  · replace h := h.2 ((i_eq (x := x5) (y := 0) rfl (show (0 : Int32).toInt = 0 by decide)).mp hc)
    refine Lb_w (lb_ld rfl rfl rfl ?_)
    refine Lb_w (lb_call [.ref 213] [] rfl rfl rfl (Par.imp h (fun v7 s6 h => ?_)))
    obtain ⟨x8, rfl, h⟩ := h
    change Lb _ _ _ _ _ _ _ [.int x8] _ _
    refine Lb_w (lb_st [.ref 213, .int a1, .int a2, .int a3, .int a4, .int x8, .null, .null] rfl rfl rfl ?_)
    refine Lb_w (lb_ld rfl rfl rfl ?_)
    refine Lb_w (lb_get rfl rfl ?_)
    change Lb _ _ _ _ _ _ _ [.ref 224] _ _
    refine Lb_w (lb_ld rfl rfl rfl ?_)
    refine Lb_w (lb_ld rfl rfl rfl ?_)
    refine Lb_w (lb_ias rfl rfl (fun hk => ?_))
    replace h := h (kc_in (x := a4) rfl hk)
    replace h := h _ rfl
    refine Lb_w (lb_ld rfl rfl rfl ?_)
    refine Lb_w (lb_get rfl rfl ?_)
    change Lb _ _ _ _ _ _ _ [.ref 226] _ _
    refine Lb_w (lb_ld rfl rfl rfl ?_)
    refine Lb_w (lb_ld rfl rfl rfl ?_)
    refine Lb_w (lb_get rfl rfl ?_)
    change Lb _ _ _ _ _ _ _ [.int ((sa s6 224 a4.toInt.toNat x8).1 28), .int a4, .ref 226] _ _
    refine Lb_w (lb_ias rfl rfl (fun hk => ?_))
    replace h := h (kc_in (x := a4) rfl hk)
    replace h := h _ rfl
    refine lb_fg 5 ?_
    exact lk_177_157  h
def ub_177_93 (T : Nat → List Value → yS → (Option Value → yS → Prop) → Prop)  (a1 : Int32) (a2 : Int32) (a3 : Int32) (t1 : Int32) (s : yS) (P : Option Value → yS → Prop) : Prop :=
  T 171 [.ref 213, .int t1] s (fun v2 s1 => ∃ x3, v2 = some (.int x3) ∧ (((0 ≤ x3.toInt ∧ x3.toInt < 12006) → ∀ s4, s4 = sa s1 227 x3.toInt.toNat a1 → ((0 ≤ a1.toInt ∧ a1.toInt < 12006) → ∀ s5, s5 = sa s4 228 a1.toInt.toNat x3 → ((0 ≤ x3.toInt ∧ x3.toInt < 12006) → ∀ s6, s6 = sa s5 223 x3.toInt.toNat a2 → ((-2147483648 ≤ (s6.1 7).toInt + 1 ∧ (s6.1 7).toInt + 1 ≤ 2147483647) → ∀ x7 : Int32, x7.toInt = (s6.1 7).toInt + 1 → ∀ s8, s8 = sf s6 7 x7 → (a3.toInt = 0 → ub_177_160 T  a1 a2 a3 x3  s8 P) ∧ (¬ (a3.toInt = 0) → T 164 [.ref 213, .int 91] s8 (fun v10 s9 => ∃ x11, v10 = some (.int x11) ∧ ((x11.toInt = 0 → ub_177_136 T  a1 a2 a3 x3  s9 P) ∧ (¬ (x11.toInt = 0) → T 174 [.ref 213] s9 (fun v13 s12 => ∃ x14, v13 = some (.int x14) ∧ (((0 ≤ x3.toInt ∧ x3.toInt < 12006) → ∀ s15, s15 = sa s12 229 x3.toInt.toNat x14 → ((0 ≤ x3.toInt ∧ x3.toInt < 12006) → ∀ s16, s16 = sa s15 230 x3.toInt.toNat (s15.1 28) → ub_177_136 T  a1 a2 a3 x3  s16 P))))))))))))))
set_option maxRecDepth 20000 in
theorem lk_177_93 {d N0 : Nat}  {a1 : Int32} {a2 : Int32} {a3 : Int32} {t1 : Int32} {s : yS} {P : Option Value → yS → Prop}  (h : ub_177_93 (Par d)  a1 a2 a3 t1 s P) : Lb d N0 6 (some .int) xE_177 (xE_177.drop 93) [.ref 213, .int a1, .int a2, .int a3, .null, .null, .null, .null] [.int t1, .ref 213] s P := by
  unfold ub_177_93 at h
  refine Lb_w (lb_call [.ref 213, .int t1] [] rfl rfl rfl (Par.imp h (fun v2 s1 h => ?_)))
  obtain ⟨x3, rfl, h⟩ := h
  change Lb _ _ _ _ _ _ _ [.int x3] _ _
  refine Lb_w (lb_st [.ref 213, .int a1, .int a2, .int a3, .int x3, .null, .null, .null] rfl rfl rfl ?_)
  refine Lb_w (lb_ld rfl rfl rfl ?_)
  refine Lb_w (lb_get rfl rfl ?_)
  change Lb _ _ _ _ _ _ _ [.ref 227] _ _
  refine Lb_w (lb_ld rfl rfl rfl ?_)
  refine Lb_w (lb_ld rfl rfl rfl ?_)
  refine Lb_w (lb_ias rfl rfl (fun hk => ?_))
  replace h := h (kc_in (x := x3) rfl hk)
  replace h := h _ rfl
  refine Lb_w (lb_ld rfl rfl rfl ?_)
  refine Lb_w (lb_get rfl rfl ?_)
  change Lb _ _ _ _ _ _ _ [.ref 228] _ _
  refine Lb_w (lb_ld rfl rfl rfl ?_)
  refine Lb_w (lb_ld rfl rfl rfl ?_)
  refine Lb_w (lb_ias rfl rfl (fun hk => ?_))
  replace h := h (kc_in (x := a1) rfl hk)
  replace h := h _ rfl
  refine Lb_w (lb_ld rfl rfl rfl ?_)
  refine Lb_w (lb_get rfl rfl ?_)
  change Lb _ _ _ _ _ _ _ [.ref 223] _ _
  refine Lb_w (lb_ld rfl rfl rfl ?_)
  refine Lb_w (lb_ld rfl rfl rfl ?_)
  refine Lb_w (lb_ias rfl rfl (fun hk => ?_))
  replace h := h (kc_in (x := x3) rfl hk)
  replace h := h _ rfl
  refine Lb_w (lb_ld rfl rfl rfl ?_)
  refine Lb_w (lb_c [.ref 213, .ref 213] xo_dup rfl rfl ?_)
  refine Lb_w (lb_get rfl rfl ?_)
  change Lb _ _ _ _ _ _ _ [.int ((sa (sa (sa s1 227 x3.toInt.toNat a1) 228 a1.toInt.toNat x3) 223 x3.toInt.toNat a2).1 7), .ref 213] _ _
  refine Lb_w (lb_c [.int 1, .int ((sa (sa (sa s1 227 x3.toInt.toNat a1) 228 a1.toInt.toNat x3) 223 x3.toInt.toNat a2).1 7), .ref 213] (xo_push (.int 1)) rfl rfl ?_)
  refine Lb_w (lb_ca [.int (((sa (sa (sa s1 227 x3.toInt.toNat a1) 228 a1.toInt.toNat x3) 223 x3.toInt.toNat a2).1 7) + 1), .ref 213] xo_iadd rfl rfl (fun _ hk => ?_))
  replace hk := kc_add (x := (sa (sa (sa s1 227 x3.toInt.toNat a1) 228 a1.toInt.toNat x3) 223 x3.toInt.toNat a2).1 7) (y := 1) rfl (show (1 : Int32).toInt = 1 by decide) hk
  replace h := h hk _ (i_add (x := (sa (sa (sa s1 227 x3.toInt.toNat a1) 228 a1.toInt.toNat x3) 223 x3.toInt.toNat a2).1 7) (y := 1) rfl (show (1 : Int32).toInt = 1 by decide) hk)
  refine Lb_w (lb_put rfl rfl (fun hk => ?_))
  replace h := h _ rfl
  refine Lb_w (lb_ld rfl rfl rfl ?_)
  refine Lb_w (lb_brP rfl rfl ⟨fun hc => ?_, fun hc => ?_⟩)
  · replace h := h.1 ((i_eq (x := a3) (y := 0) rfl (show (0 : Int32).toInt = 0 by decide)).mp hc)
    exact lk_177_160  h
  · replace h := h.2 (fun q => hc ((i_eq (x := a3) (y := 0) rfl (show (0 : Int32).toInt = 0 by decide)).mpr q))
    refine Lb_w (lb_ld rfl rfl rfl ?_)
    refine Lb_w (lb_c [.int 91, .ref 213] (xo_push (.int 91)) rfl rfl ?_)
    refine Lb_w (lb_call [.ref 213, .int 91] [] rfl rfl rfl (Par.imp h (fun v10 s9 h => ?_)))
    obtain ⟨x11, rfl, h⟩ := h
    change Lb _ _ _ _ _ _ _ [.int x11] _ _
    refine Lb_w (lb_brP rfl rfl ⟨fun hc => ?_, fun hc => ?_⟩)
    · replace h := h.1 ((i_eq (x := x11) (y := 0) rfl (show (0 : Int32).toInt = 0 by decide)).mp hc)
      exact lk_177_136  h
    · replace h := h.2 (fun q => hc ((i_eq (x := x11) (y := 0) rfl (show (0 : Int32).toInt = 0 by decide)).mpr q))
      refine Lb_w (lb_ld rfl rfl rfl ?_)
      refine Lb_w (lb_call [.ref 213] [] rfl rfl rfl (Par.imp h (fun v13 s12 h => ?_)))
      obtain ⟨x14, rfl, h⟩ := h
      change Lb _ _ _ _ _ _ _ [.int x14] _ _
      refine Lb_w (lb_st [.ref 213, .int a1, .int a2, .int a3, .int x3, .int x14, .null, .null] rfl rfl rfl ?_)
      refine Lb_w (lb_ld rfl rfl rfl ?_)
      refine Lb_w (lb_get rfl rfl ?_)
      change Lb _ _ _ _ _ _ _ [.ref 229] _ _
      refine Lb_w (lb_ld rfl rfl rfl ?_)
      refine Lb_w (lb_ld rfl rfl rfl ?_)
      refine Lb_w (lb_ias rfl rfl (fun hk => ?_))
      replace h := h (kc_in (x := x3) rfl hk)
      replace h := h _ rfl
      refine Lb_w (lb_ld rfl rfl rfl ?_)
      refine Lb_w (lb_get rfl rfl ?_)
      change Lb _ _ _ _ _ _ _ [.ref 230] _ _
      refine Lb_w (lb_ld rfl rfl rfl ?_)
      refine Lb_w (lb_ld rfl rfl rfl ?_)
      refine Lb_w (lb_get rfl rfl ?_)
      change Lb _ _ _ _ _ _ _ [.int ((sa s12 229 x3.toInt.toNat x14).1 28), .int x3, .ref 230] _ _
      refine Lb_w (lb_ias rfl rfl (fun hk => ?_))
      replace h := h (kc_in (x := x3) rfl hk)
      replace h := h _ rfl
      refine lb_fg 5 ?_
      exact lk_177_136  h
def ub_177_86 (T : Nat → List Value → yS → (Option Value → yS → Prop) → Prop)  (a1 : Int32) (a2 : Int32) (t0 : Int32) (s : yS) (P : Option Value → yS → Prop) : Prop :=
  (t0.toInt = 0 → ub_177_93 T  a1 a2 t0 3 s P) ∧ (¬ (t0.toInt = 0) → ub_177_93 T  a1 a2 t0 4 s P)
set_option maxRecDepth 20000 in
theorem lk_177_86 {d N0 : Nat}  {a1 : Int32} {a2 : Int32} {t0 : Int32} {s : yS} {P : Option Value → yS → Prop}  (h : ub_177_86 (Par d)  a1 a2 t0 s P) : Lb d N0 6 (some .int) xE_177 (xE_177.drop 86) [.ref 213, .int a1, .int a2, .null, .null, .null, .null, .null] [.int t0] s P := by
  unfold ub_177_86 at h
  refine Lb_w (lb_st [.ref 213, .int a1, .int a2, .int t0, .null, .null, .null, .null] rfl rfl rfl ?_)
  refine Lb_w (lb_ld rfl rfl rfl ?_)
  refine Lb_w (lb_ld rfl rfl rfl ?_)
  refine Lb_w (lb_brP rfl rfl ⟨fun hc => ?_, fun hc => ?_⟩)
  · replace h := h.1 ((i_eq (x := t0) (y := 0) rfl (show (0 : Int32).toInt = 0 by decide)).mp hc)
    refine Lb_w (lb_c [.int 3, .ref 213] (xo_push (.int 3)) rfl rfl ?_)
    exact lk_177_93  h
  · replace h := h.2 (fun q => hc ((i_eq (x := t0) (y := 0) rfl (show (0 : Int32).toInt = 0 by decide)).mpr q))
    refine Lb_w (lb_c [.int 4, .ref 213] (xo_push (.int 4)) rfl rfl ?_)
    refine Lb_w (lb_go rfl ?_)
    exact lk_177_93  h
def ub_177_85 (T : Nat → List Value → yS → (Option Value → yS → Prop) → Prop)  (a1 : Int32) (a2 : Int32) (s : yS) (P : Option Value → yS → Prop) : Prop :=
  ub_177_86 T  a1 a2 0 s P
set_option maxRecDepth 20000 in
theorem lk_177_85 {d N0 : Nat}  {a1 : Int32} {a2 : Int32} {s : yS} {P : Option Value → yS → Prop}  (h : ub_177_85 (Par d)  a1 a2 s P) : Lb d N0 6 (some .int) xE_177 (xE_177.drop 85) [.ref 213, .int a1, .int a2, .null, .null, .null, .null, .null] [] s P := by
  unfold ub_177_85 at h
  refine Lb_w (lb_c [.int 0] (xo_push (.int 0)) rfl rfl ?_)
  exact lk_177_86  h
def ub_177_83 (T : Nat → List Value → yS → (Option Value → yS → Prop) → Prop)  (a1 : Int32) (a2 : Int32) (s : yS) (P : Option Value → yS → Prop) : Prop :=
  ub_177_86 T  a1 a2 1 s P
set_option maxRecDepth 20000 in
theorem lk_177_83 {d N0 : Nat}  {a1 : Int32} {a2 : Int32} {s : yS} {P : Option Value → yS → Prop}  (h : ub_177_83 (Par d)  a1 a2 s P) : Lb d N0 6 (some .int) xE_177 (xE_177.drop 83) [.ref 213, .int a1, .int a2, .null, .null, .null, .null, .null] [] s P := by
  unfold ub_177_83 at h
  refine Lb_w (lb_c [.int 1] (xo_push (.int 1)) rfl rfl ?_)
  refine Lb_w (lb_go rfl ?_)
  exact lk_177_86  h
def ub_177_53 (T : Nat → List Value → yS → (Option Value → yS → Prop) → Prop)  (a1 : Int32) (a2 : Int32) (s : yS) (P : Option Value → yS → Prop) : Prop :=
  (¬ ((s.1 8).toInt = 0) → ub_177_85 T  a1 a2  s P) ∧ ((s.1 8).toInt = 0 → ((-2147483648 ≤ (s.1 7).toInt + 1 ∧ (s.1 7).toInt + 1 ≤ 2147483647) → ∀ x1 : Int32, x1.toInt = (s.1 7).toInt + 1 → ((0 ≤ x1.toInt ∧ x1.toInt < 12006) → (¬ ((s.2.1 215 x1.toInt.toNat).toInt = 3) → ub_177_85 T  a1 a2  s P) ∧ ((s.2.1 215 x1.toInt.toNat).toInt = 3 → ((-2147483648 ≤ (s.1 7).toInt + 1 ∧ (s.1 7).toInt + 1 ≤ 2147483647) → ∀ x2 : Int32, x2.toInt = (s.1 7).toInt + 1 → ((0 ≤ x2.toInt ∧ x2.toInt < 12006) → ((s.2.1 217 x2.toInt.toNat).toInt = 40 → ub_177_83 T  a1 a2  s P) ∧ (¬ ((s.2.1 217 x2.toInt.toNat).toInt = 40) → ((-2147483648 ≤ (s.1 7).toInt + 1 ∧ (s.1 7).toInt + 1 ≤ 2147483647) → ∀ x3 : Int32, x3.toInt = (s.1 7).toInt + 1 → ((0 ≤ x3.toInt ∧ x3.toInt < 12006) → (¬ ((s.2.1 217 x3.toInt.toNat).toInt = 91) → ub_177_85 T  a1 a2  s P) ∧ ((s.2.1 217 x3.toInt.toNat).toInt = 91 → ub_177_83 T  a1 a2  s P))))))))))
set_option maxRecDepth 20000 in
theorem lk_177_53 {d N0 : Nat}  {a1 : Int32} {a2 : Int32} {s : yS} {P : Option Value → yS → Prop}  (h : ub_177_53 (Par d)  a1 a2 s P) : Lb d N0 6 (some .int) xE_177 (xE_177.drop 53) [.ref 213, .int a1, .int a2, .null, .null, .null, .null, .null] [] s P := by
  unfold ub_177_53 at h
  refine Lb_w (lb_ld rfl rfl rfl ?_)
  refine Lb_w (lb_get rfl rfl ?_)
  change Lb _ _ _ _ _ _ _ [.int (s.1 8)] _ _
  refine Lb_w (lb_brN rfl rfl ⟨fun hc => ?_, fun hc => ?_⟩)
  · replace h := h.1 (fun q => hc ((i_eq (x := s.1 8) (y := 0) rfl (show (0 : Int32).toInt = 0 by decide)).mpr q))
    exact lk_177_85  h
  · replace h := h.2 ((i_eq (x := s.1 8) (y := 0) rfl (show (0 : Int32).toInt = 0 by decide)).mp hc)
    refine Lb_w (lb_ld rfl rfl rfl ?_)
    refine Lb_w (lb_get rfl rfl ?_)
    change Lb _ _ _ _ _ _ _ [.ref 215] _ _
    refine Lb_w (lb_ld rfl rfl rfl ?_)
    refine Lb_w (lb_get rfl rfl ?_)
    change Lb _ _ _ _ _ _ _ [.int (s.1 7), .ref 215] _ _
    refine Lb_w (lb_c [.int 1, .int (s.1 7), .ref 215] (xo_push (.int 1)) rfl rfl ?_)
    refine Lb_w (lb_ca [.int ((s.1 7) + 1), .ref 215] xo_iadd rfl rfl (fun _ hk => ?_))
    replace hk := kc_add (x := s.1 7) (y := 1) rfl (show (1 : Int32).toInt = 1 by decide) hk
    replace h := h hk _ (i_add (x := s.1 7) (y := 1) rfl (show (1 : Int32).toInt = 1 by decide) hk)
    refine Lb_w (lb_ial rfl rfl (fun hk => ?_))
    change Lb _ _ _ _ _ _ _ [.int (s.2.1 215 ((s.1 7) + 1).toInt.toNat)] _ _
    replace h := h (kc_in (x := ((s.1 7) + 1)) rfl hk)
    refine Lb_w (lb_c [.int 3, .int (s.2.1 215 ((s.1 7) + 1).toInt.toNat)] (xo_push (.int 3)) rfl rfl ?_)
    refine Lb_w (lb_brN rfl rfl ⟨fun hc => ?_, fun hc => ?_⟩)
    · replace h := h.1 (fun q => hc ((i_eq (x := s.2.1 215 ((s.1 7) + 1).toInt.toNat) (y := 3) rfl (show (3 : Int32).toInt = 3 by decide)).mpr q))
      exact lk_177_85  h
    · replace h := h.2 ((i_eq (x := s.2.1 215 ((s.1 7) + 1).toInt.toNat) (y := 3) rfl (show (3 : Int32).toInt = 3 by decide)).mp hc)
      refine Lb_w (lb_ld rfl rfl rfl ?_)
      refine Lb_w (lb_get rfl rfl ?_)
      change Lb _ _ _ _ _ _ _ [.ref 217] _ _
      refine Lb_w (lb_ld rfl rfl rfl ?_)
      refine Lb_w (lb_get rfl rfl ?_)
      change Lb _ _ _ _ _ _ _ [.int (s.1 7), .ref 217] _ _
      refine Lb_w (lb_c [.int 1, .int (s.1 7), .ref 217] (xo_push (.int 1)) rfl rfl ?_)
      refine Lb_w (lb_ca [.int ((s.1 7) + 1), .ref 217] xo_iadd rfl rfl (fun _ hk => ?_))
      replace hk := kc_add (x := s.1 7) (y := 1) rfl (show (1 : Int32).toInt = 1 by decide) hk
      replace h := h hk _ (i_add (x := s.1 7) (y := 1) rfl (show (1 : Int32).toInt = 1 by decide) hk)
      refine Lb_w (lb_ial rfl rfl (fun hk => ?_))
      change Lb _ _ _ _ _ _ _ [.int (s.2.1 217 ((s.1 7) + 1).toInt.toNat)] _ _
      replace h := h (kc_in (x := ((s.1 7) + 1)) rfl hk)
      refine Lb_w (lb_c [.int 40, .int (s.2.1 217 ((s.1 7) + 1).toInt.toNat)] (xo_push (.int 40)) rfl rfl ?_)
      refine Lb_w (lb_brP rfl rfl ⟨fun hc => ?_, fun hc => ?_⟩)
      · replace h := h.1 ((i_eq (x := s.2.1 217 ((s.1 7) + 1).toInt.toNat) (y := 40) rfl (show (40 : Int32).toInt = 40 by decide)).mp hc)
        exact lk_177_83  h
      · replace h := h.2 (fun q => hc ((i_eq (x := s.2.1 217 ((s.1 7) + 1).toInt.toNat) (y := 40) rfl (show (40 : Int32).toInt = 40 by decide)).mpr q))
        refine Lb_w (lb_ld rfl rfl rfl ?_)
        refine Lb_w (lb_get rfl rfl ?_)
        change Lb _ _ _ _ _ _ _ [.ref 217] _ _
        refine Lb_w (lb_ld rfl rfl rfl ?_)
        refine Lb_w (lb_get rfl rfl ?_)
        change Lb _ _ _ _ _ _ _ [.int (s.1 7), .ref 217] _ _
        refine Lb_w (lb_c [.int 1, .int (s.1 7), .ref 217] (xo_push (.int 1)) rfl rfl ?_)
        refine Lb_w (lb_ca [.int ((s.1 7) + 1), .ref 217] xo_iadd rfl rfl (fun _ hk => ?_))
        replace hk := kc_add (x := s.1 7) (y := 1) rfl (show (1 : Int32).toInt = 1 by decide) hk
        replace h := h hk _ (i_add (x := s.1 7) (y := 1) rfl (show (1 : Int32).toInt = 1 by decide) hk)
        refine Lb_w (lb_ial rfl rfl (fun hk => ?_))
        change Lb _ _ _ _ _ _ _ [.int (s.2.1 217 ((s.1 7) + 1).toInt.toNat)] _ _
        replace h := h (kc_in (x := ((s.1 7) + 1)) rfl hk)
        refine Lb_w (lb_c [.int 91, .int (s.2.1 217 ((s.1 7) + 1).toInt.toNat)] (xo_push (.int 91)) rfl rfl ?_)
        refine Lb_w (lb_brN rfl rfl ⟨fun hc => ?_, fun hc => ?_⟩)
        · replace h := h.1 (fun q => hc ((i_eq (x := s.2.1 217 ((s.1 7) + 1).toInt.toNat) (y := 91) rfl (show (91 : Int32).toInt = 91 by decide)).mpr q))
          exact lk_177_85  h
        · replace h := h.2 ((i_eq (x := s.2.1 217 ((s.1 7) + 1).toInt.toNat) (y := 91) rfl (show (91 : Int32).toInt = 91 by decide)).mp hc)
          exact lk_177_83  h
def ub_177_0 (T : Nat → List Value → yS → (Option Value → yS → Prop) → Prop)  (a1 : Int32) (s : yS) (P : Option Value → yS → Prop) : Prop :=
  ((-2147483648 ≤ (s.1 7).toInt + 1 ∧ (s.1 7).toInt + 1 ≤ 2147483647) → ∀ x1 : Int32, x1.toInt = (s.1 7).toInt + 1 → ∀ s2, s2 = sf s 7 x1 → T 168 [.ref 213, .int 40] s2 (fun v4 s3 => ∃ x5, v4 = some (.int x5) ∧ ((x5.toInt = 0 → T 166 [.ref 213] s3 (fun v7 s6 => ∃ x8, v7 = some (.int x8) ∧ ((¬ (x8.toInt = 0) → ub_177_53 T  a1 (s.1 7)  s6 P) ∧ (x8.toInt = 0 → T 163 [.ref 213, .int 1, .int (s6.1 7)] s6 (fun v10 s9 => v10 = none ∧ (ub_177_53 T  a1 (s.1 7)  s9 P)))))) ∧ (¬ (x5.toInt = 0) → T 171 [.ref 213, .int 5] s3 (fun v12 s11 => ∃ x13, v12 = some (.int x13) ∧ (((0 ≤ x13.toInt ∧ x13.toInt < 12006) → ∀ s14, s14 = sa s11 227 x13.toInt.toNat a1 → ((0 ≤ a1.toInt ∧ a1.toInt < 12006) → ∀ s15, s15 = sa s14 228 a1.toInt.toNat x13 → ((0 ≤ x13.toInt ∧ x13.toInt < 12006) → ∀ s16, s16 = sa s15 223 x13.toInt.toNat (s.1 7) → T 173 [.ref 213] s16 (fun v18 s17 => ∃ x19, v18 = some (.int x19) ∧ (((0 ≤ x13.toInt ∧ x13.toInt < 12006) → ∀ s20, s20 = sa s17 229 x13.toInt.toNat x19 → T 167 [.ref 213, .int 41] s20 (fun v22 s21 => v22 = none ∧ (P (some (.int x13)) s21))))))))))))))
set_option maxRecDepth 20000 in
theorem lk_177_0 {d N0 : Nat}  {a1 : Int32} {s : yS} {P : Option Value → yS → Prop}  (h : ub_177_0 (Par d)  a1 s P) : Lb d N0 6 (some .int) xE_177 (xE_177.drop 0) [.ref 213, .int a1, .null, .null, .null, .null, .null, .null] [] s P := by
  unfold ub_177_0 at h
  refine Lb_w (lb_ld rfl rfl rfl ?_)
  refine Lb_w (lb_get rfl rfl ?_)
  change Lb _ _ _ _ _ _ _ [.int (s.1 7)] _ _
  refine Lb_w (lb_st [.ref 213, .int a1, .int (s.1 7), .null, .null, .null, .null, .null] rfl rfl rfl ?_)
  refine Lb_w (lb_ld rfl rfl rfl ?_)
  refine Lb_w (lb_c [.ref 213, .ref 213] xo_dup rfl rfl ?_)
  refine Lb_w (lb_get rfl rfl ?_)
  change Lb _ _ _ _ _ _ _ [.int (s.1 7), .ref 213] _ _
  refine Lb_w (lb_c [.int 1, .int (s.1 7), .ref 213] (xo_push (.int 1)) rfl rfl ?_)
  refine Lb_w (lb_ca [.int ((s.1 7) + 1), .ref 213] xo_iadd rfl rfl (fun _ hk => ?_))
  replace hk := kc_add (x := s.1 7) (y := 1) rfl (show (1 : Int32).toInt = 1 by decide) hk
  replace h := h hk _ (i_add (x := s.1 7) (y := 1) rfl (show (1 : Int32).toInt = 1 by decide) hk)
  refine Lb_w (lb_put rfl rfl (fun hk => ?_))
  replace h := h _ rfl
  refine Lb_w (lb_ld rfl rfl rfl ?_)
  refine Lb_w (lb_c [.int 40, .ref 213] (xo_push (.int 40)) rfl rfl ?_)
  refine Lb_w (lb_call [.ref 213, .int 40] [] rfl rfl rfl (Par.imp h (fun v4 s3 h => ?_)))
  obtain ⟨x5, rfl, h⟩ := h
  change Lb _ _ _ _ _ _ _ [.int x5] _ _
  refine Lb_w (lb_brP rfl rfl ⟨fun hc => ?_, fun hc => ?_⟩)
  · replace h := h.1 ((i_eq (x := x5) (y := 0) rfl (show (0 : Int32).toInt = 0 by decide)).mp hc)
    refine Lb_w (lb_ld rfl rfl rfl ?_)
    refine Lb_w (lb_call [.ref 213] [] rfl rfl rfl (Par.imp h (fun v7 s6 h => ?_)))
    obtain ⟨x8, rfl, h⟩ := h
    change Lb _ _ _ _ _ _ _ [.int x8] _ _
    refine Lb_w (lb_brN rfl rfl ⟨fun hc => ?_, fun hc => ?_⟩)
    · replace h := h.1 (fun q => hc ((i_eq (x := x8) (y := 0) rfl (show (0 : Int32).toInt = 0 by decide)).mpr q))
      exact lk_177_53  h
    · replace h := h.2 ((i_eq (x := x8) (y := 0) rfl (show (0 : Int32).toInt = 0 by decide)).mp hc)
      refine Lb_w (lb_ld rfl rfl rfl ?_)
      refine Lb_w (lb_c [.int 1, .ref 213] (xo_push (.int 1)) rfl rfl ?_)
      refine Lb_w (lb_ld rfl rfl rfl ?_)
      refine Lb_w (lb_get rfl rfl ?_)
      change Lb _ _ _ _ _ _ _ [.int (s6.1 7), .int 1, .ref 213] _ _
      refine Lb_w (lb_call [.ref 213, .int 1, .int (s6.1 7)] [] rfl rfl rfl (Par.imp h (fun v10 s9 h => ?_)))
      obtain ⟨rfl, h⟩ := h
      change Lb _ _ _ _ _ _ _ [] _ _
      exact lk_177_53  h
  · replace h := h.2 (fun q => hc ((i_eq (x := x5) (y := 0) rfl (show (0 : Int32).toInt = 0 by decide)).mpr q))
    refine Lb_w (lb_ld rfl rfl rfl ?_)
    refine Lb_w (lb_c [.int 5, .ref 213] (xo_push (.int 5)) rfl rfl ?_)
    refine Lb_w (lb_call [.ref 213, .int 5] [] rfl rfl rfl (Par.imp h (fun v12 s11 h => ?_)))
    obtain ⟨x13, rfl, h⟩ := h
    change Lb _ _ _ _ _ _ _ [.int x13] _ _
    refine Lb_w (lb_st [.ref 213, .int a1, .int (s.1 7), .int x13, .null, .null, .null, .null] rfl rfl rfl ?_)
    refine Lb_w (lb_ld rfl rfl rfl ?_)
    refine Lb_w (lb_get rfl rfl ?_)
    change Lb _ _ _ _ _ _ _ [.ref 227] _ _
    refine Lb_w (lb_ld rfl rfl rfl ?_)
    refine Lb_w (lb_ld rfl rfl rfl ?_)
    refine Lb_w (lb_ias rfl rfl (fun hk => ?_))
    replace h := h (kc_in (x := x13) rfl hk)
    replace h := h _ rfl
    refine Lb_w (lb_ld rfl rfl rfl ?_)
    refine Lb_w (lb_get rfl rfl ?_)
    change Lb _ _ _ _ _ _ _ [.ref 228] _ _
    refine Lb_w (lb_ld rfl rfl rfl ?_)
    refine Lb_w (lb_ld rfl rfl rfl ?_)
    refine Lb_w (lb_ias rfl rfl (fun hk => ?_))
    replace h := h (kc_in (x := a1) rfl hk)
    replace h := h _ rfl
    refine Lb_w (lb_ld rfl rfl rfl ?_)
    refine Lb_w (lb_get rfl rfl ?_)
    change Lb _ _ _ _ _ _ _ [.ref 223] _ _
    refine Lb_w (lb_ld rfl rfl rfl ?_)
    refine Lb_w (lb_ld rfl rfl rfl ?_)
    refine Lb_w (lb_ias rfl rfl (fun hk => ?_))
    replace h := h (kc_in (x := x13) rfl hk)
    replace h := h _ rfl
    refine Lb_w (lb_ld rfl rfl rfl ?_)
    refine Lb_w (lb_call [.ref 213] [] rfl rfl rfl (Par.imp h (fun v18 s17 h => ?_)))
    obtain ⟨x19, rfl, h⟩ := h
    change Lb _ _ _ _ _ _ _ [.int x19] _ _
    refine Lb_w (lb_st [.ref 213, .int a1, .int (s.1 7), .int x13, .int x19, .null, .null, .null] rfl rfl rfl ?_)
    refine Lb_w (lb_ld rfl rfl rfl ?_)
    refine Lb_w (lb_get rfl rfl ?_)
    change Lb _ _ _ _ _ _ _ [.ref 229] _ _
    refine Lb_w (lb_ld rfl rfl rfl ?_)
    refine Lb_w (lb_ld rfl rfl rfl ?_)
    refine Lb_w (lb_ias rfl rfl (fun hk => ?_))
    replace h := h (kc_in (x := x13) rfl hk)
    replace h := h _ rfl
    refine Lb_w (lb_ld rfl rfl rfl ?_)
    refine Lb_w (lb_c [.int 41, .ref 213] (xo_push (.int 41)) rfl rfl ?_)
    refine Lb_w (lb_call [.ref 213, .int 41] [] rfl rfl rfl (Par.imp h (fun v22 s21 h => ?_)))
    obtain ⟨rfl, h⟩ := h
    change Lb _ _ _ _ _ _ _ [] _ _
    refine Lb_w (lb_ld rfl rfl rfl ?_)
    exact Lb_w (lb_retI rfl h)
theorem pb_177 {d : Nat} {a1 : Int32} {s : yS} {P : Option Value → yS → Prop} (h : ub_177_0 (Par d) a1 s P) : Par (d + 1) 177 [.ref 213, .int a1] s P := par_of (E := xE_177) (ml := 6) (ret := some .int) rfl (fun _ => lk_177_0 h)
/-! firstOf -/
def ub_178_31 (T : Nat → List Value → yS → (Option Value → yS → Prop) → Prop)  (a1 : Int32) (a2 : Int32) (t0 : Int32) (s : yS) (P : Option Value → yS → Prop) : Prop :=
  P (some (.int t0)) s
set_option maxRecDepth 20000 in
theorem lk_178_31 {d N0 : Nat}  {a1 : Int32} {a2 : Int32} {t0 : Int32} {s : yS} {P : Option Value → yS → Prop}  (h : ub_178_31 (Par d)  a1 a2 t0 s P) : Lb d N0 3 (some .int) xE_178 (xE_178.drop 31) [.ref 213, .int a1, .int a2, .null, .null] [.int t0] s P := by
  unfold ub_178_31 at h
  exact Lb_w (lb_retI rfl h)
def ub_178_2 (T : Nat → List Value → yS → (Option Value → yS → Prop) → Prop) (R2 : Int32 → Int32 → yS → Prop) (a1 : Int32) (a2 : Int32) (s : yS) (P : Option Value → yS → Prop) : Prop :=
  ((0 ≤ a2.toInt ∧ a2.toInt < 12006) → ((s.2.1 227 a2.toInt.toNat).toInt < 0 → ((0 ≤ a2.toInt ∧ a2.toInt < 12006) → (¬ ((s.2.1 221 a2.toInt.toNat).toInt = 2) → ((0 ≤ a2.toInt ∧ a2.toInt < 12006) → ub_178_31 T  a1 a2 (s.2.1 222 a2.toInt.toNat) s P)) ∧ ((s.2.1 221 a2.toInt.toNat).toInt = 2 → ((0 ≤ a2.toInt ∧ a2.toInt < 12006) → ((0 ≤ (s.2.1 229 a2.toInt.toNat).toInt ∧ (s.2.1 229 a2.toInt.toNat).toInt < 12006) → ub_178_31 T  a1 a2 (s.2.1 222 (s.2.1 229 a2.toInt.toNat).toInt.toNat) s P))))) ∧ (¬ ((s.2.1 227 a2.toInt.toNat).toInt < 0) → ((0 ≤ a2.toInt ∧ a2.toInt < 12006) → R2 a1 (s.2.1 227 a2.toInt.toNat)  s)))
set_option maxRecDepth 20000 in
theorem lk_178_2 {d N0 : Nat} {R2 : Int32 → Int32 → yS → Prop} {a1 : Int32} {a2 : Int32} {s : yS} {P : Option Value → yS → Prop} (r2 : ∀ a1 a2 s, R2 a1 a2 s → Lb d N0 3 (some .int) xE_178 (xE_178.drop 2) [.ref 213, .int a1, .int a2, .null, .null] [] s P) (h : ub_178_2 (Par d) R2 a1 a2 s P) : Lb d (N0 + 1) 3 (some .int) xE_178 (xE_178.drop 2) [.ref 213, .int a1, .int a2, .null, .null] [] s P := by
  unfold ub_178_2 at h
  refine lb_ld rfl rfl rfl ?_
  refine Lb_w (lb_get rfl rfl ?_)
  change Lb _ _ _ _ _ _ _ [.ref 227] _ _
  refine Lb_w (lb_ld rfl rfl rfl ?_)
  refine Lb_w (lb_ial rfl rfl (fun hk => ?_))
  change Lb _ _ _ _ _ _ _ [.int (s.2.1 227 a2.toInt.toNat)] _ _
  replace h := h (kc_in (x := a2) rfl hk)
  refine Lb_w (lb_brP rfl rfl ⟨fun hc => ?_, fun hc => ?_⟩)
  · replace h := h.1 ((i_lt (x := s.2.1 227 a2.toInt.toNat) (y := 0) rfl (show (0 : Int32).toInt = 0 by decide)).mp hc)
    refine Lb_w (lb_ld rfl rfl rfl ?_)
    refine Lb_w (lb_get rfl rfl ?_)
    change Lb _ _ _ _ _ _ _ [.ref 221] _ _
    refine Lb_w (lb_ld rfl rfl rfl ?_)
    refine Lb_w (lb_ial rfl rfl (fun hk => ?_))
    change Lb _ _ _ _ _ _ _ [.int (s.2.1 221 a2.toInt.toNat)] _ _
    replace h := h (kc_in (x := a2) rfl hk)
    refine Lb_w (lb_c [.int 2, .int (s.2.1 221 a2.toInt.toNat)] (xo_push (.int 2)) rfl rfl ?_)
    refine Lb_w (lb_brN rfl rfl ⟨fun hc => ?_, fun hc => ?_⟩)
    · replace h := h.1 (fun q => hc ((i_eq (x := s.2.1 221 a2.toInt.toNat) (y := 2) rfl (show (2 : Int32).toInt = 2 by decide)).mpr q))
      refine Lb_w (lb_ld rfl rfl rfl ?_)
      refine Lb_w (lb_get rfl rfl ?_)
      change Lb _ _ _ _ _ _ _ [.ref 222] _ _
      refine Lb_w (lb_ld rfl rfl rfl ?_)
      refine Lb_w (lb_ial rfl rfl (fun hk => ?_))
      change Lb _ _ _ _ _ _ _ [.int (s.2.1 222 a2.toInt.toNat)] _ _
      replace h := h (kc_in (x := a2) rfl hk)
      exact lk_178_31  h
    · replace h := h.2 ((i_eq (x := s.2.1 221 a2.toInt.toNat) (y := 2) rfl (show (2 : Int32).toInt = 2 by decide)).mp hc)
      refine Lb_w (lb_ld rfl rfl rfl ?_)
      refine Lb_w (lb_get rfl rfl ?_)
      change Lb _ _ _ _ _ _ _ [.ref 222] _ _
      refine Lb_w (lb_ld rfl rfl rfl ?_)
      refine Lb_w (lb_get rfl rfl ?_)
      change Lb _ _ _ _ _ _ _ [.ref 229, .ref 222] _ _
      refine Lb_w (lb_ld rfl rfl rfl ?_)
      refine Lb_w (lb_ial rfl rfl (fun hk => ?_))
      change Lb _ _ _ _ _ _ _ [.int (s.2.1 229 a2.toInt.toNat), .ref 222] _ _
      replace h := h (kc_in (x := a2) rfl hk)
      refine Lb_w (lb_ial rfl rfl (fun hk => ?_))
      change Lb _ _ _ _ _ _ _ [.int (s.2.1 222 (s.2.1 229 a2.toInt.toNat).toInt.toNat)] _ _
      replace h := h (kc_in (x := s.2.1 229 a2.toInt.toNat) rfl hk)
      refine Lb_w (lb_go rfl ?_)
      exact lk_178_31  h
  · replace h := h.2 (fun q => hc ((i_lt (x := s.2.1 227 a2.toInt.toNat) (y := 0) rfl (show (0 : Int32).toInt = 0 by decide)).mpr q))
    refine Lb_w (lb_ld rfl rfl rfl ?_)
    refine Lb_w (lb_get rfl rfl ?_)
    change Lb _ _ _ _ _ _ _ [.ref 227] _ _
    refine Lb_w (lb_ld rfl rfl rfl ?_)
    refine Lb_w (lb_ial rfl rfl (fun hk => ?_))
    change Lb _ _ _ _ _ _ _ [.int (s.2.1 227 a2.toInt.toNat)] _ _
    replace h := h (kc_in (x := a2) rfl hk)
    refine Lb_w (lb_st [.ref 213, .int a1, .int (s.2.1 227 a2.toInt.toNat), .null, .null] rfl rfl rfl ?_)
    refine Lb_w (lb_go rfl ?_)
    exact r2 a1 (s.2.1 227 a2.toInt.toNat)  s h
def ubl_178_2 (T : Nat → List Value → yS → (Option Value → yS → Prop) → Prop)  (a1 : Int32) (a2 : Int32) (s : yS) (P : Option Value → yS → Prop) : Prop :=
  ∃ (I : Int32 → Int32 → yS → Prop), I a1 a2 s ∧ ∀ (a1 : Int32) (a2 : Int32) (s : yS), I a1 a2 s → ub_178_2 T I a1 a2 s P
theorem lkl_178_2 {d N0 : Nat}  {a1 : Int32} {a2 : Int32} {s : yS} {P : Option Value → yS → Prop}  (h : ubl_178_2 (Par d)  a1 a2 s P) : Lb d N0 3 (some .int) xE_178 (xE_178.drop 2) [.ref 213, .int a1, .int a2, .null, .null] [] s P := by
  obtain ⟨I, h0, h1⟩ := h
  have key : ∀ (m : Nat), m ≤ N0 → ∀ (a1 : Int32) (a2 : Int32) (s : yS), I a1 a2 s → Lb d m 3 (some .int) xE_178 (xE_178.drop 2) [.ref 213, .int a1, .int a2, .null, .null] [] s P := by
    intro m
    induction m with
    | zero => exact fun _ a1 a2 s _ => Lb_0
    | succ m ih =>
      intro hm
      replace hm : m ≤ N0 := Nat.le_of_succ_le hm
      replace ih := ih hm
      intro a1 a2 s hI
      exact lk_178_2 ih (h1 a1 a2 s hI)
  exact key N0 (Nat.le_refl _) a1 a2 s h0
def ub_178_0 (T : Nat → List Value → yS → (Option Value → yS → Prop) → Prop)  (a1 : Int32) (s : yS) (P : Option Value → yS → Prop) : Prop :=
  ubl_178_2 T  a1 a1  s P
set_option maxRecDepth 20000 in
theorem lk_178_0 {d N0 : Nat}  {a1 : Int32} {s : yS} {P : Option Value → yS → Prop}  (h : ub_178_0 (Par d)  a1 s P) : Lb d N0 3 (some .int) xE_178 (xE_178.drop 0) [.ref 213, .int a1, .null, .null, .null] [] s P := by
  unfold ub_178_0 at h
  refine Lb_w (lb_ld rfl rfl rfl ?_)
  refine Lb_w (lb_st [.ref 213, .int a1, .int a1, .null, .null] rfl rfl rfl ?_)
  exact lkl_178_2  h
theorem pb_178 {d : Nat} {a1 : Int32} {s : yS} {P : Option Value → yS → Prop} (h : ub_178_0 (Par d) a1 s P) : Par (d + 1) 178 [.ref 213, .int a1] s P := par_of (E := xE_178) (ml := 3) (ret := some .int) rfl (fun _ => lk_178_0 h)
/-! readAll -/
def ub_179_62 (T : Nat → List Value → yS → (Option Value → yS → Prop) → Prop)   (s : yS) (P : Option Value → yS → Prop) : Prop :=
  P none s
set_option maxRecDepth 20000 in
theorem lk_179_62 {d N0 : Nat}   {s : yS} {P : Option Value → yS → Prop}  (h : ub_179_62 (Par d)   s P) : Lb d N0 1 (none) xE_179 (xE_179.drop 62) [.ref 213, .null] [] s P := by
  unfold ub_179_62 at h
  exact Lb_w (lb_ret0 rfl h)
def ub_179_44 (T : Nat → List Value → yS → (Option Value → yS → Prop) → Prop)  (t1 : Int32) (t2 : Int32) (s : yS) (P : Option Value → yS → Prop) : Prop :=
  ((0 ≤ t1.toInt ∧ t1.toInt < 2) → ∀ s1, s1 = sa s 259 t1.toInt.toNat t2 → T 167 [.ref 213, .int 59] s1 (fun v3 s2 => v3 = none ∧ ((¬ ((s2.1 8).toInt = 0) → ub_179_62 T    s2 P) ∧ ((s2.1 8).toInt = 0 → ((0 ≤ (s2.1 7).toInt ∧ (s2.1 7).toInt < 12006) → ((s2.2.1 215 (s2.1 7).toInt.toNat).toInt = 0 → ub_179_62 T    s2 P) ∧ (¬ ((s2.2.1 215 (s2.1 7).toInt.toNat).toInt = 0) → T 163 [.ref 213, .int 1, .int (s2.1 7)] s2 (fun v5 s4 => v5 = none ∧ (ub_179_62 T    s4 P))))))))
set_option maxRecDepth 20000 in
theorem lk_179_44 {d N0 : Nat}  {t1 : Int32} {t2 : Int32} {s : yS} {P : Option Value → yS → Prop}  (h : ub_179_44 (Par d)  t1 t2 s P) : Lb d N0 1 (none) xE_179 (xE_179.drop 44) [.ref 213, .null] [.int t2, .int t1, .ref 259] s P := by
  unfold ub_179_44 at h
  refine Lb_w (lb_ias rfl rfl (fun hk => ?_))
  replace h := h (kc_in (x := t1) rfl hk)
  replace h := h _ rfl
  refine Lb_w (lb_ld rfl rfl rfl ?_)
  refine Lb_w (lb_c [.int 59, .ref 213] (xo_push (.int 59)) rfl rfl ?_)
  refine Lb_w (lb_call [.ref 213, .int 59] [] rfl rfl rfl (Par.imp h (fun v3 s2 h => ?_)))
  obtain ⟨rfl, h⟩ := h
  change Lb _ _ _ _ _ _ _ [] _ _
  refine Lb_w (lb_ld rfl rfl rfl ?_)
  refine Lb_w (lb_get rfl rfl ?_)
  change Lb _ _ _ _ _ _ _ [.int (s2.1 8)] _ _
  refine Lb_w (lb_brN rfl rfl ⟨fun hc => ?_, fun hc => ?_⟩)
  · replace h := h.1 (fun q => hc ((i_eq (x := s2.1 8) (y := 0) rfl (show (0 : Int32).toInt = 0 by decide)).mpr q))
    exact lk_179_62  h
  · replace h := h.2 ((i_eq (x := s2.1 8) (y := 0) rfl (show (0 : Int32).toInt = 0 by decide)).mp hc)
    refine Lb_w (lb_ld rfl rfl rfl ?_)
    refine Lb_w (lb_get rfl rfl ?_)
    change Lb _ _ _ _ _ _ _ [.ref 215] _ _
    refine Lb_w (lb_ld rfl rfl rfl ?_)
    refine Lb_w (lb_get rfl rfl ?_)
    change Lb _ _ _ _ _ _ _ [.int (s2.1 7), .ref 215] _ _
    refine Lb_w (lb_ial rfl rfl (fun hk => ?_))
    change Lb _ _ _ _ _ _ _ [.int (s2.2.1 215 (s2.1 7).toInt.toNat)] _ _
    replace h := h (kc_in (x := s2.1 7) rfl hk)
    refine Lb_w (lb_brP rfl rfl ⟨fun hc => ?_, fun hc => ?_⟩)
    · replace h := h.1 ((i_eq (x := s2.2.1 215 (s2.1 7).toInt.toNat) (y := 0) rfl (show (0 : Int32).toInt = 0 by decide)).mp hc)
      exact lk_179_62  h
    · replace h := h.2 (fun q => hc ((i_eq (x := s2.2.1 215 (s2.1 7).toInt.toNat) (y := 0) rfl (show (0 : Int32).toInt = 0 by decide)).mpr q))
      refine Lb_w (lb_ld rfl rfl rfl ?_)
      refine Lb_w (lb_c [.int 1, .ref 213] (xo_push (.int 1)) rfl rfl ?_)
      refine Lb_w (lb_ld rfl rfl rfl ?_)
      refine Lb_w (lb_get rfl rfl ?_)
      change Lb _ _ _ _ _ _ _ [.int (s2.1 7), .int 1, .ref 213] _ _
      refine Lb_w (lb_call [.ref 213, .int 1, .int (s2.1 7)] [] rfl rfl rfl (Par.imp h (fun v5 s4 h => ?_)))
      obtain ⟨rfl, h⟩ := h
      change Lb _ _ _ _ _ _ _ [] _ _
      exact lk_179_62  h
def ub_179_27 (T : Nat → List Value → yS → (Option Value → yS → Prop) → Prop)   (s : yS) (P : Option Value → yS → Prop) : Prop :=
  T 169 [.ref 213, .int 5] s (fun v2 s1 => v2 = none ∧ (∀ s3, s3 = sf s1 27 0 → (¬ ((s3.1 8).toInt = 0) → ub_179_44 T   (s3.1 30) (-1) s3 P) ∧ ((s3.1 8).toInt = 0 → T 175 [.ref 213] s3 (fun v5 s4 => ∃ x6, v5 = some (.int x6) ∧ (ub_179_44 T   (s3.1 30) x6 s4 P)))))
set_option maxRecDepth 20000 in
theorem lk_179_27 {d N0 : Nat}   {s : yS} {P : Option Value → yS → Prop}  (h : ub_179_27 (Par d)   s P) : Lb d N0 1 (none) xE_179 (xE_179.drop 27) [.ref 213, .null] [] s P := by
  unfold ub_179_27 at h
  refine Lb_w (lb_ld rfl rfl rfl ?_)
  refine Lb_w (lb_c [.int 5, .ref 213] (xo_push (.int 5)) rfl rfl ?_)
  refine Lb_w (lb_call [.ref 213, .int 5] [] rfl rfl rfl (Par.imp h (fun v2 s1 h => ?_)))
  obtain ⟨rfl, h⟩ := h
  change Lb _ _ _ _ _ _ _ [] _ _
  refine Lb_w (lb_ld rfl rfl rfl ?_)
  refine Lb_w (lb_c [.int 0, .ref 213] (xo_push (.int 0)) rfl rfl ?_)
  refine Lb_w (lb_put rfl rfl (fun hk => ?_))
  replace h := h _ rfl
  refine Lb_w (lb_ld rfl rfl rfl ?_)
  refine Lb_w (lb_get rfl rfl ?_)
  change Lb _ _ _ _ _ _ _ [.ref 259] _ _
  refine Lb_w (lb_ld rfl rfl rfl ?_)
  refine Lb_w (lb_get rfl rfl ?_)
  change Lb _ _ _ _ _ _ _ [.int ((sf s1 27 0).1 30), .ref 259] _ _
  refine Lb_w (lb_ld rfl rfl rfl ?_)
  refine Lb_w (lb_get rfl rfl ?_)
  change Lb _ _ _ _ _ _ _ [.int ((sf s1 27 0).1 8), .int ((sf s1 27 0).1 30), .ref 259] _ _
  refine Lb_w (lb_brN rfl rfl ⟨fun hc => ?_, fun hc => ?_⟩)
  · replace h := h.1 (fun q => hc ((i_eq (x := (sf s1 27 0).1 8) (y := 0) rfl (show (0 : Int32).toInt = 0 by decide)).mpr q))
    refine Lb_w (lb_c [.int (-1), .int ((sf s1 27 0).1 30), .ref 259] (xo_push (.int (-1))) rfl rfl ?_)
    exact lk_179_44  h
  · replace h := h.2 ((i_eq (x := (sf s1 27 0).1 8) (y := 0) rfl (show (0 : Int32).toInt = 0 by decide)).mp hc)
    refine Lb_w (lb_ld rfl rfl rfl ?_)
    refine Lb_w (lb_call [.ref 213] [.int ((sf s1 27 0).1 30), .ref 259] rfl rfl rfl (Par.imp h (fun v5 s4 h => ?_)))
    obtain ⟨x6, rfl, h⟩ := h
    change Lb _ _ _ _ _ _ _ [.int x6, .int ((sf s1 27 0).1 30), .ref 259] _ _
    refine Lb_w (lb_go rfl ?_)
    exact lk_179_44  h
def ub_179_0 (T : Nat → List Value → yS → (Option Value → yS → Prop) → Prop) (R0 : yS → Prop)  (s : yS) (P : Option Value → yS → Prop) : Prop :=
  (¬ ((s.1 8).toInt = 0) → ub_179_27 T    s P) ∧ ((s.1 8).toInt = 0 → T 165 [.ref 213, .int 5] s (fun v2 s1 => ∃ x3, v2 = some (.int x3) ∧ ((¬ (x3.toInt = 0) → ub_179_27 T    s1 P) ∧ (x3.toInt = 0 → T 165 [.ref 213, .int 0] s1 (fun v5 s4 => ∃ x6, v5 = some (.int x6) ∧ ((x6.toInt = 0 → T 165 [.ref 213, .int 3] s4 (fun v8 s7 => ∃ x9, v8 = some (.int x9) ∧ ((x9.toInt = 0 → T 163 [.ref 213, .int 1, .int (s7.1 7)] s7 (fun v11 s10 => v11 = none ∧ (R0   s10))) ∧ (¬ (x9.toInt = 0) → T 184 [.ref 213] s7 (fun v13 s12 => v13 = none ∧ (R0   s12)))))) ∧ (¬ (x6.toInt = 0) → T 180 [.ref 213] s4 (fun v15 s14 => v15 = none ∧ (R0   s14)))))))))
set_option maxRecDepth 20000 in
theorem lk_179_0 {d N0 : Nat} {R0 : yS → Prop}  {s : yS} {P : Option Value → yS → Prop} (r0 : ∀  s, R0  s → Lb d N0 1 (none) xE_179 (xE_179.drop 0) [.ref 213, .null] [] s P) (h : ub_179_0 (Par d) R0  s P) : Lb d (N0 + 1) 1 (none) xE_179 (xE_179.drop 0) [.ref 213, .null] [] s P := by
  unfold ub_179_0 at h
  refine lb_ld rfl rfl rfl ?_
  refine Lb_w (lb_get rfl rfl ?_)
  change Lb _ _ _ _ _ _ _ [.int (s.1 8)] _ _
  refine Lb_w (lb_brN rfl rfl ⟨fun hc => ?_, fun hc => ?_⟩)
  · replace h := h.1 (fun q => hc ((i_eq (x := s.1 8) (y := 0) rfl (show (0 : Int32).toInt = 0 by decide)).mpr q))
    exact lk_179_27  h
  · replace h := h.2 ((i_eq (x := s.1 8) (y := 0) rfl (show (0 : Int32).toInt = 0 by decide)).mp hc)
    refine Lb_w (lb_ld rfl rfl rfl ?_)
    refine Lb_w (lb_c [.int 5, .ref 213] (xo_push (.int 5)) rfl rfl ?_)
    refine Lb_w (lb_call [.ref 213, .int 5] [] rfl rfl rfl (Par.imp h (fun v2 s1 h => ?_)))
    obtain ⟨x3, rfl, h⟩ := h
    change Lb _ _ _ _ _ _ _ [.int x3] _ _
    refine Lb_w (lb_brN rfl rfl ⟨fun hc => ?_, fun hc => ?_⟩)
    · replace h := h.1 (fun q => hc ((i_eq (x := x3) (y := 0) rfl (show (0 : Int32).toInt = 0 by decide)).mpr q))
      exact lk_179_27  h
    · replace h := h.2 ((i_eq (x := x3) (y := 0) rfl (show (0 : Int32).toInt = 0 by decide)).mp hc)
      refine Lb_w (lb_ld rfl rfl rfl ?_)
      refine Lb_w (lb_c [.int 0, .ref 213] (xo_push (.int 0)) rfl rfl ?_)
      refine Lb_w (lb_call [.ref 213, .int 0] [] rfl rfl rfl (Par.imp h (fun v5 s4 h => ?_)))
      obtain ⟨x6, rfl, h⟩ := h
      change Lb _ _ _ _ _ _ _ [.int x6] _ _
      refine Lb_w (lb_brP rfl rfl ⟨fun hc => ?_, fun hc => ?_⟩)
      · replace h := h.1 ((i_eq (x := x6) (y := 0) rfl (show (0 : Int32).toInt = 0 by decide)).mp hc)
        refine Lb_w (lb_ld rfl rfl rfl ?_)
        refine Lb_w (lb_c [.int 3, .ref 213] (xo_push (.int 3)) rfl rfl ?_)
        refine Lb_w (lb_call [.ref 213, .int 3] [] rfl rfl rfl (Par.imp h (fun v8 s7 h => ?_)))
        obtain ⟨x9, rfl, h⟩ := h
        change Lb _ _ _ _ _ _ _ [.int x9] _ _
        refine Lb_w (lb_brP rfl rfl ⟨fun hc => ?_, fun hc => ?_⟩)
        · replace h := h.1 ((i_eq (x := x9) (y := 0) rfl (show (0 : Int32).toInt = 0 by decide)).mp hc)
          refine Lb_w (lb_ld rfl rfl rfl ?_)
          refine Lb_w (lb_c [.int 1, .ref 213] (xo_push (.int 1)) rfl rfl ?_)
          refine Lb_w (lb_ld rfl rfl rfl ?_)
          refine Lb_w (lb_get rfl rfl ?_)
          change Lb _ _ _ _ _ _ _ [.int (s7.1 7), .int 1, .ref 213] _ _
          refine Lb_w (lb_call [.ref 213, .int 1, .int (s7.1 7)] [] rfl rfl rfl (Par.imp h (fun v11 s10 h => ?_)))
          obtain ⟨rfl, h⟩ := h
          change Lb _ _ _ _ _ _ _ [] _ _
          refine Lb_w (lb_go rfl ?_)
          exact r0   s10 h
        · replace h := h.2 (fun q => hc ((i_eq (x := x9) (y := 0) rfl (show (0 : Int32).toInt = 0 by decide)).mpr q))
          refine Lb_w (lb_ld rfl rfl rfl ?_)
          refine Lb_w (lb_call [.ref 213] [] rfl rfl rfl (Par.imp h (fun v13 s12 h => ?_)))
          obtain ⟨rfl, h⟩ := h
          change Lb _ _ _ _ _ _ _ [] _ _
          refine Lb_w (lb_go rfl ?_)
          exact r0   s12 h
      · replace h := h.2 (fun q => hc ((i_eq (x := x6) (y := 0) rfl (show (0 : Int32).toInt = 0 by decide)).mpr q))
        refine Lb_w (lb_ld rfl rfl rfl ?_)
        refine Lb_w (lb_call [.ref 213] [] rfl rfl rfl (Par.imp h (fun v15 s14 h => ?_)))
        obtain ⟨rfl, h⟩ := h
        change Lb _ _ _ _ _ _ _ [] _ _
        refine Lb_w (lb_go rfl ?_)
        exact r0   s14 h
def ubl_179_0 (T : Nat → List Value → yS → (Option Value → yS → Prop) → Prop)   (s : yS) (P : Option Value → yS → Prop) : Prop :=
  ∃ (I : yS → Prop), I  s ∧ ∀  (s : yS), I  s → ub_179_0 T I  s P
theorem lkl_179_0 {d N0 : Nat}   {s : yS} {P : Option Value → yS → Prop}  (h : ubl_179_0 (Par d)   s P) : Lb d N0 1 (none) xE_179 (xE_179.drop 0) [.ref 213, .null] [] s P := by
  obtain ⟨I, h0, h1⟩ := h
  have key : ∀ (m : Nat), m ≤ N0 → ∀  (s : yS), I  s → Lb d m 1 (none) xE_179 (xE_179.drop 0) [.ref 213, .null] [] s P := by
    intro m
    induction m with
    | zero => exact fun _  s _ => Lb_0
    | succ m ih =>
      intro hm
      replace hm : m ≤ N0 := Nat.le_of_succ_le hm
      replace ih := ih hm
      intro  s hI
      exact lk_179_0 ih (h1  s hI)
  exact key N0 (Nat.le_refl _)  s h0
theorem pb_179 {d : Nat}  {s : yS} {P : Option Value → yS → Prop} (h : ubl_179_0 (Par d)  s P) : Par (d + 1) 179 [.ref 213] s P := par_of (E := xE_179) (ml := 1) (ret := none) rfl (fun _ => lkl_179_0 h)
/-! readType -/
def ub_180_145 (T : Nat → List Value → yS → (Option Value → yS → Prop) → Prop)  (a1 : Int32) (s : yS) (P : Option Value → yS → Prop) : Prop :=
  T 167 [.ref 213, .int 125] s (fun v2 s1 => v2 = none ∧ (((-2147483648 ≤ 84 * (s1.1 30).toInt ∧ 84 * (s1.1 30).toInt ≤ 2147483647) → ∀ x3 : Int32, x3.toInt = 84 * (s1.1 30).toInt → ((0 ≤ (s1.1 30).toInt ∧ (s1.1 30).toInt < 2) → ((-2147483648 ≤ x3.toInt + (s1.2.1 263 (s1.1 30).toInt.toNat).toInt ∧ x3.toInt + (s1.2.1 263 (s1.1 30).toInt.toNat).toInt ≤ 2147483647) → ∀ x4 : Int32, x4.toInt = x3.toInt + (s1.2.1 263 (s1.1 30).toInt.toNat).toInt → ((0 ≤ (s1.1 30).toInt ∧ (s1.1 30).toInt < 2) → ((0 ≤ x4.toInt ∧ x4.toInt < 168) → ∀ s5, s5 = sa s1 262 x4.toInt.toNat (s1.2.1 233 (s1.1 30).toInt.toNat) → ((0 ≤ (s5.1 30).toInt ∧ (s5.1 30).toInt < 2) → ((-2147483648 ≤ (s5.2.1 263 (s5.1 30).toInt.toNat).toInt + 1 ∧ (s5.2.1 263 (s5.1 30).toInt.toNat).toInt + 1 ≤ 2147483647) → ∀ x6 : Int32, x6.toInt = (s5.2.1 263 (s5.1 30).toInt.toNat).toInt + 1 → ((0 ≤ (s5.1 30).toInt ∧ (s5.1 30).toInt < 2) → ∀ s7, s7 = sa s5 263 (s5.1 30).toInt.toNat x6 → ((0 ≤ (s7.1 30).toInt ∧ (s7.1 30).toInt < 2) → ((-2147483648 ≤ (s7.2.1 233 (s7.1 30).toInt.toNat).toInt + 1 ∧ (s7.2.1 233 (s7.1 30).toInt.toNat).toInt + 1 ≤ 2147483647) → ∀ x8 : Int32, x8.toInt = (s7.2.1 233 (s7.1 30).toInt.toNat).toInt + 1 → ((0 ≤ (s7.1 30).toInt ∧ (s7.1 30).toInt < 2) → ∀ s9, s9 = sa s7 233 (s7.1 30).toInt.toNat x8 → P none s9)))))))))))))
set_option maxRecDepth 20000 in
theorem lk_180_145 {d N0 : Nat}  {a1 : Int32} {s : yS} {P : Option Value → yS → Prop}  (h : ub_180_145 (Par d)  a1 s P) : Lb d N0 2 (none) xE_180 (xE_180.drop 145) [.ref 213, .int a1, .null] [] s P := by
  unfold ub_180_145 at h
  refine Lb_w (lb_ld rfl rfl rfl ?_)
  refine Lb_w (lb_c [.int 125, .ref 213] (xo_push (.int 125)) rfl rfl ?_)
  refine Lb_w (lb_call [.ref 213, .int 125] [] rfl rfl rfl (Par.imp h (fun v2 s1 h => ?_)))
  obtain ⟨rfl, h⟩ := h
  change Lb _ _ _ _ _ _ _ [] _ _
  refine Lb_w (lb_ld rfl rfl rfl ?_)
  refine Lb_w (lb_get rfl rfl ?_)
  change Lb _ _ _ _ _ _ _ [.ref 262] _ _
  refine Lb_w (lb_c [.int 84, .ref 262] (xo_push (.int 84)) rfl rfl ?_)
  refine Lb_w (lb_ld rfl rfl rfl ?_)
  refine Lb_w (lb_get rfl rfl ?_)
  change Lb _ _ _ _ _ _ _ [.int (s1.1 30), .int 84, .ref 262] _ _
  refine Lb_w (lb_ca [.int (84 * (s1.1 30)), .ref 262] xo_imul rfl rfl (fun _ hk => ?_))
  replace hk := kc_mul (x := 84) (y := s1.1 30) (show (84 : Int32).toInt = 84 by decide) rfl hk
  replace h := h hk _ (i_mul (x := 84) (y := s1.1 30) (show (84 : Int32).toInt = 84 by decide) rfl hk)
  refine Lb_w (lb_ld rfl rfl rfl ?_)
  refine Lb_w (lb_get rfl rfl ?_)
  change Lb _ _ _ _ _ _ _ [.ref 263, .int (84 * (s1.1 30)), .ref 262] _ _
  refine Lb_w (lb_ld rfl rfl rfl ?_)
  refine Lb_w (lb_get rfl rfl ?_)
  change Lb _ _ _ _ _ _ _ [.int (s1.1 30), .ref 263, .int (84 * (s1.1 30)), .ref 262] _ _
  refine Lb_w (lb_ial rfl rfl (fun hk => ?_))
  change Lb _ _ _ _ _ _ _ [.int (s1.2.1 263 (s1.1 30).toInt.toNat), .int (84 * (s1.1 30)), .ref 262] _ _
  replace h := h (kc_in (x := s1.1 30) rfl hk)
  refine Lb_w (lb_ca [.int ((84 * (s1.1 30)) + (s1.2.1 263 (s1.1 30).toInt.toNat)), .ref 262] xo_iadd rfl rfl (fun _ hk => ?_))
  replace hk := kc_add (x := (84 * (s1.1 30))) (y := s1.2.1 263 (s1.1 30).toInt.toNat) rfl rfl hk
  replace h := h hk _ (i_add (x := (84 * (s1.1 30))) (y := s1.2.1 263 (s1.1 30).toInt.toNat) rfl rfl hk)
  refine Lb_w (lb_ld rfl rfl rfl ?_)
  refine Lb_w (lb_get rfl rfl ?_)
  change Lb _ _ _ _ _ _ _ [.ref 233, .int ((84 * (s1.1 30)) + (s1.2.1 263 (s1.1 30).toInt.toNat)), .ref 262] _ _
  refine Lb_w (lb_ld rfl rfl rfl ?_)
  refine Lb_w (lb_get rfl rfl ?_)
  change Lb _ _ _ _ _ _ _ [.int (s1.1 30), .ref 233, .int ((84 * (s1.1 30)) + (s1.2.1 263 (s1.1 30).toInt.toNat)), .ref 262] _ _
  refine Lb_w (lb_ial rfl rfl (fun hk => ?_))
  change Lb _ _ _ _ _ _ _ [.int (s1.2.1 233 (s1.1 30).toInt.toNat), .int ((84 * (s1.1 30)) + (s1.2.1 263 (s1.1 30).toInt.toNat)), .ref 262] _ _
  replace h := h (kc_in (x := s1.1 30) rfl hk)
  refine Lb_w (lb_ias rfl rfl (fun hk => ?_))
  replace h := h (kc_in (x := ((84 * (s1.1 30)) + (s1.2.1 263 (s1.1 30).toInt.toNat))) rfl hk)
  replace h := h _ rfl
  refine Lb_w (lb_ld rfl rfl rfl ?_)
  refine Lb_w (lb_get rfl rfl ?_)
  change Lb _ _ _ _ _ _ _ [.ref 263] _ _
  refine Lb_w (lb_ld rfl rfl rfl ?_)
  refine Lb_w (lb_get rfl rfl ?_)
  change Lb _ _ _ _ _ _ _ [.int ((sa s1 262 ((84 * (s1.1 30)) + (s1.2.1 263 (s1.1 30).toInt.toNat)).toInt.toNat (s1.2.1 233 (s1.1 30).toInt.toNat)).1 30), .ref 263] _ _
  refine Lb_w (lb_c [.int ((sa s1 262 ((84 * (s1.1 30)) + (s1.2.1 263 (s1.1 30).toInt.toNat)).toInt.toNat (s1.2.1 233 (s1.1 30).toInt.toNat)).1 30), .ref 263, .int ((sa s1 262 ((84 * (s1.1 30)) + (s1.2.1 263 (s1.1 30).toInt.toNat)).toInt.toNat (s1.2.1 233 (s1.1 30).toInt.toNat)).1 30), .ref 263] xo_dup2 rfl rfl ?_)
  refine Lb_w (lb_ial rfl rfl (fun hk => ?_))
  change Lb _ _ _ _ _ _ _ [.int ((sa s1 262 ((84 * (s1.1 30)) + (s1.2.1 263 (s1.1 30).toInt.toNat)).toInt.toNat (s1.2.1 233 (s1.1 30).toInt.toNat)).2.1 263 ((sa s1 262 ((84 * (s1.1 30)) + (s1.2.1 263 (s1.1 30).toInt.toNat)).toInt.toNat (s1.2.1 233 (s1.1 30).toInt.toNat)).1 30).toInt.toNat), .int ((sa s1 262 ((84 * (s1.1 30)) + (s1.2.1 263 (s1.1 30).toInt.toNat)).toInt.toNat (s1.2.1 233 (s1.1 30).toInt.toNat)).1 30), .ref 263] _ _
  replace h := h (kc_in (x := (sa s1 262 ((84 * (s1.1 30)) + (s1.2.1 263 (s1.1 30).toInt.toNat)).toInt.toNat (s1.2.1 233 (s1.1 30).toInt.toNat)).1 30) rfl hk)
  refine Lb_w (lb_c [.int 1, .int ((sa s1 262 ((84 * (s1.1 30)) + (s1.2.1 263 (s1.1 30).toInt.toNat)).toInt.toNat (s1.2.1 233 (s1.1 30).toInt.toNat)).2.1 263 ((sa s1 262 ((84 * (s1.1 30)) + (s1.2.1 263 (s1.1 30).toInt.toNat)).toInt.toNat (s1.2.1 233 (s1.1 30).toInt.toNat)).1 30).toInt.toNat), .int ((sa s1 262 ((84 * (s1.1 30)) + (s1.2.1 263 (s1.1 30).toInt.toNat)).toInt.toNat (s1.2.1 233 (s1.1 30).toInt.toNat)).1 30), .ref 263] (xo_push (.int 1)) rfl rfl ?_)
  refine Lb_w (lb_ca [.int (((sa s1 262 ((84 * (s1.1 30)) + (s1.2.1 263 (s1.1 30).toInt.toNat)).toInt.toNat (s1.2.1 233 (s1.1 30).toInt.toNat)).2.1 263 ((sa s1 262 ((84 * (s1.1 30)) + (s1.2.1 263 (s1.1 30).toInt.toNat)).toInt.toNat (s1.2.1 233 (s1.1 30).toInt.toNat)).1 30).toInt.toNat) + 1), .int ((sa s1 262 ((84 * (s1.1 30)) + (s1.2.1 263 (s1.1 30).toInt.toNat)).toInt.toNat (s1.2.1 233 (s1.1 30).toInt.toNat)).1 30), .ref 263] xo_iadd rfl rfl (fun _ hk => ?_))
  replace hk := kc_add (x := (sa s1 262 ((84 * (s1.1 30)) + (s1.2.1 263 (s1.1 30).toInt.toNat)).toInt.toNat (s1.2.1 233 (s1.1 30).toInt.toNat)).2.1 263 ((sa s1 262 ((84 * (s1.1 30)) + (s1.2.1 263 (s1.1 30).toInt.toNat)).toInt.toNat (s1.2.1 233 (s1.1 30).toInt.toNat)).1 30).toInt.toNat) (y := 1) rfl (show (1 : Int32).toInt = 1 by decide) hk
  replace h := h hk _ (i_add (x := (sa s1 262 ((84 * (s1.1 30)) + (s1.2.1 263 (s1.1 30).toInt.toNat)).toInt.toNat (s1.2.1 233 (s1.1 30).toInt.toNat)).2.1 263 ((sa s1 262 ((84 * (s1.1 30)) + (s1.2.1 263 (s1.1 30).toInt.toNat)).toInt.toNat (s1.2.1 233 (s1.1 30).toInt.toNat)).1 30).toInt.toNat) (y := 1) rfl (show (1 : Int32).toInt = 1 by decide) hk)
  refine Lb_w (lb_ias rfl rfl (fun hk => ?_))
  replace h := h (kc_in (x := (sa s1 262 ((84 * (s1.1 30)) + (s1.2.1 263 (s1.1 30).toInt.toNat)).toInt.toNat (s1.2.1 233 (s1.1 30).toInt.toNat)).1 30) rfl hk)
  replace h := h _ rfl
  refine Lb_w (lb_ld rfl rfl rfl ?_)
  refine Lb_w (lb_get rfl rfl ?_)
  change Lb _ _ _ _ _ _ _ [.ref 233] _ _
  refine Lb_w (lb_ld rfl rfl rfl ?_)
  refine Lb_w (lb_get rfl rfl ?_)
  change Lb _ _ _ _ _ _ _ [.int ((sa (sa s1 262 ((84 * (s1.1 30)) + (s1.2.1 263 (s1.1 30).toInt.toNat)).toInt.toNat (s1.2.1 233 (s1.1 30).toInt.toNat)) 263 ((sa s1 262 ((84 * (s1.1 30)) + (s1.2.1 263 (s1.1 30).toInt.toNat)).toInt.toNat (s1.2.1 233 (s1.1 30).toInt.toNat)).1 30).toInt.toNat (((sa s1 262 ((84 * (s1.1 30)) + (s1.2.1 263 (s1.1 30).toInt.toNat)).toInt.toNat (s1.2.1 233 (s1.1 30).toInt.toNat)).2.1 263 ((sa s1 262 ((84 * (s1.1 30)) + (s1.2.1 263 (s1.1 30).toInt.toNat)).toInt.toNat (s1.2.1 233 (s1.1 30).toInt.toNat)).1 30).toInt.toNat) + 1)).1 30), .ref 233] _ _
  refine Lb_w (lb_c [.int ((sa (sa s1 262 ((84 * (s1.1 30)) + (s1.2.1 263 (s1.1 30).toInt.toNat)).toInt.toNat (s1.2.1 233 (s1.1 30).toInt.toNat)) 263 ((sa s1 262 ((84 * (s1.1 30)) + (s1.2.1 263 (s1.1 30).toInt.toNat)).toInt.toNat (s1.2.1 233 (s1.1 30).toInt.toNat)).1 30).toInt.toNat (((sa s1 262 ((84 * (s1.1 30)) + (s1.2.1 263 (s1.1 30).toInt.toNat)).toInt.toNat (s1.2.1 233 (s1.1 30).toInt.toNat)).2.1 263 ((sa s1 262 ((84 * (s1.1 30)) + (s1.2.1 263 (s1.1 30).toInt.toNat)).toInt.toNat (s1.2.1 233 (s1.1 30).toInt.toNat)).1 30).toInt.toNat) + 1)).1 30), .ref 233, .int ((sa (sa s1 262 ((84 * (s1.1 30)) + (s1.2.1 263 (s1.1 30).toInt.toNat)).toInt.toNat (s1.2.1 233 (s1.1 30).toInt.toNat)) 263 ((sa s1 262 ((84 * (s1.1 30)) + (s1.2.1 263 (s1.1 30).toInt.toNat)).toInt.toNat (s1.2.1 233 (s1.1 30).toInt.toNat)).1 30).toInt.toNat (((sa s1 262 ((84 * (s1.1 30)) + (s1.2.1 263 (s1.1 30).toInt.toNat)).toInt.toNat (s1.2.1 233 (s1.1 30).toInt.toNat)).2.1 263 ((sa s1 262 ((84 * (s1.1 30)) + (s1.2.1 263 (s1.1 30).toInt.toNat)).toInt.toNat (s1.2.1 233 (s1.1 30).toInt.toNat)).1 30).toInt.toNat) + 1)).1 30), .ref 233] xo_dup2 rfl rfl ?_)
  refine Lb_w (lb_ial rfl rfl (fun hk => ?_))
  change Lb _ _ _ _ _ _ _ [.int ((sa (sa s1 262 ((84 * (s1.1 30)) + (s1.2.1 263 (s1.1 30).toInt.toNat)).toInt.toNat (s1.2.1 233 (s1.1 30).toInt.toNat)) 263 ((sa s1 262 ((84 * (s1.1 30)) + (s1.2.1 263 (s1.1 30).toInt.toNat)).toInt.toNat (s1.2.1 233 (s1.1 30).toInt.toNat)).1 30).toInt.toNat (((sa s1 262 ((84 * (s1.1 30)) + (s1.2.1 263 (s1.1 30).toInt.toNat)).toInt.toNat (s1.2.1 233 (s1.1 30).toInt.toNat)).2.1 263 ((sa s1 262 ((84 * (s1.1 30)) + (s1.2.1 263 (s1.1 30).toInt.toNat)).toInt.toNat (s1.2.1 233 (s1.1 30).toInt.toNat)).1 30).toInt.toNat) + 1)).2.1 233 ((sa (sa s1 262 ((84 * (s1.1 30)) + (s1.2.1 263 (s1.1 30).toInt.toNat)).toInt.toNat (s1.2.1 233 (s1.1 30).toInt.toNat)) 263 ((sa s1 262 ((84 * (s1.1 30)) + (s1.2.1 263 (s1.1 30).toInt.toNat)).toInt.toNat (s1.2.1 233 (s1.1 30).toInt.toNat)).1 30).toInt.toNat (((sa s1 262 ((84 * (s1.1 30)) + (s1.2.1 263 (s1.1 30).toInt.toNat)).toInt.toNat (s1.2.1 233 (s1.1 30).toInt.toNat)).2.1 263 ((sa s1 262 ((84 * (s1.1 30)) + (s1.2.1 263 (s1.1 30).toInt.toNat)).toInt.toNat (s1.2.1 233 (s1.1 30).toInt.toNat)).1 30).toInt.toNat) + 1)).1 30).toInt.toNat), .int ((sa (sa s1 262 ((84 * (s1.1 30)) + (s1.2.1 263 (s1.1 30).toInt.toNat)).toInt.toNat (s1.2.1 233 (s1.1 30).toInt.toNat)) 263 ((sa s1 262 ((84 * (s1.1 30)) + (s1.2.1 263 (s1.1 30).toInt.toNat)).toInt.toNat (s1.2.1 233 (s1.1 30).toInt.toNat)).1 30).toInt.toNat (((sa s1 262 ((84 * (s1.1 30)) + (s1.2.1 263 (s1.1 30).toInt.toNat)).toInt.toNat (s1.2.1 233 (s1.1 30).toInt.toNat)).2.1 263 ((sa s1 262 ((84 * (s1.1 30)) + (s1.2.1 263 (s1.1 30).toInt.toNat)).toInt.toNat (s1.2.1 233 (s1.1 30).toInt.toNat)).1 30).toInt.toNat) + 1)).1 30), .ref 233] _ _
  replace h := h (kc_in (x := (sa (sa s1 262 ((84 * (s1.1 30)) + (s1.2.1 263 (s1.1 30).toInt.toNat)).toInt.toNat (s1.2.1 233 (s1.1 30).toInt.toNat)) 263 ((sa s1 262 ((84 * (s1.1 30)) + (s1.2.1 263 (s1.1 30).toInt.toNat)).toInt.toNat (s1.2.1 233 (s1.1 30).toInt.toNat)).1 30).toInt.toNat (((sa s1 262 ((84 * (s1.1 30)) + (s1.2.1 263 (s1.1 30).toInt.toNat)).toInt.toNat (s1.2.1 233 (s1.1 30).toInt.toNat)).2.1 263 ((sa s1 262 ((84 * (s1.1 30)) + (s1.2.1 263 (s1.1 30).toInt.toNat)).toInt.toNat (s1.2.1 233 (s1.1 30).toInt.toNat)).1 30).toInt.toNat) + 1)).1 30) rfl hk)
  refine Lb_w (lb_c [.int 1, .int ((sa (sa s1 262 ((84 * (s1.1 30)) + (s1.2.1 263 (s1.1 30).toInt.toNat)).toInt.toNat (s1.2.1 233 (s1.1 30).toInt.toNat)) 263 ((sa s1 262 ((84 * (s1.1 30)) + (s1.2.1 263 (s1.1 30).toInt.toNat)).toInt.toNat (s1.2.1 233 (s1.1 30).toInt.toNat)).1 30).toInt.toNat (((sa s1 262 ((84 * (s1.1 30)) + (s1.2.1 263 (s1.1 30).toInt.toNat)).toInt.toNat (s1.2.1 233 (s1.1 30).toInt.toNat)).2.1 263 ((sa s1 262 ((84 * (s1.1 30)) + (s1.2.1 263 (s1.1 30).toInt.toNat)).toInt.toNat (s1.2.1 233 (s1.1 30).toInt.toNat)).1 30).toInt.toNat) + 1)).2.1 233 ((sa (sa s1 262 ((84 * (s1.1 30)) + (s1.2.1 263 (s1.1 30).toInt.toNat)).toInt.toNat (s1.2.1 233 (s1.1 30).toInt.toNat)) 263 ((sa s1 262 ((84 * (s1.1 30)) + (s1.2.1 263 (s1.1 30).toInt.toNat)).toInt.toNat (s1.2.1 233 (s1.1 30).toInt.toNat)).1 30).toInt.toNat (((sa s1 262 ((84 * (s1.1 30)) + (s1.2.1 263 (s1.1 30).toInt.toNat)).toInt.toNat (s1.2.1 233 (s1.1 30).toInt.toNat)).2.1 263 ((sa s1 262 ((84 * (s1.1 30)) + (s1.2.1 263 (s1.1 30).toInt.toNat)).toInt.toNat (s1.2.1 233 (s1.1 30).toInt.toNat)).1 30).toInt.toNat) + 1)).1 30).toInt.toNat), .int ((sa (sa s1 262 ((84 * (s1.1 30)) + (s1.2.1 263 (s1.1 30).toInt.toNat)).toInt.toNat (s1.2.1 233 (s1.1 30).toInt.toNat)) 263 ((sa s1 262 ((84 * (s1.1 30)) + (s1.2.1 263 (s1.1 30).toInt.toNat)).toInt.toNat (s1.2.1 233 (s1.1 30).toInt.toNat)).1 30).toInt.toNat (((sa s1 262 ((84 * (s1.1 30)) + (s1.2.1 263 (s1.1 30).toInt.toNat)).toInt.toNat (s1.2.1 233 (s1.1 30).toInt.toNat)).2.1 263 ((sa s1 262 ((84 * (s1.1 30)) + (s1.2.1 263 (s1.1 30).toInt.toNat)).toInt.toNat (s1.2.1 233 (s1.1 30).toInt.toNat)).1 30).toInt.toNat) + 1)).1 30), .ref 233] (xo_push (.int 1)) rfl rfl ?_)
  refine Lb_w (lb_ca [.int (((sa (sa s1 262 ((84 * (s1.1 30)) + (s1.2.1 263 (s1.1 30).toInt.toNat)).toInt.toNat (s1.2.1 233 (s1.1 30).toInt.toNat)) 263 ((sa s1 262 ((84 * (s1.1 30)) + (s1.2.1 263 (s1.1 30).toInt.toNat)).toInt.toNat (s1.2.1 233 (s1.1 30).toInt.toNat)).1 30).toInt.toNat (((sa s1 262 ((84 * (s1.1 30)) + (s1.2.1 263 (s1.1 30).toInt.toNat)).toInt.toNat (s1.2.1 233 (s1.1 30).toInt.toNat)).2.1 263 ((sa s1 262 ((84 * (s1.1 30)) + (s1.2.1 263 (s1.1 30).toInt.toNat)).toInt.toNat (s1.2.1 233 (s1.1 30).toInt.toNat)).1 30).toInt.toNat) + 1)).2.1 233 ((sa (sa s1 262 ((84 * (s1.1 30)) + (s1.2.1 263 (s1.1 30).toInt.toNat)).toInt.toNat (s1.2.1 233 (s1.1 30).toInt.toNat)) 263 ((sa s1 262 ((84 * (s1.1 30)) + (s1.2.1 263 (s1.1 30).toInt.toNat)).toInt.toNat (s1.2.1 233 (s1.1 30).toInt.toNat)).1 30).toInt.toNat (((sa s1 262 ((84 * (s1.1 30)) + (s1.2.1 263 (s1.1 30).toInt.toNat)).toInt.toNat (s1.2.1 233 (s1.1 30).toInt.toNat)).2.1 263 ((sa s1 262 ((84 * (s1.1 30)) + (s1.2.1 263 (s1.1 30).toInt.toNat)).toInt.toNat (s1.2.1 233 (s1.1 30).toInt.toNat)).1 30).toInt.toNat) + 1)).1 30).toInt.toNat) + 1), .int ((sa (sa s1 262 ((84 * (s1.1 30)) + (s1.2.1 263 (s1.1 30).toInt.toNat)).toInt.toNat (s1.2.1 233 (s1.1 30).toInt.toNat)) 263 ((sa s1 262 ((84 * (s1.1 30)) + (s1.2.1 263 (s1.1 30).toInt.toNat)).toInt.toNat (s1.2.1 233 (s1.1 30).toInt.toNat)).1 30).toInt.toNat (((sa s1 262 ((84 * (s1.1 30)) + (s1.2.1 263 (s1.1 30).toInt.toNat)).toInt.toNat (s1.2.1 233 (s1.1 30).toInt.toNat)).2.1 263 ((sa s1 262 ((84 * (s1.1 30)) + (s1.2.1 263 (s1.1 30).toInt.toNat)).toInt.toNat (s1.2.1 233 (s1.1 30).toInt.toNat)).1 30).toInt.toNat) + 1)).1 30), .ref 233] xo_iadd rfl rfl (fun _ hk => ?_))
  replace hk := kc_add (x := (sa (sa s1 262 ((84 * (s1.1 30)) + (s1.2.1 263 (s1.1 30).toInt.toNat)).toInt.toNat (s1.2.1 233 (s1.1 30).toInt.toNat)) 263 ((sa s1 262 ((84 * (s1.1 30)) + (s1.2.1 263 (s1.1 30).toInt.toNat)).toInt.toNat (s1.2.1 233 (s1.1 30).toInt.toNat)).1 30).toInt.toNat (((sa s1 262 ((84 * (s1.1 30)) + (s1.2.1 263 (s1.1 30).toInt.toNat)).toInt.toNat (s1.2.1 233 (s1.1 30).toInt.toNat)).2.1 263 ((sa s1 262 ((84 * (s1.1 30)) + (s1.2.1 263 (s1.1 30).toInt.toNat)).toInt.toNat (s1.2.1 233 (s1.1 30).toInt.toNat)).1 30).toInt.toNat) + 1)).2.1 233 ((sa (sa s1 262 ((84 * (s1.1 30)) + (s1.2.1 263 (s1.1 30).toInt.toNat)).toInt.toNat (s1.2.1 233 (s1.1 30).toInt.toNat)) 263 ((sa s1 262 ((84 * (s1.1 30)) + (s1.2.1 263 (s1.1 30).toInt.toNat)).toInt.toNat (s1.2.1 233 (s1.1 30).toInt.toNat)).1 30).toInt.toNat (((sa s1 262 ((84 * (s1.1 30)) + (s1.2.1 263 (s1.1 30).toInt.toNat)).toInt.toNat (s1.2.1 233 (s1.1 30).toInt.toNat)).2.1 263 ((sa s1 262 ((84 * (s1.1 30)) + (s1.2.1 263 (s1.1 30).toInt.toNat)).toInt.toNat (s1.2.1 233 (s1.1 30).toInt.toNat)).1 30).toInt.toNat) + 1)).1 30).toInt.toNat) (y := 1) rfl (show (1 : Int32).toInt = 1 by decide) hk
  replace h := h hk _ (i_add (x := (sa (sa s1 262 ((84 * (s1.1 30)) + (s1.2.1 263 (s1.1 30).toInt.toNat)).toInt.toNat (s1.2.1 233 (s1.1 30).toInt.toNat)) 263 ((sa s1 262 ((84 * (s1.1 30)) + (s1.2.1 263 (s1.1 30).toInt.toNat)).toInt.toNat (s1.2.1 233 (s1.1 30).toInt.toNat)).1 30).toInt.toNat (((sa s1 262 ((84 * (s1.1 30)) + (s1.2.1 263 (s1.1 30).toInt.toNat)).toInt.toNat (s1.2.1 233 (s1.1 30).toInt.toNat)).2.1 263 ((sa s1 262 ((84 * (s1.1 30)) + (s1.2.1 263 (s1.1 30).toInt.toNat)).toInt.toNat (s1.2.1 233 (s1.1 30).toInt.toNat)).1 30).toInt.toNat) + 1)).2.1 233 ((sa (sa s1 262 ((84 * (s1.1 30)) + (s1.2.1 263 (s1.1 30).toInt.toNat)).toInt.toNat (s1.2.1 233 (s1.1 30).toInt.toNat)) 263 ((sa s1 262 ((84 * (s1.1 30)) + (s1.2.1 263 (s1.1 30).toInt.toNat)).toInt.toNat (s1.2.1 233 (s1.1 30).toInt.toNat)).1 30).toInt.toNat (((sa s1 262 ((84 * (s1.1 30)) + (s1.2.1 263 (s1.1 30).toInt.toNat)).toInt.toNat (s1.2.1 233 (s1.1 30).toInt.toNat)).2.1 263 ((sa s1 262 ((84 * (s1.1 30)) + (s1.2.1 263 (s1.1 30).toInt.toNat)).toInt.toNat (s1.2.1 233 (s1.1 30).toInt.toNat)).1 30).toInt.toNat) + 1)).1 30).toInt.toNat) (y := 1) rfl (show (1 : Int32).toInt = 1 by decide) hk)
  refine Lb_w (lb_ias rfl rfl (fun hk => ?_))
  replace h := h (kc_in (x := (sa (sa s1 262 ((84 * (s1.1 30)) + (s1.2.1 263 (s1.1 30).toInt.toNat)).toInt.toNat (s1.2.1 233 (s1.1 30).toInt.toNat)) 263 ((sa s1 262 ((84 * (s1.1 30)) + (s1.2.1 263 (s1.1 30).toInt.toNat)).toInt.toNat (s1.2.1 233 (s1.1 30).toInt.toNat)).1 30).toInt.toNat (((sa s1 262 ((84 * (s1.1 30)) + (s1.2.1 263 (s1.1 30).toInt.toNat)).toInt.toNat (s1.2.1 233 (s1.1 30).toInt.toNat)).2.1 263 ((sa s1 262 ((84 * (s1.1 30)) + (s1.2.1 263 (s1.1 30).toInt.toNat)).toInt.toNat (s1.2.1 233 (s1.1 30).toInt.toNat)).1 30).toInt.toNat) + 1)).1 30) rfl hk)
  replace h := h _ rfl
  exact Lb_w (lb_ret0 rfl h)
def ub_180_131 (T : Nat → List Value → yS → (Option Value → yS → Prop) → Prop) (R99 : Int32 → yS → Prop) (a1 : Int32) (s : yS) (P : Option Value → yS → Prop) : Prop :=
  T 183 [.ref 213] s (fun v2 s1 => v2 = none ∧ (T 167 [.ref 213, .int 59] s1 (fun v4 s3 => v4 = none ∧ (((0 ≤ a1.toInt ∧ a1.toInt < 48) → ((-2147483648 ≤ (s3.2.1 243 a1.toInt.toNat).toInt + 1 ∧ (s3.2.1 243 a1.toInt.toNat).toInt + 1 ≤ 2147483647) → ∀ x5 : Int32, x5.toInt = (s3.2.1 243 a1.toInt.toNat).toInt + 1 → ((0 ≤ a1.toInt ∧ a1.toInt < 48) → ∀ s6, s6 = sa s3 243 a1.toInt.toNat x5 → R99 a1  s6)))))))
set_option maxRecDepth 20000 in
theorem lk_180_131 {d N0 : Nat} {R99 : Int32 → yS → Prop} {a1 : Int32} {s : yS} {P : Option Value → yS → Prop} (r99 : ∀ a1 s, R99 a1 s → Lb d N0 2 (none) xE_180 (xE_180.drop 99) [.ref 213, .int a1, .null] [] s P) (h : ub_180_131 (Par d) R99 a1 s P) : Lb d N0 2 (none) xE_180 (xE_180.drop 131) [.ref 213, .int a1, .null] [] s P := by
  unfold ub_180_131 at h
  refine Lb_w (lb_ld rfl rfl rfl ?_)
  refine Lb_w (lb_call [.ref 213] [] rfl rfl rfl (Par.imp h (fun v2 s1 h => ?_)))
  obtain ⟨rfl, h⟩ := h
  change Lb _ _ _ _ _ _ _ [] _ _
  refine Lb_w (lb_ld rfl rfl rfl ?_)
  refine Lb_w (lb_c [.int 59, .ref 213] (xo_push (.int 59)) rfl rfl ?_)
  refine Lb_w (lb_call [.ref 213, .int 59] [] rfl rfl rfl (Par.imp h (fun v4 s3 h => ?_)))
  obtain ⟨rfl, h⟩ := h
  change Lb _ _ _ _ _ _ _ [] _ _
  refine Lb_w (lb_ld rfl rfl rfl ?_)
  refine Lb_w (lb_get rfl rfl ?_)
  change Lb _ _ _ _ _ _ _ [.ref 243] _ _
  refine Lb_w (lb_ld rfl rfl rfl ?_)
  refine Lb_w (lb_c [.int a1, .ref 243, .int a1, .ref 243] xo_dup2 rfl rfl ?_)
  refine Lb_w (lb_ial rfl rfl (fun hk => ?_))
  change Lb _ _ _ _ _ _ _ [.int (s3.2.1 243 a1.toInt.toNat), .int a1, .ref 243] _ _
  replace h := h (kc_in (x := a1) rfl hk)
  refine Lb_w (lb_c [.int 1, .int (s3.2.1 243 a1.toInt.toNat), .int a1, .ref 243] (xo_push (.int 1)) rfl rfl ?_)
  refine Lb_w (lb_ca [.int ((s3.2.1 243 a1.toInt.toNat) + 1), .int a1, .ref 243] xo_iadd rfl rfl (fun _ hk => ?_))
  replace hk := kc_add (x := s3.2.1 243 a1.toInt.toNat) (y := 1) rfl (show (1 : Int32).toInt = 1 by decide) hk
  replace h := h hk _ (i_add (x := s3.2.1 243 a1.toInt.toNat) (y := 1) rfl (show (1 : Int32).toInt = 1 by decide) hk)
  refine Lb_w (lb_ias rfl rfl (fun hk => ?_))
  replace h := h (kc_in (x := a1) rfl hk)
  replace h := h _ rfl
  refine Lb_w (lb_go rfl ?_)
  exact r99 a1  (sa s3 243 a1.toInt.toNat ((s3.2.1 243 a1.toInt.toNat) + 1)) h
def ub_180_128 (T : Nat → List Value → yS → (Option Value → yS → Prop) → Prop) (R99 : Int32 → yS → Prop) (a1 : Int32) (t1 : Int32) (s : yS) (P : Option Value → yS → Prop) : Prop :=
  T 163 [.ref 213, .int t1, .int (s.1 7)] s (fun v2 s1 => v2 = none ∧ (ub_180_131 T R99 a1  s1 P))
set_option maxRecDepth 20000 in
theorem lk_180_128 {d N0 : Nat} {R99 : Int32 → yS → Prop} {a1 : Int32} {t1 : Int32} {s : yS} {P : Option Value → yS → Prop} (r99 : ∀ a1 s, R99 a1 s → Lb d N0 2 (none) xE_180 (xE_180.drop 99) [.ref 213, .int a1, .null] [] s P) (h : ub_180_128 (Par d) R99 a1 t1 s P) : Lb d N0 2 (none) xE_180 (xE_180.drop 128) [.ref 213, .int a1, .null] [.int t1, .ref 213] s P := by
  unfold ub_180_128 at h
  refine Lb_w (lb_ld rfl rfl rfl ?_)
  refine Lb_w (lb_get rfl rfl ?_)
  change Lb _ _ _ _ _ _ _ [.int (s.1 7), .int t1, .ref 213] _ _
  refine Lb_w (lb_call [.ref 213, .int t1, .int (s.1 7)] [] rfl rfl rfl (Par.imp h (fun v2 s1 h => ?_)))
  obtain ⟨rfl, h⟩ := h
  change Lb _ _ _ _ _ _ _ [] _ _
  exact lk_180_131 r99 h
def ub_180_99 (T : Nat → List Value → yS → (Option Value → yS → Prop) → Prop) (R99 : Int32 → yS → Prop) (a1 : Int32) (s : yS) (P : Option Value → yS → Prop) : Prop :=
  (¬ ((s.1 8).toInt = 0) → ub_180_145 T  a1  s P) ∧ ((s.1 8).toInt = 0 → T 164 [.ref 213, .int 125] s (fun v2 s1 => ∃ x3, v2 = some (.int x3) ∧ ((¬ (x3.toInt = 0) → ub_180_145 T  a1  s1 P) ∧ (x3.toInt = 0 → ((0 ≤ a1.toInt ∧ a1.toInt < 48) → ((s1.2.1 235 a1.toInt.toNat).toInt = 0 → ((0 ≤ a1.toInt ∧ a1.toInt < 48) → (¬ ((s1.2.1 243 a1.toInt.toNat).toInt = 6) → ub_180_131 T R99 a1  s1 P) ∧ ((s1.2.1 243 a1.toInt.toNat).toInt = 6 → T 166 [.ref 213] s1 (fun v5 s4 => ∃ x6, v5 = some (.int x6) ∧ ((x6.toInt = 0 → ub_180_128 T R99 a1 1 s4 P) ∧ (¬ (x6.toInt = 0) → ub_180_128 T R99 a1 5 s4 P)))))) ∧ (¬ ((s1.2.1 235 a1.toInt.toNat).toInt = 0) → T 182 [.ref 213, .int a1] s1 (fun v8 s7 => v8 = none ∧ (R99 a1  s7))))))))
set_option maxRecDepth 20000 in
theorem lk_180_99 {d N0 : Nat} {R99 : Int32 → yS → Prop} {a1 : Int32} {s : yS} {P : Option Value → yS → Prop} (r99 : ∀ a1 s, R99 a1 s → Lb d N0 2 (none) xE_180 (xE_180.drop 99) [.ref 213, .int a1, .null] [] s P) (h : ub_180_99 (Par d) R99 a1 s P) : Lb d (N0 + 1) 2 (none) xE_180 (xE_180.drop 99) [.ref 213, .int a1, .null] [] s P := by
  unfold ub_180_99 at h
  refine lb_ld rfl rfl rfl ?_
  refine Lb_w (lb_get rfl rfl ?_)
  change Lb _ _ _ _ _ _ _ [.int (s.1 8)] _ _
  refine Lb_w (lb_brN rfl rfl ⟨fun hc => ?_, fun hc => ?_⟩)
  · replace h := h.1 (fun q => hc ((i_eq (x := s.1 8) (y := 0) rfl (show (0 : Int32).toInt = 0 by decide)).mpr q))
    exact lk_180_145  h
  · replace h := h.2 ((i_eq (x := s.1 8) (y := 0) rfl (show (0 : Int32).toInt = 0 by decide)).mp hc)
    refine Lb_w (lb_ld rfl rfl rfl ?_)
    refine Lb_w (lb_c [.int 125, .ref 213] (xo_push (.int 125)) rfl rfl ?_)
    refine Lb_w (lb_call [.ref 213, .int 125] [] rfl rfl rfl (Par.imp h (fun v2 s1 h => ?_)))
    obtain ⟨x3, rfl, h⟩ := h
    change Lb _ _ _ _ _ _ _ [.int x3] _ _
    refine Lb_w (lb_brN rfl rfl ⟨fun hc => ?_, fun hc => ?_⟩)
    · replace h := h.1 (fun q => hc ((i_eq (x := x3) (y := 0) rfl (show (0 : Int32).toInt = 0 by decide)).mpr q))
      exact lk_180_145  h
    · replace h := h.2 ((i_eq (x := x3) (y := 0) rfl (show (0 : Int32).toInt = 0 by decide)).mp hc)
      refine Lb_w (lb_ld rfl rfl rfl ?_)
      refine Lb_w (lb_get rfl rfl ?_)
      change Lb _ _ _ _ _ _ _ [.ref 235] _ _
      refine Lb_w (lb_ld rfl rfl rfl ?_)
      refine Lb_w (lb_zal rfl rfl (fun hk => ?_))
      change Lb _ _ _ _ _ _ _ [.int (s1.2.1 235 a1.toInt.toNat)] _ _
      replace h := h (kc_in (x := a1) rfl hk)
      refine Lb_w (lb_brP rfl rfl ⟨fun hc => ?_, fun hc => ?_⟩)
      · replace h := h.1 ((i_eq (x := s1.2.1 235 a1.toInt.toNat) (y := 0) rfl (show (0 : Int32).toInt = 0 by decide)).mp hc)
        refine Lb_w (lb_ld rfl rfl rfl ?_)
        refine Lb_w (lb_get rfl rfl ?_)
        change Lb _ _ _ _ _ _ _ [.ref 243] _ _
        refine Lb_w (lb_ld rfl rfl rfl ?_)
        refine Lb_w (lb_ial rfl rfl (fun hk => ?_))
        change Lb _ _ _ _ _ _ _ [.int (s1.2.1 243 a1.toInt.toNat)] _ _
        replace h := h (kc_in (x := a1) rfl hk)
        refine Lb_w (lb_c [.int 6, .int (s1.2.1 243 a1.toInt.toNat)] (xo_push (.int 6)) rfl rfl ?_)
        refine Lb_w (lb_brN rfl rfl ⟨fun hc => ?_, fun hc => ?_⟩)
        · replace h := h.1 (fun q => hc ((i_eq (x := s1.2.1 243 a1.toInt.toNat) (y := 6) rfl (show (6 : Int32).toInt = 6 by decide)).mpr q))
          exact lk_180_131 r99 h
        · replace h := h.2 ((i_eq (x := s1.2.1 243 a1.toInt.toNat) (y := 6) rfl (show (6 : Int32).toInt = 6 by decide)).mp hc)
          refine Lb_w (lb_ld rfl rfl rfl ?_)
          refine Lb_w (lb_ld rfl rfl rfl ?_)
          refine Lb_w (lb_call [.ref 213] [.ref 213] rfl rfl rfl (Par.imp h (fun v5 s4 h => ?_)))
          obtain ⟨x6, rfl, h⟩ := h
          change Lb _ _ _ _ _ _ _ [.int x6, .ref 213] _ _
          refine Lb_w (lb_brP rfl rfl ⟨fun hc => ?_, fun hc => ?_⟩)
          · replace h := h.1 ((i_eq (x := x6) (y := 0) rfl (show (0 : Int32).toInt = 0 by decide)).mp hc)
            refine Lb_w (lb_c [.int 1, .ref 213] (xo_push (.int 1)) rfl rfl ?_)
            exact lk_180_128 r99 h
          · replace h := h.2 (fun q => hc ((i_eq (x := x6) (y := 0) rfl (show (0 : Int32).toInt = 0 by decide)).mpr q))
            refine Lb_w (lb_c [.int 5, .ref 213] (xo_push (.int 5)) rfl rfl ?_)
            refine Lb_w (lb_go rfl ?_)
            exact lk_180_128 r99 h
      · replace h := h.2 (fun q => hc ((i_eq (x := s1.2.1 235 a1.toInt.toNat) (y := 0) rfl (show (0 : Int32).toInt = 0 by decide)).mpr q))
        refine Lb_w (lb_ld rfl rfl rfl ?_)
        refine Lb_w (lb_ld rfl rfl rfl ?_)
        refine Lb_w (lb_call [.ref 213, .int a1] [] rfl rfl rfl (Par.imp h (fun v8 s7 h => ?_)))
        obtain ⟨rfl, h⟩ := h
        change Lb _ _ _ _ _ _ _ [] _ _
        refine Lb_w (lb_go rfl ?_)
        exact r99 a1  s7 h
def ubl_180_99 (T : Nat → List Value → yS → (Option Value → yS → Prop) → Prop)  (a1 : Int32) (s : yS) (P : Option Value → yS → Prop) : Prop :=
  ∃ (I : Int32 → yS → Prop), I a1 s ∧ ∀ (a1 : Int32) (s : yS), I a1 s → ub_180_99 T I a1 s P
theorem lkl_180_99 {d N0 : Nat}  {a1 : Int32} {s : yS} {P : Option Value → yS → Prop}  (h : ubl_180_99 (Par d)  a1 s P) : Lb d N0 2 (none) xE_180 (xE_180.drop 99) [.ref 213, .int a1, .null] [] s P := by
  obtain ⟨I, h0, h1⟩ := h
  have key : ∀ (m : Nat), m ≤ N0 → ∀ (a1 : Int32) (s : yS), I a1 s → Lb d m 2 (none) xE_180 (xE_180.drop 99) [.ref 213, .int a1, .null] [] s P := by
    intro m
    induction m with
    | zero => exact fun _ a1 s _ => Lb_0
    | succ m ih =>
      intro hm
      replace hm : m ≤ N0 := Nat.le_of_succ_le hm
      replace ih := ih hm
      intro a1 s hI
      exact lk_180_99 ih (h1 a1 s hI)
  exact key N0 (Nat.le_refl _) a1 s h0
def ub_180_96 (T : Nat → List Value → yS → (Option Value → yS → Prop) → Prop)  (a1 : Int32) (s : yS) (P : Option Value → yS → Prop) : Prop :=
  T 167 [.ref 213, .int 123] s (fun v2 s1 => v2 = none ∧ (ubl_180_99 T  a1  s1 P))
set_option maxRecDepth 20000 in
theorem lk_180_96 {d N0 : Nat}  {a1 : Int32} {s : yS} {P : Option Value → yS → Prop}  (h : ub_180_96 (Par d)  a1 s P) : Lb d N0 2 (none) xE_180 (xE_180.drop 96) [.ref 213, .int a1, .null] [] s P := by
  unfold ub_180_96 at h
  refine Lb_w (lb_ld rfl rfl rfl ?_)
  refine Lb_w (lb_c [.int 123, .ref 213] (xo_push (.int 123)) rfl rfl ?_)
  refine Lb_w (lb_call [.ref 213, .int 123] [] rfl rfl rfl (Par.imp h (fun v2 s1 h => ?_)))
  obtain ⟨rfl, h⟩ := h
  change Lb _ _ _ _ _ _ _ [] _ _
  exact lkl_180_99  h
def ub_180_74 (T : Nat → List Value → yS → (Option Value → yS → Prop) → Prop)  (a1 : Int32) (s : yS) (P : Option Value → yS → Prop) : Prop :=
  T 165 [.ref 213, .int 1] s (fun v2 s1 => ∃ x3, v2 = some (.int x3) ∧ ((((0 ≤ a1.toInt ∧ a1.toInt < 48) ∧ (x3.toInt = 0 ∨ x3.toInt = 1)) → ∀ s4, s4 = sa s1 235 a1.toInt.toNat x3 → ((0 ≤ a1.toInt ∧ a1.toInt < 48) → ((s4.2.1 235 a1.toInt.toNat).toInt = 0 → T 169 [.ref 213, .int 2] s4 (fun v6 s5 => v6 = none ∧ (ub_180_96 T  a1  s5 P))) ∧ (¬ ((s4.2.1 235 a1.toInt.toNat).toInt = 0) → ((-2147483648 ≤ (s4.1 7).toInt + 1 ∧ (s4.1 7).toInt + 1 ≤ 2147483647) → ∀ x7 : Int32, x7.toInt = (s4.1 7).toInt + 1 → ∀ s8, s8 = sf s4 7 x7 → ub_180_96 T  a1  s8 P))))))
set_option maxRecDepth 20000 in
theorem lk_180_74 {d N0 : Nat}  {a1 : Int32} {s : yS} {P : Option Value → yS → Prop}  (h : ub_180_74 (Par d)  a1 s P) : Lb d N0 2 (none) xE_180 (xE_180.drop 74) [.ref 213, .int a1, .null] [] s P := by
  unfold ub_180_74 at h
  refine Lb_w (lb_ld rfl rfl rfl ?_)
  refine Lb_w (lb_get rfl rfl ?_)
  change Lb _ _ _ _ _ _ _ [.ref 235] _ _
  refine Lb_w (lb_ld rfl rfl rfl ?_)
  refine Lb_w (lb_ld rfl rfl rfl ?_)
  refine Lb_w (lb_c [.int 1, .ref 213, .int a1, .ref 235] (xo_push (.int 1)) rfl rfl ?_)
  refine Lb_w (lb_call [.ref 213, .int 1] [.int a1, .ref 235] rfl rfl rfl (Par.imp h (fun v2 s1 h => ?_)))
  obtain ⟨x3, rfl, h⟩ := h
  change Lb _ _ _ _ _ _ _ [.int x3, .int a1, .ref 235] _ _
  refine Lb_w (lb_zas rfl rfl (fun hk hk2 => ?_))
  replace h := h ⟨kc_in (x := a1) rfl hk, kc_z (x := x3) rfl hk2⟩
  replace h := h _ rfl
  refine Lb_w (lb_ld rfl rfl rfl ?_)
  refine Lb_w (lb_get rfl rfl ?_)
  change Lb _ _ _ _ _ _ _ [.ref 235] _ _
  refine Lb_w (lb_ld rfl rfl rfl ?_)
  refine Lb_w (lb_zal rfl rfl (fun hk => ?_))
  change Lb _ _ _ _ _ _ _ [.int ((sa s1 235 a1.toInt.toNat x3).2.1 235 a1.toInt.toNat)] _ _
  replace h := h (kc_in (x := a1) rfl hk)
  refine Lb_w (lb_brP rfl rfl ⟨fun hc => ?_, fun hc => ?_⟩)
  · replace h := h.1 ((i_eq (x := (sa s1 235 a1.toInt.toNat x3).2.1 235 a1.toInt.toNat) (y := 0) rfl (show (0 : Int32).toInt = 0 by decide)).mp hc)
    refine Lb_w (lb_ld rfl rfl rfl ?_)
    refine Lb_w (lb_c [.int 2, .ref 213] (xo_push (.int 2)) rfl rfl ?_)
    refine Lb_w (lb_call [.ref 213, .int 2] [] rfl rfl rfl (Par.imp h (fun v6 s5 h => ?_)))
    obtain ⟨rfl, h⟩ := h
    change Lb _ _ _ _ _ _ _ [] _ _
    exact lk_180_96  h
  · replace h := h.2 (fun q => hc ((i_eq (x := (sa s1 235 a1.toInt.toNat x3).2.1 235 a1.toInt.toNat) (y := 0) rfl (show (0 : Int32).toInt = 0 by decide)).mpr q))
    refine Lb_w (lb_ld rfl rfl rfl ?_)
    refine Lb_w (lb_c [.ref 213, .ref 213] xo_dup rfl rfl ?_)
    refine Lb_w (lb_get rfl rfl ?_)
    change Lb _ _ _ _ _ _ _ [.int ((sa s1 235 a1.toInt.toNat x3).1 7), .ref 213] _ _
    refine Lb_w (lb_c [.int 1, .int ((sa s1 235 a1.toInt.toNat x3).1 7), .ref 213] (xo_push (.int 1)) rfl rfl ?_)
    refine Lb_w (lb_ca [.int (((sa s1 235 a1.toInt.toNat x3).1 7) + 1), .ref 213] xo_iadd rfl rfl (fun _ hk => ?_))
    replace hk := kc_add (x := (sa s1 235 a1.toInt.toNat x3).1 7) (y := 1) rfl (show (1 : Int32).toInt = 1 by decide) hk
    replace h := h hk _ (i_add (x := (sa s1 235 a1.toInt.toNat x3).1 7) (y := 1) rfl (show (1 : Int32).toInt = 1 by decide) hk)
    refine Lb_w (lb_put rfl rfl (fun hk => ?_))
    replace h := h _ rfl
    refine Lb_w (lb_go rfl ?_)
    exact lk_180_96  h
def ub_180_0 (T : Nat → List Value → yS → (Option Value → yS → Prop) → Prop)   (s : yS) (P : Option Value → yS → Prop) : Prop :=
  ((-2147483648 ≤ 24 * (s.1 30).toInt ∧ 24 * (s.1 30).toInt ≤ 2147483647) → ∀ x1 : Int32, x1.toInt = 24 * (s.1 30).toInt → ((0 ≤ (s.1 30).toInt ∧ (s.1 30).toInt < 2) → ((-2147483648 ≤ x1.toInt + (s.2.1 233 (s.1 30).toInt.toNat).toInt ∧ x1.toInt + (s.2.1 233 (s.1 30).toInt.toNat).toInt ≤ 2147483647) → ∀ x2 : Int32, x2.toInt = x1.toInt + (s.2.1 233 (s.1 30).toInt.toNat).toInt → ((0 ≤ (s.1 30).toInt ∧ (s.1 30).toInt < 2) → (¬ ((s.2.1 233 (s.1 30).toInt.toNat).toInt = 24) → ((-2147483648 ≤ (s.1 7).toInt + 1 ∧ (s.1 7).toInt + 1 ≤ 2147483647) → ∀ x3 : Int32, x3.toInt = (s.1 7).toInt + 1 → ∀ s4, s4 = sf s 7 x3 → T 170 [.ref 213] s4 (fun v6 s5 => ∃ x7, v6 = some (.int x7) ∧ (((0 ≤ x2.toInt ∧ x2.toInt < 48) → ∀ s8, s8 = sa s5 234 x2.toInt.toNat x7 → ((0 ≤ x2.toInt ∧ x2.toInt < 48) → ∀ s9, s9 = sa s8 236 x2.toInt.toNat 0 → ((0 ≤ x2.toInt ∧ x2.toInt < 48) → ∀ s10, s10 = sa s9 239 x2.toInt.toNat 0 → ((0 ≤ x2.toInt ∧ x2.toInt < 48) → ∀ s11, s11 = sa s10 242 x2.toInt.toNat (s10.1 42) → ((0 ≤ x2.toInt ∧ x2.toInt < 48) → ∀ s12, s12 = sa s11 243 x2.toInt.toNat 0 → T 164 [.ref 213, .int 91] s12 (fun v14 s13 => ∃ x15, v14 = some (.int x15) ∧ ((x15.toInt = 0 → ub_180_74 T  x2  s13 P) ∧ (¬ (x15.toInt = 0) → ((-2147483648 ≤ 6 * x2.toInt ∧ 6 * x2.toInt ≤ 2147483647) → ∀ x16 : Int32, x16.toInt = 6 * x2.toInt → T 181 [.ref 213, .ref 237, .ref 238, .int x16] s13 (fun v18 s17 => ∃ x19, v18 = some (.int x19) ∧ (((0 ≤ x2.toInt ∧ x2.toInt < 48) → ∀ s20, s20 = sa s17 236 x2.toInt.toNat x19 → ub_180_74 T  x2  s20 P)))))))))))))))) ∧ ((s.2.1 233 (s.1 30).toInt.toNat).toInt = 24 → T 163 [.ref 213, .int 5, .int (s.1 7)] s (fun v22 s21 => v22 = none ∧ (P none s21)))))))
set_option maxRecDepth 20000 in
theorem lk_180_0 {d N0 : Nat}   {s : yS} {P : Option Value → yS → Prop}  (h : ub_180_0 (Par d)   s P) : Lb d N0 2 (none) xE_180 (xE_180.drop 0) [.ref 213, .null, .null] [] s P := by
  unfold ub_180_0 at h
  refine Lb_w (lb_c [.int 24] (xo_push (.int 24)) rfl rfl ?_)
  refine Lb_w (lb_ld rfl rfl rfl ?_)
  refine Lb_w (lb_get rfl rfl ?_)
  change Lb _ _ _ _ _ _ _ [.int (s.1 30), .int 24] _ _
  refine Lb_w (lb_ca [.int (24 * (s.1 30))] xo_imul rfl rfl (fun _ hk => ?_))
  replace hk := kc_mul (x := 24) (y := s.1 30) (show (24 : Int32).toInt = 24 by decide) rfl hk
  replace h := h hk _ (i_mul (x := 24) (y := s.1 30) (show (24 : Int32).toInt = 24 by decide) rfl hk)
  refine Lb_w (lb_ld rfl rfl rfl ?_)
  refine Lb_w (lb_get rfl rfl ?_)
  change Lb _ _ _ _ _ _ _ [.ref 233, .int (24 * (s.1 30))] _ _
  refine Lb_w (lb_ld rfl rfl rfl ?_)
  refine Lb_w (lb_get rfl rfl ?_)
  change Lb _ _ _ _ _ _ _ [.int (s.1 30), .ref 233, .int (24 * (s.1 30))] _ _
  refine Lb_w (lb_ial rfl rfl (fun hk => ?_))
  change Lb _ _ _ _ _ _ _ [.int (s.2.1 233 (s.1 30).toInt.toNat), .int (24 * (s.1 30))] _ _
  replace h := h (kc_in (x := s.1 30) rfl hk)
  refine Lb_w (lb_ca [.int ((24 * (s.1 30)) + (s.2.1 233 (s.1 30).toInt.toNat))] xo_iadd rfl rfl (fun _ hk => ?_))
  replace hk := kc_add (x := (24 * (s.1 30))) (y := s.2.1 233 (s.1 30).toInt.toNat) rfl rfl hk
  replace h := h hk _ (i_add (x := (24 * (s.1 30))) (y := s.2.1 233 (s.1 30).toInt.toNat) rfl rfl hk)
  refine Lb_w (lb_st [.ref 213, .int ((24 * (s.1 30)) + (s.2.1 233 (s.1 30).toInt.toNat)), .null] rfl rfl rfl ?_)
  refine Lb_w (lb_ld rfl rfl rfl ?_)
  refine Lb_w (lb_get rfl rfl ?_)
  change Lb _ _ _ _ _ _ _ [.ref 233] _ _
  refine Lb_w (lb_ld rfl rfl rfl ?_)
  refine Lb_w (lb_get rfl rfl ?_)
  change Lb _ _ _ _ _ _ _ [.int (s.1 30), .ref 233] _ _
  refine Lb_w (lb_ial rfl rfl (fun hk => ?_))
  change Lb _ _ _ _ _ _ _ [.int (s.2.1 233 (s.1 30).toInt.toNat)] _ _
  replace h := h (kc_in (x := s.1 30) rfl hk)
  refine Lb_w (lb_c [.int 24, .int (s.2.1 233 (s.1 30).toInt.toNat)] (xo_push (.int 24)) rfl rfl ?_)
  refine Lb_w (lb_brN rfl rfl ⟨fun hc => ?_, fun hc => ?_⟩)
  · replace h := h.1 (fun q => hc ((i_eq (x := s.2.1 233 (s.1 30).toInt.toNat) (y := 24) rfl (show (24 : Int32).toInt = 24 by decide)).mpr q))
    refine Lb_w (lb_ld rfl rfl rfl ?_)
    refine Lb_w (lb_c [.ref 213, .ref 213] xo_dup rfl rfl ?_)
    refine Lb_w (lb_get rfl rfl ?_)
    change Lb _ _ _ _ _ _ _ [.int (s.1 7), .ref 213] _ _
    refine Lb_w (lb_c [.int 1, .int (s.1 7), .ref 213] (xo_push (.int 1)) rfl rfl ?_)
    refine Lb_w (lb_ca [.int ((s.1 7) + 1), .ref 213] xo_iadd rfl rfl (fun _ hk => ?_))
    replace hk := kc_add (x := s.1 7) (y := 1) rfl (show (1 : Int32).toInt = 1 by decide) hk
    replace h := h hk _ (i_add (x := s.1 7) (y := 1) rfl (show (1 : Int32).toInt = 1 by decide) hk)
    refine Lb_w (lb_put rfl rfl (fun hk => ?_))
    replace h := h _ rfl
    refine Lb_w (lb_ld rfl rfl rfl ?_)
    refine Lb_w (lb_get rfl rfl ?_)
    change Lb _ _ _ _ _ _ _ [.ref 234] _ _
    refine Lb_w (lb_ld rfl rfl rfl ?_)
    refine Lb_w (lb_ld rfl rfl rfl ?_)
    refine Lb_w (lb_call [.ref 213] [.int ((24 * (s.1 30)) + (s.2.1 233 (s.1 30).toInt.toNat)), .ref 234] rfl rfl rfl (Par.imp h (fun v6 s5 h => ?_)))
    obtain ⟨x7, rfl, h⟩ := h
    change Lb _ _ _ _ _ _ _ [.int x7, .int ((24 * (s.1 30)) + (s.2.1 233 (s.1 30).toInt.toNat)), .ref 234] _ _
    refine Lb_w (lb_ias rfl rfl (fun hk => ?_))
    replace h := h (kc_in (x := ((24 * (s.1 30)) + (s.2.1 233 (s.1 30).toInt.toNat))) rfl hk)
    replace h := h _ rfl
    refine Lb_w (lb_ld rfl rfl rfl ?_)
    refine Lb_w (lb_get rfl rfl ?_)
    change Lb _ _ _ _ _ _ _ [.ref 236] _ _
    refine Lb_w (lb_ld rfl rfl rfl ?_)
    refine Lb_w (lb_c [.int 0, .int ((24 * (s.1 30)) + (s.2.1 233 (s.1 30).toInt.toNat)), .ref 236] (xo_push (.int 0)) rfl rfl ?_)
    refine Lb_w (lb_ias rfl rfl (fun hk => ?_))
    replace h := h (kc_in (x := ((24 * (s.1 30)) + (s.2.1 233 (s.1 30).toInt.toNat))) rfl hk)
    replace h := h _ rfl
    refine Lb_w (lb_ld rfl rfl rfl ?_)
    refine Lb_w (lb_get rfl rfl ?_)
    change Lb _ _ _ _ _ _ _ [.ref 239] _ _
    refine Lb_w (lb_ld rfl rfl rfl ?_)
    refine Lb_w (lb_c [.int 0, .int ((24 * (s.1 30)) + (s.2.1 233 (s.1 30).toInt.toNat)), .ref 239] (xo_push (.int 0)) rfl rfl ?_)
    refine Lb_w (lb_ias rfl rfl (fun hk => ?_))
    replace h := h (kc_in (x := ((24 * (s.1 30)) + (s.2.1 233 (s.1 30).toInt.toNat))) rfl hk)
    replace h := h _ rfl
    refine Lb_w (lb_ld rfl rfl rfl ?_)
    refine Lb_w (lb_get rfl rfl ?_)
    change Lb _ _ _ _ _ _ _ [.ref 242] _ _
    refine Lb_w (lb_ld rfl rfl rfl ?_)
    refine Lb_w (lb_ld rfl rfl rfl ?_)
    refine Lb_w (lb_get rfl rfl ?_)
    change Lb _ _ _ _ _ _ _ [.int ((sa (sa (sa s5 234 ((24 * (s.1 30)) + (s.2.1 233 (s.1 30).toInt.toNat)).toInt.toNat x7) 236 ((24 * (s.1 30)) + (s.2.1 233 (s.1 30).toInt.toNat)).toInt.toNat 0) 239 ((24 * (s.1 30)) + (s.2.1 233 (s.1 30).toInt.toNat)).toInt.toNat 0).1 42), .int ((24 * (s.1 30)) + (s.2.1 233 (s.1 30).toInt.toNat)), .ref 242] _ _
    refine Lb_w (lb_ias rfl rfl (fun hk => ?_))
    replace h := h (kc_in (x := ((24 * (s.1 30)) + (s.2.1 233 (s.1 30).toInt.toNat))) rfl hk)
    replace h := h _ rfl
    refine Lb_w (lb_ld rfl rfl rfl ?_)
    refine Lb_w (lb_get rfl rfl ?_)
    change Lb _ _ _ _ _ _ _ [.ref 243] _ _
    refine Lb_w (lb_ld rfl rfl rfl ?_)
    refine Lb_w (lb_c [.int 0, .int ((24 * (s.1 30)) + (s.2.1 233 (s.1 30).toInt.toNat)), .ref 243] (xo_push (.int 0)) rfl rfl ?_)
    refine Lb_w (lb_ias rfl rfl (fun hk => ?_))
    replace h := h (kc_in (x := ((24 * (s.1 30)) + (s.2.1 233 (s.1 30).toInt.toNat))) rfl hk)
    replace h := h _ rfl
    refine Lb_w (lb_ld rfl rfl rfl ?_)
    refine Lb_w (lb_c [.int 91, .ref 213] (xo_push (.int 91)) rfl rfl ?_)
    refine Lb_w (lb_call [.ref 213, .int 91] [] rfl rfl rfl (Par.imp h (fun v14 s13 h => ?_)))
    obtain ⟨x15, rfl, h⟩ := h
    change Lb _ _ _ _ _ _ _ [.int x15] _ _
    refine Lb_w (lb_brP rfl rfl ⟨fun hc => ?_, fun hc => ?_⟩)
    · replace h := h.1 ((i_eq (x := x15) (y := 0) rfl (show (0 : Int32).toInt = 0 by decide)).mp hc)
      exact lk_180_74  h
    · replace h := h.2 (fun q => hc ((i_eq (x := x15) (y := 0) rfl (show (0 : Int32).toInt = 0 by decide)).mpr q))
      refine Lb_w (lb_ld rfl rfl rfl ?_)
      refine Lb_w (lb_get rfl rfl ?_)
      change Lb _ _ _ _ _ _ _ [.ref 236] _ _
      refine Lb_w (lb_ld rfl rfl rfl ?_)
      refine Lb_w (lb_ld rfl rfl rfl ?_)
      refine Lb_w (lb_ld rfl rfl rfl ?_)
      refine Lb_w (lb_get rfl rfl ?_)
      change Lb _ _ _ _ _ _ _ [.ref 237, .ref 213, .int ((24 * (s.1 30)) + (s.2.1 233 (s.1 30).toInt.toNat)), .ref 236] _ _
      refine Lb_w (lb_ld rfl rfl rfl ?_)
      refine Lb_w (lb_get rfl rfl ?_)
      change Lb _ _ _ _ _ _ _ [.ref 238, .ref 237, .ref 213, .int ((24 * (s.1 30)) + (s.2.1 233 (s.1 30).toInt.toNat)), .ref 236] _ _
      refine Lb_w (lb_c [.int 6, .ref 238, .ref 237, .ref 213, .int ((24 * (s.1 30)) + (s.2.1 233 (s.1 30).toInt.toNat)), .ref 236] (xo_push (.int 6)) rfl rfl ?_)
      refine Lb_w (lb_ld rfl rfl rfl ?_)
      refine Lb_w (lb_ca [.int (6 * ((24 * (s.1 30)) + (s.2.1 233 (s.1 30).toInt.toNat))), .ref 238, .ref 237, .ref 213, .int ((24 * (s.1 30)) + (s.2.1 233 (s.1 30).toInt.toNat)), .ref 236] xo_imul rfl rfl (fun _ hk => ?_))
      replace hk := kc_mul (x := 6) (y := ((24 * (s.1 30)) + (s.2.1 233 (s.1 30).toInt.toNat))) (show (6 : Int32).toInt = 6 by decide) rfl hk
      replace h := h hk _ (i_mul (x := 6) (y := ((24 * (s.1 30)) + (s.2.1 233 (s.1 30).toInt.toNat))) (show (6 : Int32).toInt = 6 by decide) rfl hk)
      refine Lb_w (lb_call [.ref 213, .ref 237, .ref 238, .int (6 * ((24 * (s.1 30)) + (s.2.1 233 (s.1 30).toInt.toNat)))] [.int ((24 * (s.1 30)) + (s.2.1 233 (s.1 30).toInt.toNat)), .ref 236] rfl rfl rfl (Par.imp h (fun v18 s17 h => ?_)))
      obtain ⟨x19, rfl, h⟩ := h
      change Lb _ _ _ _ _ _ _ [.int x19, .int ((24 * (s.1 30)) + (s.2.1 233 (s.1 30).toInt.toNat)), .ref 236] _ _
      refine Lb_w (lb_ias rfl rfl (fun hk => ?_))
      replace h := h (kc_in (x := ((24 * (s.1 30)) + (s.2.1 233 (s.1 30).toInt.toNat))) rfl hk)
      replace h := h _ rfl
      exact lk_180_74  h
  · replace h := h.2 ((i_eq (x := s.2.1 233 (s.1 30).toInt.toNat) (y := 24) rfl (show (24 : Int32).toInt = 24 by decide)).mp hc)
    refine Lb_w (lb_ld rfl rfl rfl ?_)
    refine Lb_w (lb_c [.int 5, .ref 213] (xo_push (.int 5)) rfl rfl ?_)
    refine Lb_w (lb_ld rfl rfl rfl ?_)
    refine Lb_w (lb_get rfl rfl ?_)
    change Lb _ _ _ _ _ _ _ [.int (s.1 7), .int 5, .ref 213] _ _
    refine Lb_w (lb_call [.ref 213, .int 5, .int (s.1 7)] [] rfl rfl rfl (Par.imp h (fun v22 s21 h => ?_)))
    obtain ⟨rfl, h⟩ := h
    change Lb _ _ _ _ _ _ _ [] _ _
    exact Lb_w (lb_ret0 rfl h)
theorem pb_180 {d : Nat}  {s : yS} {P : Option Value → yS → Prop} (h : ub_180_0 (Par d)  s P) : Par (d + 1) 180 [.ref 213] s P := par_of (E := xE_180) (ml := 2) (ret := none) rfl (fun _ => lk_180_0 h)
/-! readFormals -/
def ub_181_58 (T : Nat → List Value → yS → (Option Value → yS → Prop) → Prop)  (a1 : Nat) (a2 : Nat) (a3 : Int32) (a4 : Int32) (a5 : Int32) (s : yS) (P : Option Value → yS → Prop) : Prop :=
  T 167 [.ref 213, .int 93] s (fun v2 s1 => v2 = none ∧ (P (some (.int a4)) s1))
set_option maxRecDepth 20000 in
theorem lk_181_58 {d N0 : Nat}  {a1 : Nat} {a2 : Nat} {a3 : Int32} {a4 : Int32} {a5 : Int32} {s : yS} {P : Option Value → yS → Prop}  (h : ub_181_58 (Par d)  a1 a2 a3 a4 a5 s P) : Lb d N0 8 (some .int) xE_181 (xE_181.drop 58) [.ref 213, .ref a1, .ref a2, .int a3, .int a4, .int a5, .null, .null, .null, .null, .null, .null] [] s P := by
  unfold ub_181_58 at h
  refine Lb_w (lb_ld rfl rfl rfl ?_)
  refine Lb_w (lb_c [.int 93, .ref 213] (xo_push (.int 93)) rfl rfl ?_)
  refine Lb_w (lb_call [.ref 213, .int 93] [] rfl rfl rfl (Par.imp h (fun v2 s1 h => ?_)))
  obtain ⟨rfl, h⟩ := h
  change Lb _ _ _ _ _ _ _ [] _ _
  refine Lb_w (lb_ld rfl rfl rfl ?_)
  exact Lb_w (lb_retI rfl h)
def ub_181_53 (T : Nat → List Value → yS → (Option Value → yS → Prop) → Prop) (R7 : Nat → Nat → Int32 → Int32 → Int32 → yS → Prop) (a1 : Nat) (a2 : Nat) (a3 : Int32) (a4 : Int32) (a5 : Int32) (a6 : Int32) (a7 : Int32) (s : yS) (P : Option Value → yS → Prop) : Prop :=
  T 168 [.ref 213, .int 44] s (fun v2 s1 => ∃ x3, v2 = some (.int x3) ∧ (R7 a1 a2 a3 a4 x3  s1))
set_option maxRecDepth 20000 in
theorem lk_181_53 {d N0 : Nat} {R7 : Nat → Nat → Int32 → Int32 → Int32 → yS → Prop} {a1 : Nat} {a2 : Nat} {a3 : Int32} {a4 : Int32} {a5 : Int32} {a6 : Int32} {a7 : Int32} {s : yS} {P : Option Value → yS → Prop} (r7 : ∀ a1 a2 a3 a4 a5 s, R7 a1 a2 a3 a4 a5 s → Lb d N0 8 (some .int) xE_181 (xE_181.drop 7) [.ref 213, .ref a1, .ref a2, .int a3, .int a4, .int a5, .null, .null, .null, .null, .null, .null] [] s P) (h : ub_181_53 (Par d) R7 a1 a2 a3 a4 a5 a6 a7 s P) : Lb d N0 8 (some .int) xE_181 (xE_181.drop 53) [.ref 213, .ref a1, .ref a2, .int a3, .int a4, .int a5, .int a6, .int a7, .null, .null, .null, .null] [] s P := by
  unfold ub_181_53 at h
  refine Lb_w (lb_ld rfl rfl rfl ?_)
  refine Lb_w (lb_c [.int 44, .ref 213] (xo_push (.int 44)) rfl rfl ?_)
  refine Lb_w (lb_call [.ref 213, .int 44] [] rfl rfl rfl (Par.imp h (fun v2 s1 h => ?_)))
  obtain ⟨x3, rfl, h⟩ := h
  change Lb _ _ _ _ _ _ _ [.int x3] _ _
  refine Lb_w (lb_st [.ref 213, .ref a1, .ref a2, .int a3, .int a4, .int x3, .int a6, .int a7, .null, .null, .null, .null] rfl rfl rfl ?_)
  refine Lb_w (lb_go rfl ?_)
  refine lb_fg 6 ?_
  refine lb_fg 7 ?_
  exact r7 a1 a2 a3 a4 x3  s1 h
def ub_181_36 (T : Nat → List Value → yS → (Option Value → yS → Prop) → Prop) (R7 : Nat → Nat → Int32 → Int32 → Int32 → yS → Prop) (a1 : Nat) (a2 : Nat) (a3 : Int32) (a4 : Int32) (a5 : Int32) (a6 : Int32) (t0 : Int32) (s : yS) (P : Option Value → yS → Prop) : Prop :=
  (¬ ((s.1 8).toInt = 0) → ub_181_53 T R7 a1 a2 a3 a4 a5 a6 t0  s P) ∧ ((s.1 8).toInt = 0 → ((-2147483648 ≤ a3.toInt + a4.toInt ∧ a3.toInt + a4.toInt ≤ 2147483647) → ∀ x1 : Int32, x1.toInt = a3.toInt + a4.toInt → ∃ n, ytab a1 = some (0, n) ∧ ((0 ≤ x1.toInt ∧ x1.toInt < (n : Int)) → ∀ s2, s2 = sa s a1 x1.toInt.toNat a6 → ((-2147483648 ≤ a3.toInt + a4.toInt ∧ a3.toInt + a4.toInt ≤ 2147483647) → ∀ x3 : Int32, x3.toInt = a3.toInt + a4.toInt → ∃ n, ytab a2 = some (0, n) ∧ ((0 ≤ x3.toInt ∧ x3.toInt < (n : Int)) → ∀ s4, s4 = sa s2 a2 x3.toInt.toNat t0 → ((-2147483648 ≤ a4.toInt + 1 ∧ a4.toInt + 1 ≤ 2147483647) → ∀ x5 : Int32, x5.toInt = a4.toInt + 1 → ub_181_53 T R7 a1 a2 a3 x5 a5 a6 t0  s4 P))))))
set_option maxRecDepth 20000 in
theorem lk_181_36 {d N0 : Nat} {R7 : Nat → Nat → Int32 → Int32 → Int32 → yS → Prop} {a1 : Nat} {a2 : Nat} {a3 : Int32} {a4 : Int32} {a5 : Int32} {a6 : Int32} {t0 : Int32} {s : yS} {P : Option Value → yS → Prop} (r7 : ∀ a1 a2 a3 a4 a5 s, R7 a1 a2 a3 a4 a5 s → Lb d N0 8 (some .int) xE_181 (xE_181.drop 7) [.ref 213, .ref a1, .ref a2, .int a3, .int a4, .int a5, .null, .null, .null, .null, .null, .null] [] s P) (h : ub_181_36 (Par d) R7 a1 a2 a3 a4 a5 a6 t0 s P) : Lb d N0 8 (some .int) xE_181 (xE_181.drop 36) [.ref 213, .ref a1, .ref a2, .int a3, .int a4, .int a5, .int a6, .null, .null, .null, .null, .null] [.int t0] s P := by
  unfold ub_181_36 at h
  refine Lb_w (lb_st [.ref 213, .ref a1, .ref a2, .int a3, .int a4, .int a5, .int a6, .int t0, .null, .null, .null, .null] rfl rfl rfl ?_)
  refine Lb_w (lb_ld rfl rfl rfl ?_)
  refine Lb_w (lb_get rfl rfl ?_)
  change Lb _ _ _ _ _ _ _ [.int (s.1 8)] _ _
  refine Lb_w (lb_brN rfl rfl ⟨fun hc => ?_, fun hc => ?_⟩)
  · replace h := h.1 (fun q => hc ((i_eq (x := s.1 8) (y := 0) rfl (show (0 : Int32).toInt = 0 by decide)).mpr q))
    exact lk_181_53 r7 h
  · replace h := h.2 ((i_eq (x := s.1 8) (y := 0) rfl (show (0 : Int32).toInt = 0 by decide)).mp hc)
    refine Lb_w (lb_ld rfl rfl rfl ?_)
    refine Lb_w (lb_ld rfl rfl rfl ?_)
    refine Lb_w (lb_ld rfl rfl rfl ?_)
    refine Lb_w (lb_ca [.int (a3 + a4), .ref a1] xo_iadd rfl rfl (fun _ hk => ?_))
    replace hk := kc_add (x := a3) (y := a4) rfl rfl hk
    replace h := h hk _ (i_add (x := a3) (y := a4) rfl rfl hk)
    refine Lb_w (lb_ld rfl rfl rfl ?_)
    obtain ⟨n, hn, h⟩ := h
    refine Lb_w (lb_ias rfl hn (fun hk => ?_))
    replace h := h (kc_in (x := (a3 + a4)) rfl hk)
    replace h := h _ rfl
    refine Lb_w (lb_ld rfl rfl rfl ?_)
    refine Lb_w (lb_ld rfl rfl rfl ?_)
    refine Lb_w (lb_ld rfl rfl rfl ?_)
    refine Lb_w (lb_ca [.int (a3 + a4), .ref a2] xo_iadd rfl rfl (fun _ hk => ?_))
    replace hk := kc_add (x := a3) (y := a4) rfl rfl hk
    replace h := h hk _ (i_add (x := a3) (y := a4) rfl rfl hk)
    refine Lb_w (lb_ld rfl rfl rfl ?_)
    obtain ⟨n, hn, h⟩ := h
    refine Lb_w (lb_ias rfl hn (fun hk => ?_))
    replace h := h (kc_in (x := (a3 + a4)) rfl hk)
    replace h := h _ rfl
    refine Lb_w (lb_inc [.ref 213, .ref a1, .ref a2, .int a3, .int (a4 + 1), .int a5, .int a6, .int t0, .null, .null, .null, .null] rfl rfl rfl rfl (fun hk => ?_))
    replace hk := kc_inc (x := a4) (n := 1) rfl hk
    replace h := h hk _ (i_add (x := a4) (y := 1) rfl (show (1 : Int32).toInt = 1 by decide) hk)
    exact lk_181_53 r7 h
def ub_181_23 (T : Nat → List Value → yS → (Option Value → yS → Prop) → Prop) (R7 : Nat → Nat → Int32 → Int32 → Int32 → yS → Prop) (a1 : Nat) (a2 : Nat) (a3 : Int32) (a4 : Int32) (a5 : Int32) (s : yS) (P : Option Value → yS → Prop) : Prop :=
  T 170 [.ref 213] s (fun v2 s1 => ∃ x3, v2 = some (.int x3) ∧ (∀ s4, s4 = sf s1 27 0 → (¬ ((s4.1 8).toInt = 0) → ub_181_36 T R7 a1 a2 a3 a4 a5 x3 (-1) s4 P) ∧ ((s4.1 8).toInt = 0 → T 173 [.ref 213] s4 (fun v6 s5 => ∃ x7, v6 = some (.int x7) ∧ (ub_181_36 T R7 a1 a2 a3 a4 a5 x3 x7 s5 P)))))
set_option maxRecDepth 20000 in
theorem lk_181_23 {d N0 : Nat} {R7 : Nat → Nat → Int32 → Int32 → Int32 → yS → Prop} {a1 : Nat} {a2 : Nat} {a3 : Int32} {a4 : Int32} {a5 : Int32} {s : yS} {P : Option Value → yS → Prop} (r7 : ∀ a1 a2 a3 a4 a5 s, R7 a1 a2 a3 a4 a5 s → Lb d N0 8 (some .int) xE_181 (xE_181.drop 7) [.ref 213, .ref a1, .ref a2, .int a3, .int a4, .int a5, .null, .null, .null, .null, .null, .null] [] s P) (h : ub_181_23 (Par d) R7 a1 a2 a3 a4 a5 s P) : Lb d N0 8 (some .int) xE_181 (xE_181.drop 23) [.ref 213, .ref a1, .ref a2, .int a3, .int a4, .int a5, .null, .null, .null, .null, .null, .null] [] s P := by
  unfold ub_181_23 at h
  refine Lb_w (lb_ld rfl rfl rfl ?_)
  refine Lb_w (lb_call [.ref 213] [] rfl rfl rfl (Par.imp h (fun v2 s1 h => ?_)))
  obtain ⟨x3, rfl, h⟩ := h
  change Lb _ _ _ _ _ _ _ [.int x3] _ _
  refine Lb_w (lb_st [.ref 213, .ref a1, .ref a2, .int a3, .int a4, .int a5, .int x3, .null, .null, .null, .null, .null] rfl rfl rfl ?_)
  refine Lb_w (lb_ld rfl rfl rfl ?_)
  refine Lb_w (lb_c [.int 0, .ref 213] (xo_push (.int 0)) rfl rfl ?_)
  refine Lb_w (lb_put rfl rfl (fun hk => ?_))
  replace h := h _ rfl
  refine Lb_w (lb_ld rfl rfl rfl ?_)
  refine Lb_w (lb_get rfl rfl ?_)
  change Lb _ _ _ _ _ _ _ [.int ((sf s1 27 0).1 8)] _ _
  refine Lb_w (lb_brN rfl rfl ⟨fun hc => ?_, fun hc => ?_⟩)
  · replace h := h.1 (fun q => hc ((i_eq (x := (sf s1 27 0).1 8) (y := 0) rfl (show (0 : Int32).toInt = 0 by decide)).mpr q))
    refine Lb_w (lb_c [.int (-1)] (xo_push (.int (-1))) rfl rfl ?_)
    exact lk_181_36 r7 h
  · replace h := h.2 ((i_eq (x := (sf s1 27 0).1 8) (y := 0) rfl (show (0 : Int32).toInt = 0 by decide)).mp hc)
    refine Lb_w (lb_ld rfl rfl rfl ?_)
    refine Lb_w (lb_call [.ref 213] [] rfl rfl rfl (Par.imp h (fun v6 s5 h => ?_)))
    obtain ⟨x7, rfl, h⟩ := h
    change Lb _ _ _ _ _ _ _ [.int x7] _ _
    refine Lb_w (lb_go rfl ?_)
    exact lk_181_36 r7 h
def ub_181_7 (T : Nat → List Value → yS → (Option Value → yS → Prop) → Prop) (R7 : Nat → Nat → Int32 → Int32 → Int32 → yS → Prop) (a1 : Nat) (a2 : Nat) (a3 : Int32) (a4 : Int32) (a5 : Int32) (s : yS) (P : Option Value → yS → Prop) : Prop :=
  (a5.toInt = 0 → ub_181_58 T  a1 a2 a3 a4 a5  s P) ∧ (¬ (a5.toInt = 0) → (¬ ((s.1 8).toInt = 0) → ub_181_58 T  a1 a2 a3 a4 a5  s P) ∧ ((s.1 8).toInt = 0 → (¬ (a4.toInt = 6) → ub_181_23 T R7 a1 a2 a3 a4 a5  s P) ∧ (a4.toInt = 6 → T 166 [.ref 213] s (fun v2 s1 => ∃ x3, v2 = some (.int x3) ∧ ((x3.toInt = 0 → ub_181_23 T R7 a1 a2 a3 a4 a5  s1 P) ∧ (¬ (x3.toInt = 0) → T 163 [.ref 213, .int 5, .int (s1.1 7)] s1 (fun v5 s4 => v5 = none ∧ (ub_181_23 T R7 a1 a2 a3 a4 a5  s4 P))))))))
set_option maxRecDepth 20000 in
theorem lk_181_7 {d N0 : Nat} {R7 : Nat → Nat → Int32 → Int32 → Int32 → yS → Prop} {a1 : Nat} {a2 : Nat} {a3 : Int32} {a4 : Int32} {a5 : Int32} {s : yS} {P : Option Value → yS → Prop} (r7 : ∀ a1 a2 a3 a4 a5 s, R7 a1 a2 a3 a4 a5 s → Lb d N0 8 (some .int) xE_181 (xE_181.drop 7) [.ref 213, .ref a1, .ref a2, .int a3, .int a4, .int a5, .null, .null, .null, .null, .null, .null] [] s P) (h : ub_181_7 (Par d) R7 a1 a2 a3 a4 a5 s P) : Lb d (N0 + 1) 8 (some .int) xE_181 (xE_181.drop 7) [.ref 213, .ref a1, .ref a2, .int a3, .int a4, .int a5, .null, .null, .null, .null, .null, .null] [] s P := by
  unfold ub_181_7 at h
  refine lb_ld rfl rfl rfl ?_
  refine Lb_w (lb_brP rfl rfl ⟨fun hc => ?_, fun hc => ?_⟩)
  · replace h := h.1 ((i_eq (x := a5) (y := 0) rfl (show (0 : Int32).toInt = 0 by decide)).mp hc)
    exact lk_181_58  h
  · replace h := h.2 (fun q => hc ((i_eq (x := a5) (y := 0) rfl (show (0 : Int32).toInt = 0 by decide)).mpr q))
    refine Lb_w (lb_ld rfl rfl rfl ?_)
    refine Lb_w (lb_get rfl rfl ?_)
    change Lb _ _ _ _ _ _ _ [.int (s.1 8)] _ _
    refine Lb_w (lb_brN rfl rfl ⟨fun hc => ?_, fun hc => ?_⟩)
    · replace h := h.1 (fun q => hc ((i_eq (x := s.1 8) (y := 0) rfl (show (0 : Int32).toInt = 0 by decide)).mpr q))
      exact lk_181_58  h
    · replace h := h.2 ((i_eq (x := s.1 8) (y := 0) rfl (show (0 : Int32).toInt = 0 by decide)).mp hc)
      refine Lb_w (lb_ld rfl rfl rfl ?_)
      refine Lb_w (lb_c [.int 6, .int a4] (xo_push (.int 6)) rfl rfl ?_)
      refine Lb_w (lb_brN rfl rfl ⟨fun hc => ?_, fun hc => ?_⟩)
      · replace h := h.1 (fun q => hc ((i_eq (x := a4) (y := 6) rfl (show (6 : Int32).toInt = 6 by decide)).mpr q))
        exact lk_181_23 r7 h
      · replace h := h.2 ((i_eq (x := a4) (y := 6) rfl (show (6 : Int32).toInt = 6 by decide)).mp hc)
        refine Lb_w (lb_ld rfl rfl rfl ?_)
        refine Lb_w (lb_call [.ref 213] [] rfl rfl rfl (Par.imp h (fun v2 s1 h => ?_)))
        obtain ⟨x3, rfl, h⟩ := h
        change Lb _ _ _ _ _ _ _ [.int x3] _ _
        refine Lb_w (lb_brP rfl rfl ⟨fun hc => ?_, fun hc => ?_⟩)
        · replace h := h.1 ((i_eq (x := x3) (y := 0) rfl (show (0 : Int32).toInt = 0 by decide)).mp hc)
          exact lk_181_23 r7 h
        · replace h := h.2 (fun q => hc ((i_eq (x := x3) (y := 0) rfl (show (0 : Int32).toInt = 0 by decide)).mpr q))
          refine Lb_w (lb_ld rfl rfl rfl ?_)
          refine Lb_w (lb_c [.int 5, .ref 213] (xo_push (.int 5)) rfl rfl ?_)
          refine Lb_w (lb_ld rfl rfl rfl ?_)
          refine Lb_w (lb_get rfl rfl ?_)
          change Lb _ _ _ _ _ _ _ [.int (s1.1 7), .int 5, .ref 213] _ _
          refine Lb_w (lb_call [.ref 213, .int 5, .int (s1.1 7)] [] rfl rfl rfl (Par.imp h (fun v5 s4 h => ?_)))
          obtain ⟨rfl, h⟩ := h
          change Lb _ _ _ _ _ _ _ [] _ _
          exact lk_181_23 r7 h
def ubl_181_7 (T : Nat → List Value → yS → (Option Value → yS → Prop) → Prop)  (a1 : Nat) (a2 : Nat) (a3 : Int32) (a4 : Int32) (a5 : Int32) (s : yS) (P : Option Value → yS → Prop) : Prop :=
  ∃ (I : Nat → Nat → Int32 → Int32 → Int32 → yS → Prop), I a1 a2 a3 a4 a5 s ∧ ∀ (a1 : Nat) (a2 : Nat) (a3 : Int32) (a4 : Int32) (a5 : Int32) (s : yS), I a1 a2 a3 a4 a5 s → ub_181_7 T I a1 a2 a3 a4 a5 s P
theorem lkl_181_7 {d N0 : Nat}  {a1 : Nat} {a2 : Nat} {a3 : Int32} {a4 : Int32} {a5 : Int32} {s : yS} {P : Option Value → yS → Prop}  (h : ubl_181_7 (Par d)  a1 a2 a3 a4 a5 s P) : Lb d N0 8 (some .int) xE_181 (xE_181.drop 7) [.ref 213, .ref a1, .ref a2, .int a3, .int a4, .int a5, .null, .null, .null, .null, .null, .null] [] s P := by
  obtain ⟨I, h0, h1⟩ := h
  have key : ∀ (m : Nat), m ≤ N0 → ∀ (a1 : Nat) (a2 : Nat) (a3 : Int32) (a4 : Int32) (a5 : Int32) (s : yS), I a1 a2 a3 a4 a5 s → Lb d m 8 (some .int) xE_181 (xE_181.drop 7) [.ref 213, .ref a1, .ref a2, .int a3, .int a4, .int a5, .null, .null, .null, .null, .null, .null] [] s P := by
    intro m
    induction m with
    | zero => exact fun _ a1 a2 a3 a4 a5 s _ => Lb_0
    | succ m ih =>
      intro hm
      replace hm : m ≤ N0 := Nat.le_of_succ_le hm
      replace ih := ih hm
      intro a1 a2 a3 a4 a5 s hI
      exact lk_181_7 ih (h1 a1 a2 a3 a4 a5 s hI)
  exact key N0 (Nat.le_refl _) a1 a2 a3 a4 a5 s h0
def ub_181_0 (T : Nat → List Value → yS → (Option Value → yS → Prop) → Prop)  (a1 : Nat) (a2 : Nat) (a3 : Int32) (s : yS) (P : Option Value → yS → Prop) : Prop :=
  T 167 [.ref 213, .int 91] s (fun v2 s1 => v2 = none ∧ (ubl_181_7 T  a1 a2 a3 0 1  s1 P))
set_option maxRecDepth 20000 in
theorem lk_181_0 {d N0 : Nat}  {a1 : Nat} {a2 : Nat} {a3 : Int32} {s : yS} {P : Option Value → yS → Prop}  (h : ub_181_0 (Par d)  a1 a2 a3 s P) : Lb d N0 8 (some .int) xE_181 (xE_181.drop 0) [.ref 213, .ref a1, .ref a2, .int a3, .null, .null, .null, .null, .null, .null, .null, .null] [] s P := by
  unfold ub_181_0 at h
  refine Lb_w (lb_ld rfl rfl rfl ?_)
  refine Lb_w (lb_c [.int 91, .ref 213] (xo_push (.int 91)) rfl rfl ?_)
  refine Lb_w (lb_call [.ref 213, .int 91] [] rfl rfl rfl (Par.imp h (fun v2 s1 h => ?_)))
  obtain ⟨rfl, h⟩ := h
  change Lb _ _ _ _ _ _ _ [] _ _
  refine Lb_w (lb_c [.int 0] (xo_push (.int 0)) rfl rfl ?_)
  refine Lb_w (lb_st [.ref 213, .ref a1, .ref a2, .int a3, .int 0, .null, .null, .null, .null, .null, .null, .null] rfl rfl rfl ?_)
  refine Lb_w (lb_c [.int 1] (xo_push (.int 1)) rfl rfl ?_)
  refine Lb_w (lb_st [.ref 213, .ref a1, .ref a2, .int a3, .int 0, .int 1, .null, .null, .null, .null, .null, .null] rfl rfl rfl ?_)
  exact lkl_181_7  h
theorem pb_181 {d : Nat} {a1 : Nat} {a2 : Nat} {a3 : Int32} {s : yS} {P : Option Value → yS → Prop} (h : ub_181_0 (Par d) a1 a2 a3 s P) : Par (d + 1) 181 [.ref 213, .ref a1, .ref a2, .int a3] s P := par_of (E := xE_181) (ml := 8) (ret := some .int) rfl (fun _ => lk_181_0 h)
/-! readField -/
def ub_182_66 (T : Nat → List Value → yS → (Option Value → yS → Prop) → Prop)  (a1 : Int32) (a2 : Int32) (a3 : Int32) (s : yS) (P : Option Value → yS → Prop) : Prop :=
  P none s
set_option maxRecDepth 20000 in
theorem lk_182_66 {d N0 : Nat}  {a1 : Int32} {a2 : Int32} {a3 : Int32} {s : yS} {P : Option Value → yS → Prop}  (h : ub_182_66 (Par d)  a1 a2 a3 s P) : Lb d N0 4 (none) xE_182 (xE_182.drop 66) [.ref 213, .int a1, .int a2, .int a3, .null, .null] [] s P := by
  unfold ub_182_66 at h
  exact Lb_w (lb_ret0 rfl h)
def ub_182_27 (T : Nat → List Value → yS → (Option Value → yS → Prop) → Prop)  (a1 : Int32) (a2 : Int32) (t0 : Int32) (s : yS) (P : Option Value → yS → Prop) : Prop :=
  T 167 [.ref 213, .int 59] s (fun v2 s1 => v2 = none ∧ ((¬ ((s1.1 8).toInt = 0) → ub_182_66 T  a1 a2 t0  s1 P) ∧ ((s1.1 8).toInt = 0 → ((-2147483648 ≤ 6 * a1.toInt ∧ 6 * a1.toInt ≤ 2147483647) → ∀ x3 : Int32, x3.toInt = 6 * a1.toInt → ((0 ≤ a1.toInt ∧ a1.toInt < 48) → ((-2147483648 ≤ x3.toInt + (s1.2.1 239 a1.toInt.toNat).toInt ∧ x3.toInt + (s1.2.1 239 a1.toInt.toNat).toInt ≤ 2147483647) → ∀ x4 : Int32, x4.toInt = x3.toInt + (s1.2.1 239 a1.toInt.toNat).toInt → ((0 ≤ x4.toInt ∧ x4.toInt < 288) → ∀ s5, s5 = sa s1 240 x4.toInt.toNat a2 → ((-2147483648 ≤ 6 * a1.toInt ∧ 6 * a1.toInt ≤ 2147483647) → ∀ x6 : Int32, x6.toInt = 6 * a1.toInt → ((0 ≤ a1.toInt ∧ a1.toInt < 48) → ((-2147483648 ≤ x6.toInt + (s5.2.1 239 a1.toInt.toNat).toInt ∧ x6.toInt + (s5.2.1 239 a1.toInt.toNat).toInt ≤ 2147483647) → ∀ x7 : Int32, x7.toInt = x6.toInt + (s5.2.1 239 a1.toInt.toNat).toInt → ((0 ≤ x7.toInt ∧ x7.toInt < 288) → ∀ s8, s8 = sa s5 241 x7.toInt.toNat t0 → ((0 ≤ a1.toInt ∧ a1.toInt < 48) → ((-2147483648 ≤ (s8.2.1 239 a1.toInt.toNat).toInt + 1 ∧ (s8.2.1 239 a1.toInt.toNat).toInt + 1 ≤ 2147483647) → ∀ x9 : Int32, x9.toInt = (s8.2.1 239 a1.toInt.toNat).toInt + 1 → ((0 ≤ a1.toInt ∧ a1.toInt < 48) → ∀ s10, s10 = sa s8 239 a1.toInt.toNat x9 → ub_182_66 T  a1 a2 t0  s10 P))))))))))))))
set_option maxRecDepth 20000 in
theorem lk_182_27 {d N0 : Nat}  {a1 : Int32} {a2 : Int32} {t0 : Int32} {s : yS} {P : Option Value → yS → Prop}  (h : ub_182_27 (Par d)  a1 a2 t0 s P) : Lb d N0 4 (none) xE_182 (xE_182.drop 27) [.ref 213, .int a1, .int a2, .null, .null, .null] [.int t0] s P := by
  unfold ub_182_27 at h
  refine Lb_w (lb_st [.ref 213, .int a1, .int a2, .int t0, .null, .null] rfl rfl rfl ?_)
  refine Lb_w (lb_ld rfl rfl rfl ?_)
  refine Lb_w (lb_c [.int 59, .ref 213] (xo_push (.int 59)) rfl rfl ?_)
  refine Lb_w (lb_call [.ref 213, .int 59] [] rfl rfl rfl (Par.imp h (fun v2 s1 h => ?_)))
  obtain ⟨rfl, h⟩ := h
  change Lb _ _ _ _ _ _ _ [] _ _
  refine Lb_w (lb_ld rfl rfl rfl ?_)
  refine Lb_w (lb_get rfl rfl ?_)
  change Lb _ _ _ _ _ _ _ [.int (s1.1 8)] _ _
  refine Lb_w (lb_brN rfl rfl ⟨fun hc => ?_, fun hc => ?_⟩)
  · replace h := h.1 (fun q => hc ((i_eq (x := s1.1 8) (y := 0) rfl (show (0 : Int32).toInt = 0 by decide)).mpr q))
    exact lk_182_66  h
  · replace h := h.2 ((i_eq (x := s1.1 8) (y := 0) rfl (show (0 : Int32).toInt = 0 by decide)).mp hc)
    refine Lb_w (lb_ld rfl rfl rfl ?_)
    refine Lb_w (lb_get rfl rfl ?_)
    change Lb _ _ _ _ _ _ _ [.ref 240] _ _
    refine Lb_w (lb_c [.int 6, .ref 240] (xo_push (.int 6)) rfl rfl ?_)
    refine Lb_w (lb_ld rfl rfl rfl ?_)
    refine Lb_w (lb_ca [.int (6 * a1), .ref 240] xo_imul rfl rfl (fun _ hk => ?_))
    replace hk := kc_mul (x := 6) (y := a1) (show (6 : Int32).toInt = 6 by decide) rfl hk
    replace h := h hk _ (i_mul (x := 6) (y := a1) (show (6 : Int32).toInt = 6 by decide) rfl hk)
    refine Lb_w (lb_ld rfl rfl rfl ?_)
    refine Lb_w (lb_get rfl rfl ?_)
    change Lb _ _ _ _ _ _ _ [.ref 239, .int (6 * a1), .ref 240] _ _
    refine Lb_w (lb_ld rfl rfl rfl ?_)
    refine Lb_w (lb_ial rfl rfl (fun hk => ?_))
    change Lb _ _ _ _ _ _ _ [.int (s1.2.1 239 a1.toInt.toNat), .int (6 * a1), .ref 240] _ _
    replace h := h (kc_in (x := a1) rfl hk)
    refine Lb_w (lb_ca [.int ((6 * a1) + (s1.2.1 239 a1.toInt.toNat)), .ref 240] xo_iadd rfl rfl (fun _ hk => ?_))
    replace hk := kc_add (x := (6 * a1)) (y := s1.2.1 239 a1.toInt.toNat) rfl rfl hk
    replace h := h hk _ (i_add (x := (6 * a1)) (y := s1.2.1 239 a1.toInt.toNat) rfl rfl hk)
    refine Lb_w (lb_ld rfl rfl rfl ?_)
    refine Lb_w (lb_ias rfl rfl (fun hk => ?_))
    replace h := h (kc_in (x := ((6 * a1) + (s1.2.1 239 a1.toInt.toNat))) rfl hk)
    replace h := h _ rfl
    refine Lb_w (lb_ld rfl rfl rfl ?_)
    refine Lb_w (lb_get rfl rfl ?_)
    change Lb _ _ _ _ _ _ _ [.ref 241] _ _
    refine Lb_w (lb_c [.int 6, .ref 241] (xo_push (.int 6)) rfl rfl ?_)
    refine Lb_w (lb_ld rfl rfl rfl ?_)
    refine Lb_w (lb_ca [.int (6 * a1), .ref 241] xo_imul rfl rfl (fun _ hk => ?_))
    replace hk := kc_mul (x := 6) (y := a1) (show (6 : Int32).toInt = 6 by decide) rfl hk
    replace h := h hk _ (i_mul (x := 6) (y := a1) (show (6 : Int32).toInt = 6 by decide) rfl hk)
    refine Lb_w (lb_ld rfl rfl rfl ?_)
    refine Lb_w (lb_get rfl rfl ?_)
    change Lb _ _ _ _ _ _ _ [.ref 239, .int (6 * a1), .ref 241] _ _
    refine Lb_w (lb_ld rfl rfl rfl ?_)
    refine Lb_w (lb_ial rfl rfl (fun hk => ?_))
    change Lb _ _ _ _ _ _ _ [.int ((sa s1 240 ((6 * a1) + (s1.2.1 239 a1.toInt.toNat)).toInt.toNat a2).2.1 239 a1.toInt.toNat), .int (6 * a1), .ref 241] _ _
    replace h := h (kc_in (x := a1) rfl hk)
    refine Lb_w (lb_ca [.int ((6 * a1) + ((sa s1 240 ((6 * a1) + (s1.2.1 239 a1.toInt.toNat)).toInt.toNat a2).2.1 239 a1.toInt.toNat)), .ref 241] xo_iadd rfl rfl (fun _ hk => ?_))
    replace hk := kc_add (x := (6 * a1)) (y := (sa s1 240 ((6 * a1) + (s1.2.1 239 a1.toInt.toNat)).toInt.toNat a2).2.1 239 a1.toInt.toNat) rfl rfl hk
    replace h := h hk _ (i_add (x := (6 * a1)) (y := (sa s1 240 ((6 * a1) + (s1.2.1 239 a1.toInt.toNat)).toInt.toNat a2).2.1 239 a1.toInt.toNat) rfl rfl hk)
    refine Lb_w (lb_ld rfl rfl rfl ?_)
    refine Lb_w (lb_ias rfl rfl (fun hk => ?_))
    replace h := h (kc_in (x := ((6 * a1) + ((sa s1 240 ((6 * a1) + (s1.2.1 239 a1.toInt.toNat)).toInt.toNat a2).2.1 239 a1.toInt.toNat))) rfl hk)
    replace h := h _ rfl
    refine Lb_w (lb_ld rfl rfl rfl ?_)
    refine Lb_w (lb_get rfl rfl ?_)
    change Lb _ _ _ _ _ _ _ [.ref 239] _ _
    refine Lb_w (lb_ld rfl rfl rfl ?_)
    refine Lb_w (lb_c [.int a1, .ref 239, .int a1, .ref 239] xo_dup2 rfl rfl ?_)
    refine Lb_w (lb_ial rfl rfl (fun hk => ?_))
    change Lb _ _ _ _ _ _ _ [.int ((sa (sa s1 240 ((6 * a1) + (s1.2.1 239 a1.toInt.toNat)).toInt.toNat a2) 241 ((6 * a1) + ((sa s1 240 ((6 * a1) + (s1.2.1 239 a1.toInt.toNat)).toInt.toNat a2).2.1 239 a1.toInt.toNat)).toInt.toNat t0).2.1 239 a1.toInt.toNat), .int a1, .ref 239] _ _
    replace h := h (kc_in (x := a1) rfl hk)
    refine Lb_w (lb_c [.int 1, .int ((sa (sa s1 240 ((6 * a1) + (s1.2.1 239 a1.toInt.toNat)).toInt.toNat a2) 241 ((6 * a1) + ((sa s1 240 ((6 * a1) + (s1.2.1 239 a1.toInt.toNat)).toInt.toNat a2).2.1 239 a1.toInt.toNat)).toInt.toNat t0).2.1 239 a1.toInt.toNat), .int a1, .ref 239] (xo_push (.int 1)) rfl rfl ?_)
    refine Lb_w (lb_ca [.int (((sa (sa s1 240 ((6 * a1) + (s1.2.1 239 a1.toInt.toNat)).toInt.toNat a2) 241 ((6 * a1) + ((sa s1 240 ((6 * a1) + (s1.2.1 239 a1.toInt.toNat)).toInt.toNat a2).2.1 239 a1.toInt.toNat)).toInt.toNat t0).2.1 239 a1.toInt.toNat) + 1), .int a1, .ref 239] xo_iadd rfl rfl (fun _ hk => ?_))
    replace hk := kc_add (x := (sa (sa s1 240 ((6 * a1) + (s1.2.1 239 a1.toInt.toNat)).toInt.toNat a2) 241 ((6 * a1) + ((sa s1 240 ((6 * a1) + (s1.2.1 239 a1.toInt.toNat)).toInt.toNat a2).2.1 239 a1.toInt.toNat)).toInt.toNat t0).2.1 239 a1.toInt.toNat) (y := 1) rfl (show (1 : Int32).toInt = 1 by decide) hk
    replace h := h hk _ (i_add (x := (sa (sa s1 240 ((6 * a1) + (s1.2.1 239 a1.toInt.toNat)).toInt.toNat a2) 241 ((6 * a1) + ((sa s1 240 ((6 * a1) + (s1.2.1 239 a1.toInt.toNat)).toInt.toNat a2).2.1 239 a1.toInt.toNat)).toInt.toNat t0).2.1 239 a1.toInt.toNat) (y := 1) rfl (show (1 : Int32).toInt = 1 by decide) hk)
    refine Lb_w (lb_ias rfl rfl (fun hk => ?_))
    replace h := h (kc_in (x := a1) rfl hk)
    replace h := h _ rfl
    exact lk_182_66  h
def ub_182_14 (T : Nat → List Value → yS → (Option Value → yS → Prop) → Prop)  (a1 : Int32) (s : yS) (P : Option Value → yS → Prop) : Prop :=
  T 170 [.ref 213] s (fun v2 s1 => ∃ x3, v2 = some (.int x3) ∧ (∀ s4, s4 = sf s1 27 0 → (¬ ((s4.1 8).toInt = 0) → ub_182_27 T  a1 x3 (-1) s4 P) ∧ ((s4.1 8).toInt = 0 → T 173 [.ref 213] s4 (fun v6 s5 => ∃ x7, v6 = some (.int x7) ∧ (ub_182_27 T  a1 x3 x7 s5 P)))))
set_option maxRecDepth 20000 in
theorem lk_182_14 {d N0 : Nat}  {a1 : Int32} {s : yS} {P : Option Value → yS → Prop}  (h : ub_182_14 (Par d)  a1 s P) : Lb d N0 4 (none) xE_182 (xE_182.drop 14) [.ref 213, .int a1, .null, .null, .null, .null] [] s P := by
  unfold ub_182_14 at h
  refine Lb_w (lb_ld rfl rfl rfl ?_)
  refine Lb_w (lb_call [.ref 213] [] rfl rfl rfl (Par.imp h (fun v2 s1 h => ?_)))
  obtain ⟨x3, rfl, h⟩ := h
  change Lb _ _ _ _ _ _ _ [.int x3] _ _
  refine Lb_w (lb_st [.ref 213, .int a1, .int x3, .null, .null, .null] rfl rfl rfl ?_)
  refine Lb_w (lb_ld rfl rfl rfl ?_)
  refine Lb_w (lb_c [.int 0, .ref 213] (xo_push (.int 0)) rfl rfl ?_)
  refine Lb_w (lb_put rfl rfl (fun hk => ?_))
  replace h := h _ rfl
  refine Lb_w (lb_ld rfl rfl rfl ?_)
  refine Lb_w (lb_get rfl rfl ?_)
  change Lb _ _ _ _ _ _ _ [.int ((sf s1 27 0).1 8)] _ _
  refine Lb_w (lb_brN rfl rfl ⟨fun hc => ?_, fun hc => ?_⟩)
  · replace h := h.1 (fun q => hc ((i_eq (x := (sf s1 27 0).1 8) (y := 0) rfl (show (0 : Int32).toInt = 0 by decide)).mpr q))
    refine Lb_w (lb_c [.int (-1)] (xo_push (.int (-1))) rfl rfl ?_)
    exact lk_182_27  h
  · replace h := h.2 ((i_eq (x := (sf s1 27 0).1 8) (y := 0) rfl (show (0 : Int32).toInt = 0 by decide)).mp hc)
    refine Lb_w (lb_ld rfl rfl rfl ?_)
    refine Lb_w (lb_call [.ref 213] [] rfl rfl rfl (Par.imp h (fun v6 s5 h => ?_)))
    obtain ⟨x7, rfl, h⟩ := h
    change Lb _ _ _ _ _ _ _ [.int x7] _ _
    refine Lb_w (lb_go rfl ?_)
    exact lk_182_27  h
def ub_182_0 (T : Nat → List Value → yS → (Option Value → yS → Prop) → Prop)  (a1 : Int32) (s : yS) (P : Option Value → yS → Prop) : Prop :=
  ((0 ≤ a1.toInt ∧ a1.toInt < 48) → (¬ ((s.2.1 239 a1.toInt.toNat).toInt = 6) → ub_182_14 T  a1  s P) ∧ ((s.2.1 239 a1.toInt.toNat).toInt = 6 → T 166 [.ref 213] s (fun v2 s1 => ∃ x3, v2 = some (.int x3) ∧ ((x3.toInt = 0 → ub_182_14 T  a1  s1 P) ∧ (¬ (x3.toInt = 0) → T 163 [.ref 213, .int 5, .int (s1.1 7)] s1 (fun v5 s4 => v5 = none ∧ (ub_182_14 T  a1  s4 P)))))))
set_option maxRecDepth 20000 in
theorem lk_182_0 {d N0 : Nat}  {a1 : Int32} {s : yS} {P : Option Value → yS → Prop}  (h : ub_182_0 (Par d)  a1 s P) : Lb d N0 4 (none) xE_182 (xE_182.drop 0) [.ref 213, .int a1, .null, .null, .null, .null] [] s P := by
  unfold ub_182_0 at h
  refine Lb_w (lb_ld rfl rfl rfl ?_)
  refine Lb_w (lb_get rfl rfl ?_)
  change Lb _ _ _ _ _ _ _ [.ref 239] _ _
  refine Lb_w (lb_ld rfl rfl rfl ?_)
  refine Lb_w (lb_ial rfl rfl (fun hk => ?_))
  change Lb _ _ _ _ _ _ _ [.int (s.2.1 239 a1.toInt.toNat)] _ _
  replace h := h (kc_in (x := a1) rfl hk)
  refine Lb_w (lb_c [.int 6, .int (s.2.1 239 a1.toInt.toNat)] (xo_push (.int 6)) rfl rfl ?_)
  refine Lb_w (lb_brN rfl rfl ⟨fun hc => ?_, fun hc => ?_⟩)
  · replace h := h.1 (fun q => hc ((i_eq (x := s.2.1 239 a1.toInt.toNat) (y := 6) rfl (show (6 : Int32).toInt = 6 by decide)).mpr q))
    exact lk_182_14  h
  · replace h := h.2 ((i_eq (x := s.2.1 239 a1.toInt.toNat) (y := 6) rfl (show (6 : Int32).toInt = 6 by decide)).mp hc)
    refine Lb_w (lb_ld rfl rfl rfl ?_)
    refine Lb_w (lb_call [.ref 213] [] rfl rfl rfl (Par.imp h (fun v2 s1 h => ?_)))
    obtain ⟨x3, rfl, h⟩ := h
    change Lb _ _ _ _ _ _ _ [.int x3] _ _
    refine Lb_w (lb_brP rfl rfl ⟨fun hc => ?_, fun hc => ?_⟩)
    · replace h := h.1 ((i_eq (x := x3) (y := 0) rfl (show (0 : Int32).toInt = 0 by decide)).mp hc)
      exact lk_182_14  h
    · replace h := h.2 (fun q => hc ((i_eq (x := x3) (y := 0) rfl (show (0 : Int32).toInt = 0 by decide)).mpr q))
      refine Lb_w (lb_ld rfl rfl rfl ?_)
      refine Lb_w (lb_c [.int 5, .ref 213] (xo_push (.int 5)) rfl rfl ?_)
      refine Lb_w (lb_ld rfl rfl rfl ?_)
      refine Lb_w (lb_get rfl rfl ?_)
      change Lb _ _ _ _ _ _ _ [.int (s1.1 7), .int 5, .ref 213] _ _
      refine Lb_w (lb_call [.ref 213, .int 5, .int (s1.1 7)] [] rfl rfl rfl (Par.imp h (fun v5 s4 h => ?_)))
      obtain ⟨rfl, h⟩ := h
      change Lb _ _ _ _ _ _ _ [] _ _
      exact lk_182_14  h
theorem pb_182 {d : Nat} {a1 : Int32} {s : yS} {P : Option Value → yS → Prop} (h : ub_182_0 (Par d) a1 s P) : Par (d + 1) 182 [.ref 213, .int a1] s P := par_of (E := xE_182) (ml := 4) (ret := none) rfl (fun _ => lk_182_0 h)
/-! readHead -/
def ub_183_140 (T : Nat → List Value → yS → (Option Value → yS → Prop) → Prop)  (a1 : Int32) (a2 : Int32) (t1 : Int32) (t2 : Int32) (s : yS) (P : Option Value → yS → Prop) : Prop :=
  ((0 ≤ t1.toInt ∧ t1.toInt < 408) → ∀ s1, s1 = sa s 251 t1.toInt.toNat t2 → ((-2147483648 ≤ (s1.1 42).toInt + 1 ∧ (s1.1 42).toInt + 1 ≤ 2147483647) → ∀ x2 : Int32, x2.toInt = (s1.1 42).toInt + 1 → ∀ s3, s3 = sf s1 42 x2 → P none s3))
set_option maxRecDepth 20000 in
theorem lk_183_140 {d N0 : Nat}  {a1 : Int32} {a2 : Int32} {t1 : Int32} {t2 : Int32} {s : yS} {P : Option Value → yS → Prop}  (h : ub_183_140 (Par d)  a1 a2 t1 t2 s P) : Lb d N0 5 (none) xE_183 (xE_183.drop 140) [.ref 213, .int a1, .int a2, .null, .null, .null] [.int t2, .int t1, .ref 251] s P := by
  unfold ub_183_140 at h
  refine Lb_w (lb_ias rfl rfl (fun hk => ?_))
  replace h := h (kc_in (x := t1) rfl hk)
  replace h := h _ rfl
  refine Lb_w (lb_ld rfl rfl rfl ?_)
  refine Lb_w (lb_c [.ref 213, .ref 213] xo_dup rfl rfl ?_)
  refine Lb_w (lb_get rfl rfl ?_)
  change Lb _ _ _ _ _ _ _ [.int ((sa s 251 t1.toInt.toNat t2).1 42), .ref 213] _ _
  refine Lb_w (lb_c [.int 1, .int ((sa s 251 t1.toInt.toNat t2).1 42), .ref 213] (xo_push (.int 1)) rfl rfl ?_)
  refine Lb_w (lb_ca [.int (((sa s 251 t1.toInt.toNat t2).1 42) + 1), .ref 213] xo_iadd rfl rfl (fun _ hk => ?_))
  replace hk := kc_add (x := (sa s 251 t1.toInt.toNat t2).1 42) (y := 1) rfl (show (1 : Int32).toInt = 1 by decide) hk
  replace h := h hk _ (i_add (x := (sa s 251 t1.toInt.toNat t2).1 42) (y := 1) rfl (show (1 : Int32).toInt = 1 by decide) hk)
  refine Lb_w (lb_put rfl rfl (fun hk => ?_))
  replace h := h _ rfl
  exact Lb_w (lb_ret0 rfl h)
def ub_183_124 (T : Nat → List Value → yS → (Option Value → yS → Prop) → Prop)  (a1 : Int32) (a2 : Int32) (s : yS) (P : Option Value → yS → Prop) : Prop :=
  T 167 [.ref 213, .int 41] s (fun v2 s1 => v2 = none ∧ (∀ s3, s3 = sf s1 27 0 → (¬ ((s3.1 8).toInt = 0) → ub_183_140 T  a1 a2 a1 (-1) s3 P) ∧ ((s3.1 8).toInt = 0 → T 173 [.ref 213] s3 (fun v5 s4 => ∃ x6, v5 = some (.int x6) ∧ (ub_183_140 T  a1 a2 a1 x6 s4 P)))))
set_option maxRecDepth 20000 in
theorem lk_183_124 {d N0 : Nat}  {a1 : Int32} {a2 : Int32} {s : yS} {P : Option Value → yS → Prop}  (h : ub_183_124 (Par d)  a1 a2 s P) : Lb d N0 5 (none) xE_183 (xE_183.drop 124) [.ref 213, .int a1, .int a2, .null, .null, .null] [] s P := by
  unfold ub_183_124 at h
  refine Lb_w (lb_ld rfl rfl rfl ?_)
  refine Lb_w (lb_c [.int 41, .ref 213] (xo_push (.int 41)) rfl rfl ?_)
  refine Lb_w (lb_call [.ref 213, .int 41] [] rfl rfl rfl (Par.imp h (fun v2 s1 h => ?_)))
  obtain ⟨rfl, h⟩ := h
  change Lb _ _ _ _ _ _ _ [] _ _
  refine Lb_w (lb_ld rfl rfl rfl ?_)
  refine Lb_w (lb_c [.int 0, .ref 213] (xo_push (.int 0)) rfl rfl ?_)
  refine Lb_w (lb_put rfl rfl (fun hk => ?_))
  replace h := h _ rfl
  refine Lb_w (lb_ld rfl rfl rfl ?_)
  refine Lb_w (lb_get rfl rfl ?_)
  change Lb _ _ _ _ _ _ _ [.ref 251] _ _
  refine Lb_w (lb_ld rfl rfl rfl ?_)
  refine Lb_w (lb_ld rfl rfl rfl ?_)
  refine Lb_w (lb_get rfl rfl ?_)
  change Lb _ _ _ _ _ _ _ [.int ((sf s1 27 0).1 8), .int a1, .ref 251] _ _
  refine Lb_w (lb_brN rfl rfl ⟨fun hc => ?_, fun hc => ?_⟩)
  · replace h := h.1 (fun q => hc ((i_eq (x := (sf s1 27 0).1 8) (y := 0) rfl (show (0 : Int32).toInt = 0 by decide)).mpr q))
    refine Lb_w (lb_c [.int (-1), .int a1, .ref 251] (xo_push (.int (-1))) rfl rfl ?_)
    exact lk_183_140  h
  · replace h := h.2 ((i_eq (x := (sf s1 27 0).1 8) (y := 0) rfl (show (0 : Int32).toInt = 0 by decide)).mp hc)
    refine Lb_w (lb_ld rfl rfl rfl ?_)
    refine Lb_w (lb_call [.ref 213] [.int a1, .ref 251] rfl rfl rfl (Par.imp h (fun v5 s4 h => ?_)))
    obtain ⟨x6, rfl, h⟩ := h
    change Lb _ _ _ _ _ _ _ [.int x6, .int a1, .ref 251] _ _
    refine Lb_w (lb_go rfl ?_)
    exact lk_183_140  h
def ub_183_119 (T : Nat → List Value → yS → (Option Value → yS → Prop) → Prop) (R51 : Int32 → Int32 → yS → Prop) (a1 : Int32) (a2 : Int32) (a3 : Int32) (a4 : Int32) (s : yS) (P : Option Value → yS → Prop) : Prop :=
  T 168 [.ref 213, .int 44] s (fun v2 s1 => ∃ x3, v2 = some (.int x3) ∧ (R51 a1 x3  s1))
set_option maxRecDepth 20000 in
theorem lk_183_119 {d N0 : Nat} {R51 : Int32 → Int32 → yS → Prop} {a1 : Int32} {a2 : Int32} {a3 : Int32} {a4 : Int32} {s : yS} {P : Option Value → yS → Prop} (r51 : ∀ a1 a2 s, R51 a1 a2 s → Lb d N0 5 (none) xE_183 (xE_183.drop 51) [.ref 213, .int a1, .int a2, .null, .null, .null] [] s P) (h : ub_183_119 (Par d) R51 a1 a2 a3 a4 s P) : Lb d N0 5 (none) xE_183 (xE_183.drop 119) [.ref 213, .int a1, .int a2, .int a3, .int a4, .null] [] s P := by
  unfold ub_183_119 at h
  refine Lb_w (lb_ld rfl rfl rfl ?_)
  refine Lb_w (lb_c [.int 44, .ref 213] (xo_push (.int 44)) rfl rfl ?_)
  refine Lb_w (lb_call [.ref 213, .int 44] [] rfl rfl rfl (Par.imp h (fun v2 s1 h => ?_)))
  obtain ⟨x3, rfl, h⟩ := h
  change Lb _ _ _ _ _ _ _ [.int x3] _ _
  refine Lb_w (lb_st [.ref 213, .int a1, .int x3, .int a3, .int a4, .null] rfl rfl rfl ?_)
  refine Lb_w (lb_go rfl ?_)
  refine lb_fg 3 ?_
  refine lb_fg 4 ?_
  exact r51 a1 x3  s1 h
def ub_183_83 (T : Nat → List Value → yS → (Option Value → yS → Prop) → Prop) (R51 : Int32 → Int32 → yS → Prop) (a1 : Int32) (a2 : Int32) (a3 : Int32) (t0 : Int32) (s : yS) (P : Option Value → yS → Prop) : Prop :=
  (¬ ((s.1 8).toInt = 0) → ub_183_119 T R51 a1 a2 a3 t0  s P) ∧ ((s.1 8).toInt = 0 → ((-2147483648 ≤ 6 * a1.toInt ∧ 6 * a1.toInt ≤ 2147483647) → ∀ x1 : Int32, x1.toInt = 6 * a1.toInt → ((0 ≤ a1.toInt ∧ a1.toInt < 408) → ((-2147483648 ≤ x1.toInt + (s.2.1 248 a1.toInt.toNat).toInt ∧ x1.toInt + (s.2.1 248 a1.toInt.toNat).toInt ≤ 2147483647) → ∀ x2 : Int32, x2.toInt = x1.toInt + (s.2.1 248 a1.toInt.toNat).toInt → ((0 ≤ x2.toInt ∧ x2.toInt < 2448) → ∀ s3, s3 = sa s 249 x2.toInt.toNat a3 → ((-2147483648 ≤ 6 * a1.toInt ∧ 6 * a1.toInt ≤ 2147483647) → ∀ x4 : Int32, x4.toInt = 6 * a1.toInt → ((0 ≤ a1.toInt ∧ a1.toInt < 408) → ((-2147483648 ≤ x4.toInt + (s3.2.1 248 a1.toInt.toNat).toInt ∧ x4.toInt + (s3.2.1 248 a1.toInt.toNat).toInt ≤ 2147483647) → ∀ x5 : Int32, x5.toInt = x4.toInt + (s3.2.1 248 a1.toInt.toNat).toInt → ((0 ≤ x5.toInt ∧ x5.toInt < 2448) → ∀ s6, s6 = sa s3 250 x5.toInt.toNat t0 → ((0 ≤ a1.toInt ∧ a1.toInt < 408) → ((-2147483648 ≤ (s6.2.1 248 a1.toInt.toNat).toInt + 1 ∧ (s6.2.1 248 a1.toInt.toNat).toInt + 1 ≤ 2147483647) → ∀ x7 : Int32, x7.toInt = (s6.2.1 248 a1.toInt.toNat).toInt + 1 → ((0 ≤ a1.toInt ∧ a1.toInt < 408) → ∀ s8, s8 = sa s6 248 a1.toInt.toNat x7 → ub_183_119 T R51 a1 a2 a3 t0  s8 P))))))))))))
set_option maxRecDepth 20000 in
theorem lk_183_83 {d N0 : Nat} {R51 : Int32 → Int32 → yS → Prop} {a1 : Int32} {a2 : Int32} {a3 : Int32} {t0 : Int32} {s : yS} {P : Option Value → yS → Prop} (r51 : ∀ a1 a2 s, R51 a1 a2 s → Lb d N0 5 (none) xE_183 (xE_183.drop 51) [.ref 213, .int a1, .int a2, .null, .null, .null] [] s P) (h : ub_183_83 (Par d) R51 a1 a2 a3 t0 s P) : Lb d N0 5 (none) xE_183 (xE_183.drop 83) [.ref 213, .int a1, .int a2, .int a3, .null, .null] [.int t0] s P := by
  unfold ub_183_83 at h
  refine Lb_w (lb_st [.ref 213, .int a1, .int a2, .int a3, .int t0, .null] rfl rfl rfl ?_)
  refine Lb_w (lb_ld rfl rfl rfl ?_)
  refine Lb_w (lb_get rfl rfl ?_)
  change Lb _ _ _ _ _ _ _ [.int (s.1 8)] _ _
  refine Lb_w (lb_brN rfl rfl ⟨fun hc => ?_, fun hc => ?_⟩)
  · replace h := h.1 (fun q => hc ((i_eq (x := s.1 8) (y := 0) rfl (show (0 : Int32).toInt = 0 by decide)).mpr q))
    exact lk_183_119 r51 h
  · replace h := h.2 ((i_eq (x := s.1 8) (y := 0) rfl (show (0 : Int32).toInt = 0 by decide)).mp hc)
    refine Lb_w (lb_ld rfl rfl rfl ?_)
    refine Lb_w (lb_get rfl rfl ?_)
    change Lb _ _ _ _ _ _ _ [.ref 249] _ _
    refine Lb_w (lb_c [.int 6, .ref 249] (xo_push (.int 6)) rfl rfl ?_)
    refine Lb_w (lb_ld rfl rfl rfl ?_)
    refine Lb_w (lb_ca [.int (6 * a1), .ref 249] xo_imul rfl rfl (fun _ hk => ?_))
    replace hk := kc_mul (x := 6) (y := a1) (show (6 : Int32).toInt = 6 by decide) rfl hk
    replace h := h hk _ (i_mul (x := 6) (y := a1) (show (6 : Int32).toInt = 6 by decide) rfl hk)
    refine Lb_w (lb_ld rfl rfl rfl ?_)
    refine Lb_w (lb_get rfl rfl ?_)
    change Lb _ _ _ _ _ _ _ [.ref 248, .int (6 * a1), .ref 249] _ _
    refine Lb_w (lb_ld rfl rfl rfl ?_)
    refine Lb_w (lb_ial rfl rfl (fun hk => ?_))
    change Lb _ _ _ _ _ _ _ [.int (s.2.1 248 a1.toInt.toNat), .int (6 * a1), .ref 249] _ _
    replace h := h (kc_in (x := a1) rfl hk)
    refine Lb_w (lb_ca [.int ((6 * a1) + (s.2.1 248 a1.toInt.toNat)), .ref 249] xo_iadd rfl rfl (fun _ hk => ?_))
    replace hk := kc_add (x := (6 * a1)) (y := s.2.1 248 a1.toInt.toNat) rfl rfl hk
    replace h := h hk _ (i_add (x := (6 * a1)) (y := s.2.1 248 a1.toInt.toNat) rfl rfl hk)
    refine Lb_w (lb_ld rfl rfl rfl ?_)
    refine Lb_w (lb_ias rfl rfl (fun hk => ?_))
    replace h := h (kc_in (x := ((6 * a1) + (s.2.1 248 a1.toInt.toNat))) rfl hk)
    replace h := h _ rfl
    refine Lb_w (lb_ld rfl rfl rfl ?_)
    refine Lb_w (lb_get rfl rfl ?_)
    change Lb _ _ _ _ _ _ _ [.ref 250] _ _
    refine Lb_w (lb_c [.int 6, .ref 250] (xo_push (.int 6)) rfl rfl ?_)
    refine Lb_w (lb_ld rfl rfl rfl ?_)
    refine Lb_w (lb_ca [.int (6 * a1), .ref 250] xo_imul rfl rfl (fun _ hk => ?_))
    replace hk := kc_mul (x := 6) (y := a1) (show (6 : Int32).toInt = 6 by decide) rfl hk
    replace h := h hk _ (i_mul (x := 6) (y := a1) (show (6 : Int32).toInt = 6 by decide) rfl hk)
    refine Lb_w (lb_ld rfl rfl rfl ?_)
    refine Lb_w (lb_get rfl rfl ?_)
    change Lb _ _ _ _ _ _ _ [.ref 248, .int (6 * a1), .ref 250] _ _
    refine Lb_w (lb_ld rfl rfl rfl ?_)
    refine Lb_w (lb_ial rfl rfl (fun hk => ?_))
    change Lb _ _ _ _ _ _ _ [.int ((sa s 249 ((6 * a1) + (s.2.1 248 a1.toInt.toNat)).toInt.toNat a3).2.1 248 a1.toInt.toNat), .int (6 * a1), .ref 250] _ _
    replace h := h (kc_in (x := a1) rfl hk)
    refine Lb_w (lb_ca [.int ((6 * a1) + ((sa s 249 ((6 * a1) + (s.2.1 248 a1.toInt.toNat)).toInt.toNat a3).2.1 248 a1.toInt.toNat)), .ref 250] xo_iadd rfl rfl (fun _ hk => ?_))
    replace hk := kc_add (x := (6 * a1)) (y := (sa s 249 ((6 * a1) + (s.2.1 248 a1.toInt.toNat)).toInt.toNat a3).2.1 248 a1.toInt.toNat) rfl rfl hk
    replace h := h hk _ (i_add (x := (6 * a1)) (y := (sa s 249 ((6 * a1) + (s.2.1 248 a1.toInt.toNat)).toInt.toNat a3).2.1 248 a1.toInt.toNat) rfl rfl hk)
    refine Lb_w (lb_ld rfl rfl rfl ?_)
    refine Lb_w (lb_ias rfl rfl (fun hk => ?_))
    replace h := h (kc_in (x := ((6 * a1) + ((sa s 249 ((6 * a1) + (s.2.1 248 a1.toInt.toNat)).toInt.toNat a3).2.1 248 a1.toInt.toNat))) rfl hk)
    replace h := h _ rfl
    refine Lb_w (lb_ld rfl rfl rfl ?_)
    refine Lb_w (lb_get rfl rfl ?_)
    change Lb _ _ _ _ _ _ _ [.ref 248] _ _
    refine Lb_w (lb_ld rfl rfl rfl ?_)
    refine Lb_w (lb_c [.int a1, .ref 248, .int a1, .ref 248] xo_dup2 rfl rfl ?_)
    refine Lb_w (lb_ial rfl rfl (fun hk => ?_))
    change Lb _ _ _ _ _ _ _ [.int ((sa (sa s 249 ((6 * a1) + (s.2.1 248 a1.toInt.toNat)).toInt.toNat a3) 250 ((6 * a1) + ((sa s 249 ((6 * a1) + (s.2.1 248 a1.toInt.toNat)).toInt.toNat a3).2.1 248 a1.toInt.toNat)).toInt.toNat t0).2.1 248 a1.toInt.toNat), .int a1, .ref 248] _ _
    replace h := h (kc_in (x := a1) rfl hk)
    refine Lb_w (lb_c [.int 1, .int ((sa (sa s 249 ((6 * a1) + (s.2.1 248 a1.toInt.toNat)).toInt.toNat a3) 250 ((6 * a1) + ((sa s 249 ((6 * a1) + (s.2.1 248 a1.toInt.toNat)).toInt.toNat a3).2.1 248 a1.toInt.toNat)).toInt.toNat t0).2.1 248 a1.toInt.toNat), .int a1, .ref 248] (xo_push (.int 1)) rfl rfl ?_)
    refine Lb_w (lb_ca [.int (((sa (sa s 249 ((6 * a1) + (s.2.1 248 a1.toInt.toNat)).toInt.toNat a3) 250 ((6 * a1) + ((sa s 249 ((6 * a1) + (s.2.1 248 a1.toInt.toNat)).toInt.toNat a3).2.1 248 a1.toInt.toNat)).toInt.toNat t0).2.1 248 a1.toInt.toNat) + 1), .int a1, .ref 248] xo_iadd rfl rfl (fun _ hk => ?_))
    replace hk := kc_add (x := (sa (sa s 249 ((6 * a1) + (s.2.1 248 a1.toInt.toNat)).toInt.toNat a3) 250 ((6 * a1) + ((sa s 249 ((6 * a1) + (s.2.1 248 a1.toInt.toNat)).toInt.toNat a3).2.1 248 a1.toInt.toNat)).toInt.toNat t0).2.1 248 a1.toInt.toNat) (y := 1) rfl (show (1 : Int32).toInt = 1 by decide) hk
    replace h := h hk _ (i_add (x := (sa (sa s 249 ((6 * a1) + (s.2.1 248 a1.toInt.toNat)).toInt.toNat a3) 250 ((6 * a1) + ((sa s 249 ((6 * a1) + (s.2.1 248 a1.toInt.toNat)).toInt.toNat a3).2.1 248 a1.toInt.toNat)).toInt.toNat t0).2.1 248 a1.toInt.toNat) (y := 1) rfl (show (1 : Int32).toInt = 1 by decide) hk)
    refine Lb_w (lb_ias rfl rfl (fun hk => ?_))
    replace h := h (kc_in (x := a1) rfl hk)
    replace h := h _ rfl
    exact lk_183_119 r51 h
def ub_183_70 (T : Nat → List Value → yS → (Option Value → yS → Prop) → Prop) (R51 : Int32 → Int32 → yS → Prop) (a1 : Int32) (a2 : Int32) (s : yS) (P : Option Value → yS → Prop) : Prop :=
  T 170 [.ref 213] s (fun v2 s1 => ∃ x3, v2 = some (.int x3) ∧ (∀ s4, s4 = sf s1 27 0 → (¬ ((s4.1 8).toInt = 0) → ub_183_83 T R51 a1 a2 x3 (-1) s4 P) ∧ ((s4.1 8).toInt = 0 → T 173 [.ref 213] s4 (fun v6 s5 => ∃ x7, v6 = some (.int x7) ∧ (ub_183_83 T R51 a1 a2 x3 x7 s5 P)))))
set_option maxRecDepth 20000 in
theorem lk_183_70 {d N0 : Nat} {R51 : Int32 → Int32 → yS → Prop} {a1 : Int32} {a2 : Int32} {s : yS} {P : Option Value → yS → Prop} (r51 : ∀ a1 a2 s, R51 a1 a2 s → Lb d N0 5 (none) xE_183 (xE_183.drop 51) [.ref 213, .int a1, .int a2, .null, .null, .null] [] s P) (h : ub_183_70 (Par d) R51 a1 a2 s P) : Lb d N0 5 (none) xE_183 (xE_183.drop 70) [.ref 213, .int a1, .int a2, .null, .null, .null] [] s P := by
  unfold ub_183_70 at h
  refine Lb_w (lb_ld rfl rfl rfl ?_)
  refine Lb_w (lb_call [.ref 213] [] rfl rfl rfl (Par.imp h (fun v2 s1 h => ?_)))
  obtain ⟨x3, rfl, h⟩ := h
  change Lb _ _ _ _ _ _ _ [.int x3] _ _
  refine Lb_w (lb_st [.ref 213, .int a1, .int a2, .int x3, .null, .null] rfl rfl rfl ?_)
  refine Lb_w (lb_ld rfl rfl rfl ?_)
  refine Lb_w (lb_c [.int 0, .ref 213] (xo_push (.int 0)) rfl rfl ?_)
  refine Lb_w (lb_put rfl rfl (fun hk => ?_))
  replace h := h _ rfl
  refine Lb_w (lb_ld rfl rfl rfl ?_)
  refine Lb_w (lb_get rfl rfl ?_)
  change Lb _ _ _ _ _ _ _ [.int ((sf s1 27 0).1 8)] _ _
  refine Lb_w (lb_brN rfl rfl ⟨fun hc => ?_, fun hc => ?_⟩)
  · replace h := h.1 (fun q => hc ((i_eq (x := (sf s1 27 0).1 8) (y := 0) rfl (show (0 : Int32).toInt = 0 by decide)).mpr q))
    refine Lb_w (lb_c [.int (-1)] (xo_push (.int (-1))) rfl rfl ?_)
    exact lk_183_83 r51 h
  · replace h := h.2 ((i_eq (x := (sf s1 27 0).1 8) (y := 0) rfl (show (0 : Int32).toInt = 0 by decide)).mp hc)
    refine Lb_w (lb_ld rfl rfl rfl ?_)
    refine Lb_w (lb_call [.ref 213] [] rfl rfl rfl (Par.imp h (fun v6 s5 h => ?_)))
    obtain ⟨x7, rfl, h⟩ := h
    change Lb _ _ _ _ _ _ _ [.int x7] _ _
    refine Lb_w (lb_go rfl ?_)
    exact lk_183_83 r51 h
def ub_183_51 (T : Nat → List Value → yS → (Option Value → yS → Prop) → Prop) (R51 : Int32 → Int32 → yS → Prop) (a1 : Int32) (a2 : Int32) (s : yS) (P : Option Value → yS → Prop) : Prop :=
  (a2.toInt = 0 → ub_183_124 T  a1 a2  s P) ∧ (¬ (a2.toInt = 0) → (¬ ((s.1 8).toInt = 0) → ub_183_124 T  a1 a2  s P) ∧ ((s.1 8).toInt = 0 → ((0 ≤ a1.toInt ∧ a1.toInt < 408) → (¬ ((s.2.1 248 a1.toInt.toNat).toInt = 6) → ub_183_70 T R51 a1 a2  s P) ∧ ((s.2.1 248 a1.toInt.toNat).toInt = 6 → T 166 [.ref 213] s (fun v2 s1 => ∃ x3, v2 = some (.int x3) ∧ ((x3.toInt = 0 → ub_183_70 T R51 a1 a2  s1 P) ∧ (¬ (x3.toInt = 0) → T 163 [.ref 213, .int 5, .int (s1.1 7)] s1 (fun v5 s4 => v5 = none ∧ (ub_183_70 T R51 a1 a2  s4 P)))))))))
set_option maxRecDepth 20000 in
theorem lk_183_51 {d N0 : Nat} {R51 : Int32 → Int32 → yS → Prop} {a1 : Int32} {a2 : Int32} {s : yS} {P : Option Value → yS → Prop} (r51 : ∀ a1 a2 s, R51 a1 a2 s → Lb d N0 5 (none) xE_183 (xE_183.drop 51) [.ref 213, .int a1, .int a2, .null, .null, .null] [] s P) (h : ub_183_51 (Par d) R51 a1 a2 s P) : Lb d (N0 + 1) 5 (none) xE_183 (xE_183.drop 51) [.ref 213, .int a1, .int a2, .null, .null, .null] [] s P := by
  unfold ub_183_51 at h
  refine lb_ld rfl rfl rfl ?_
  refine Lb_w (lb_brP rfl rfl ⟨fun hc => ?_, fun hc => ?_⟩)
  · replace h := h.1 ((i_eq (x := a2) (y := 0) rfl (show (0 : Int32).toInt = 0 by decide)).mp hc)
    exact lk_183_124  h
  · replace h := h.2 (fun q => hc ((i_eq (x := a2) (y := 0) rfl (show (0 : Int32).toInt = 0 by decide)).mpr q))
    refine Lb_w (lb_ld rfl rfl rfl ?_)
    refine Lb_w (lb_get rfl rfl ?_)
    change Lb _ _ _ _ _ _ _ [.int (s.1 8)] _ _
    refine Lb_w (lb_brN rfl rfl ⟨fun hc => ?_, fun hc => ?_⟩)
    · replace h := h.1 (fun q => hc ((i_eq (x := s.1 8) (y := 0) rfl (show (0 : Int32).toInt = 0 by decide)).mpr q))
      exact lk_183_124  h
    · replace h := h.2 ((i_eq (x := s.1 8) (y := 0) rfl (show (0 : Int32).toInt = 0 by decide)).mp hc)
      refine Lb_w (lb_ld rfl rfl rfl ?_)
      refine Lb_w (lb_get rfl rfl ?_)
      change Lb _ _ _ _ _ _ _ [.ref 248] _ _
      refine Lb_w (lb_ld rfl rfl rfl ?_)
      refine Lb_w (lb_ial rfl rfl (fun hk => ?_))
      change Lb _ _ _ _ _ _ _ [.int (s.2.1 248 a1.toInt.toNat)] _ _
      replace h := h (kc_in (x := a1) rfl hk)
      refine Lb_w (lb_c [.int 6, .int (s.2.1 248 a1.toInt.toNat)] (xo_push (.int 6)) rfl rfl ?_)
      refine Lb_w (lb_brN rfl rfl ⟨fun hc => ?_, fun hc => ?_⟩)
      · replace h := h.1 (fun q => hc ((i_eq (x := s.2.1 248 a1.toInt.toNat) (y := 6) rfl (show (6 : Int32).toInt = 6 by decide)).mpr q))
        exact lk_183_70 r51 h
      · replace h := h.2 ((i_eq (x := s.2.1 248 a1.toInt.toNat) (y := 6) rfl (show (6 : Int32).toInt = 6 by decide)).mp hc)
        refine Lb_w (lb_ld rfl rfl rfl ?_)
        refine Lb_w (lb_call [.ref 213] [] rfl rfl rfl (Par.imp h (fun v2 s1 h => ?_)))
        obtain ⟨x3, rfl, h⟩ := h
        change Lb _ _ _ _ _ _ _ [.int x3] _ _
        refine Lb_w (lb_brP rfl rfl ⟨fun hc => ?_, fun hc => ?_⟩)
        · replace h := h.1 ((i_eq (x := x3) (y := 0) rfl (show (0 : Int32).toInt = 0 by decide)).mp hc)
          exact lk_183_70 r51 h
        · replace h := h.2 (fun q => hc ((i_eq (x := x3) (y := 0) rfl (show (0 : Int32).toInt = 0 by decide)).mpr q))
          refine Lb_w (lb_ld rfl rfl rfl ?_)
          refine Lb_w (lb_c [.int 5, .ref 213] (xo_push (.int 5)) rfl rfl ?_)
          refine Lb_w (lb_ld rfl rfl rfl ?_)
          refine Lb_w (lb_get rfl rfl ?_)
          change Lb _ _ _ _ _ _ _ [.int (s1.1 7), .int 5, .ref 213] _ _
          refine Lb_w (lb_call [.ref 213, .int 5, .int (s1.1 7)] [] rfl rfl rfl (Par.imp h (fun v5 s4 h => ?_)))
          obtain ⟨rfl, h⟩ := h
          change Lb _ _ _ _ _ _ _ [] _ _
          exact lk_183_70 r51 h
def ubl_183_51 (T : Nat → List Value → yS → (Option Value → yS → Prop) → Prop)  (a1 : Int32) (a2 : Int32) (s : yS) (P : Option Value → yS → Prop) : Prop :=
  ∃ (I : Int32 → Int32 → yS → Prop), I a1 a2 s ∧ ∀ (a1 : Int32) (a2 : Int32) (s : yS), I a1 a2 s → ub_183_51 T I a1 a2 s P
theorem lkl_183_51 {d N0 : Nat}  {a1 : Int32} {a2 : Int32} {s : yS} {P : Option Value → yS → Prop}  (h : ubl_183_51 (Par d)  a1 a2 s P) : Lb d N0 5 (none) xE_183 (xE_183.drop 51) [.ref 213, .int a1, .int a2, .null, .null, .null] [] s P := by
  obtain ⟨I, h0, h1⟩ := h
  have key : ∀ (m : Nat), m ≤ N0 → ∀ (a1 : Int32) (a2 : Int32) (s : yS), I a1 a2 s → Lb d m 5 (none) xE_183 (xE_183.drop 51) [.ref 213, .int a1, .int a2, .null, .null, .null] [] s P := by
    intro m
    induction m with
    | zero => exact fun _ a1 a2 s _ => Lb_0
    | succ m ih =>
      intro hm
      replace hm : m ≤ N0 := Nat.le_of_succ_le hm
      replace ih := ih hm
      intro a1 a2 s hI
      exact lk_183_51 ih (h1 a1 a2 s hI)
  exact key N0 (Nat.le_refl _) a1 a2 s h0
def ub_183_50 (T : Nat → List Value → yS → (Option Value → yS → Prop) → Prop)  (a1 : Int32) (t0 : Int32) (s : yS) (P : Option Value → yS → Prop) : Prop :=
  ubl_183_51 T  a1 t0  s P
set_option maxRecDepth 20000 in
theorem lk_183_50 {d N0 : Nat}  {a1 : Int32} {t0 : Int32} {s : yS} {P : Option Value → yS → Prop}  (h : ub_183_50 (Par d)  a1 t0 s P) : Lb d N0 5 (none) xE_183 (xE_183.drop 50) [.ref 213, .int a1, .null, .null, .null, .null] [.int t0] s P := by
  unfold ub_183_50 at h
  refine Lb_w (lb_st [.ref 213, .int a1, .int t0, .null, .null, .null] rfl rfl rfl ?_)
  exact lkl_183_51  h
def ub_183_40 (T : Nat → List Value → yS → (Option Value → yS → Prop) → Prop)  (a1 : Int32) (s : yS) (P : Option Value → yS → Prop) : Prop :=
  T 167 [.ref 213, .int 40] s (fun v2 s1 => v2 = none ∧ (T 164 [.ref 213, .int 41] s1 (fun v4 s3 => ∃ x5, v4 = some (.int x5) ∧ ((¬ (x5.toInt = 0) → ub_183_50 T  a1 0 s3 P) ∧ (x5.toInt = 0 → ub_183_50 T  a1 1 s3 P)))))
set_option maxRecDepth 20000 in
theorem lk_183_40 {d N0 : Nat}  {a1 : Int32} {s : yS} {P : Option Value → yS → Prop}  (h : ub_183_40 (Par d)  a1 s P) : Lb d N0 5 (none) xE_183 (xE_183.drop 40) [.ref 213, .int a1, .null, .null, .null, .null] [] s P := by
  unfold ub_183_40 at h
  refine Lb_w (lb_ld rfl rfl rfl ?_)
  refine Lb_w (lb_c [.int 40, .ref 213] (xo_push (.int 40)) rfl rfl ?_)
  refine Lb_w (lb_call [.ref 213, .int 40] [] rfl rfl rfl (Par.imp h (fun v2 s1 h => ?_)))
  obtain ⟨rfl, h⟩ := h
  change Lb _ _ _ _ _ _ _ [] _ _
  refine Lb_w (lb_ld rfl rfl rfl ?_)
  refine Lb_w (lb_c [.int 41, .ref 213] (xo_push (.int 41)) rfl rfl ?_)
  refine Lb_w (lb_call [.ref 213, .int 41] [] rfl rfl rfl (Par.imp h (fun v4 s3 h => ?_)))
  obtain ⟨x5, rfl, h⟩ := h
  change Lb _ _ _ _ _ _ _ [.int x5] _ _
  refine Lb_w (lb_brN rfl rfl ⟨fun hc => ?_, fun hc => ?_⟩)
  · replace h := h.1 (fun q => hc ((i_eq (x := x5) (y := 0) rfl (show (0 : Int32).toInt = 0 by decide)).mpr q))
    refine Lb_w (lb_c [.int 0] (xo_push (.int 0)) rfl rfl ?_)
    exact lk_183_50  h
  · replace h := h.2 ((i_eq (x := x5) (y := 0) rfl (show (0 : Int32).toInt = 0 by decide)).mp hc)
    refine Lb_w (lb_c [.int 1] (xo_push (.int 1)) rfl rfl ?_)
    refine Lb_w (lb_go rfl ?_)
    exact lk_183_50  h
def ub_183_0 (T : Nat → List Value → yS → (Option Value → yS → Prop) → Prop)   (s : yS) (P : Option Value → yS → Prop) : Prop :=
  ((s.1 8).toInt ≤ 0 → T 170 [.ref 213] s (fun v2 s1 => ∃ x3, v2 = some (.int x3) ∧ (((0 ≤ (s.1 42).toInt ∧ (s.1 42).toInt < 408) → ∀ s4, s4 = sa s1 244 (s.1 42).toInt.toNat x3 → ((0 ≤ (s.1 42).toInt ∧ (s.1 42).toInt < 408) → ∀ s5, s5 = sa s4 245 (s.1 42).toInt.toNat 0 → ((0 ≤ (s.1 42).toInt ∧ (s.1 42).toInt < 408) → ∀ s6, s6 = sa s5 248 (s.1 42).toInt.toNat 0 → T 164 [.ref 213, .int 91] s6 (fun v8 s7 => ∃ x9, v8 = some (.int x9) ∧ ((x9.toInt = 0 → ub_183_40 T  (s.1 42)  s7 P) ∧ (¬ (x9.toInt = 0) → ((-2147483648 ≤ 6 * (s.1 42).toInt ∧ 6 * (s.1 42).toInt ≤ 2147483647) → ∀ x10 : Int32, x10.toInt = 6 * (s.1 42).toInt → T 181 [.ref 213, .ref 246, .ref 247, .int x10] s7 (fun v12 s11 => ∃ x13, v12 = some (.int x13) ∧ (((0 ≤ (s.1 42).toInt ∧ (s.1 42).toInt < 408) → ∀ s14, s14 = sa s11 245 (s.1 42).toInt.toNat x13 → ub_183_40 T  (s.1 42)  s14 P))))))))))))) ∧ (¬ ((s.1 8).toInt ≤ 0) → P none s)
set_option maxRecDepth 20000 in
theorem lk_183_0 {d N0 : Nat}   {s : yS} {P : Option Value → yS → Prop}  (h : ub_183_0 (Par d)   s P) : Lb d N0 5 (none) xE_183 (xE_183.drop 0) [.ref 213, .null, .null, .null, .null, .null] [] s P := by
  unfold ub_183_0 at h
  refine Lb_w (lb_ld rfl rfl rfl ?_)
  refine Lb_w (lb_get rfl rfl ?_)
  change Lb _ _ _ _ _ _ _ [.int (s.1 42)] _ _
  refine Lb_w (lb_st [.ref 213, .int (s.1 42), .null, .null, .null, .null] rfl rfl rfl ?_)
  refine Lb_w (lb_ld rfl rfl rfl ?_)
  refine Lb_w (lb_get rfl rfl ?_)
  change Lb _ _ _ _ _ _ _ [.int (s.1 8)] _ _
  refine Lb_w (lb_brP rfl rfl ⟨fun hc => ?_, fun hc => ?_⟩)
  · replace h := h.1 ((i_le (x := s.1 8) (y := 0) rfl (show (0 : Int32).toInt = 0 by decide)).mp hc)
    refine Lb_w (lb_ld rfl rfl rfl ?_)
    refine Lb_w (lb_get rfl rfl ?_)
    change Lb _ _ _ _ _ _ _ [.ref 244] _ _
    refine Lb_w (lb_ld rfl rfl rfl ?_)
    refine Lb_w (lb_ld rfl rfl rfl ?_)
    refine Lb_w (lb_call [.ref 213] [.int (s.1 42), .ref 244] rfl rfl rfl (Par.imp h (fun v2 s1 h => ?_)))
    obtain ⟨x3, rfl, h⟩ := h
    change Lb _ _ _ _ _ _ _ [.int x3, .int (s.1 42), .ref 244] _ _
    refine Lb_w (lb_ias rfl rfl (fun hk => ?_))
    replace h := h (kc_in (x := s.1 42) rfl hk)
    replace h := h _ rfl
    refine Lb_w (lb_ld rfl rfl rfl ?_)
    refine Lb_w (lb_get rfl rfl ?_)
    change Lb _ _ _ _ _ _ _ [.ref 245] _ _
    refine Lb_w (lb_ld rfl rfl rfl ?_)
    refine Lb_w (lb_c [.int 0, .int (s.1 42), .ref 245] (xo_push (.int 0)) rfl rfl ?_)
    refine Lb_w (lb_ias rfl rfl (fun hk => ?_))
    replace h := h (kc_in (x := s.1 42) rfl hk)
    replace h := h _ rfl
    refine Lb_w (lb_ld rfl rfl rfl ?_)
    refine Lb_w (lb_get rfl rfl ?_)
    change Lb _ _ _ _ _ _ _ [.ref 248] _ _
    refine Lb_w (lb_ld rfl rfl rfl ?_)
    refine Lb_w (lb_c [.int 0, .int (s.1 42), .ref 248] (xo_push (.int 0)) rfl rfl ?_)
    refine Lb_w (lb_ias rfl rfl (fun hk => ?_))
    replace h := h (kc_in (x := s.1 42) rfl hk)
    replace h := h _ rfl
    refine Lb_w (lb_ld rfl rfl rfl ?_)
    refine Lb_w (lb_c [.int 91, .ref 213] (xo_push (.int 91)) rfl rfl ?_)
    refine Lb_w (lb_call [.ref 213, .int 91] [] rfl rfl rfl (Par.imp h (fun v8 s7 h => ?_)))
    obtain ⟨x9, rfl, h⟩ := h
    change Lb _ _ _ _ _ _ _ [.int x9] _ _
    refine Lb_w (lb_brP rfl rfl ⟨fun hc => ?_, fun hc => ?_⟩)
    · replace h := h.1 ((i_eq (x := x9) (y := 0) rfl (show (0 : Int32).toInt = 0 by decide)).mp hc)
      exact lk_183_40  h
    · replace h := h.2 (fun q => hc ((i_eq (x := x9) (y := 0) rfl (show (0 : Int32).toInt = 0 by decide)).mpr q))
      refine Lb_w (lb_ld rfl rfl rfl ?_)
      refine Lb_w (lb_get rfl rfl ?_)
      change Lb _ _ _ _ _ _ _ [.ref 245] _ _
      refine Lb_w (lb_ld rfl rfl rfl ?_)
      refine Lb_w (lb_ld rfl rfl rfl ?_)
      refine Lb_w (lb_ld rfl rfl rfl ?_)
      refine Lb_w (lb_get rfl rfl ?_)
      change Lb _ _ _ _ _ _ _ [.ref 246, .ref 213, .int (s.1 42), .ref 245] _ _
      refine Lb_w (lb_ld rfl rfl rfl ?_)
      refine Lb_w (lb_get rfl rfl ?_)
      change Lb _ _ _ _ _ _ _ [.ref 247, .ref 246, .ref 213, .int (s.1 42), .ref 245] _ _
      refine Lb_w (lb_c [.int 6, .ref 247, .ref 246, .ref 213, .int (s.1 42), .ref 245] (xo_push (.int 6)) rfl rfl ?_)
      refine Lb_w (lb_ld rfl rfl rfl ?_)
      refine Lb_w (lb_ca [.int (6 * (s.1 42)), .ref 247, .ref 246, .ref 213, .int (s.1 42), .ref 245] xo_imul rfl rfl (fun _ hk => ?_))
      replace hk := kc_mul (x := 6) (y := s.1 42) (show (6 : Int32).toInt = 6 by decide) rfl hk
      replace h := h hk _ (i_mul (x := 6) (y := s.1 42) (show (6 : Int32).toInt = 6 by decide) rfl hk)
      refine Lb_w (lb_call [.ref 213, .ref 246, .ref 247, .int (6 * (s.1 42))] [.int (s.1 42), .ref 245] rfl rfl rfl (Par.imp h (fun v12 s11 h => ?_)))
      obtain ⟨x13, rfl, h⟩ := h
      change Lb _ _ _ _ _ _ _ [.int x13, .int (s.1 42), .ref 245] _ _
      refine Lb_w (lb_ias rfl rfl (fun hk => ?_))
      replace h := h (kc_in (x := s.1 42) rfl hk)
      replace h := h _ rfl
      exact lk_183_40  h
  · replace h := h.2 (fun q => hc ((i_le (x := s.1 8) (y := 0) rfl (show (0 : Int32).toInt = 0 by decide)).mpr q))
    exact Lb_w (lb_ret0 rfl h)
theorem pb_183 {d : Nat}  {s : yS} {P : Option Value → yS → Prop} (h : ub_183_0 (Par d)  s P) : Par (d + 1) 183 [.ref 213] s P := par_of (E := xE_183) (ml := 5) (ret := none) rfl (fun _ => lk_183_0 h)
/-! readFunc -/
def ub_184_133 (T : Nat → List Value → yS → (Option Value → yS → Prop) → Prop)  (a1 : Int32) (t1 : Int32) (t2 : Int32) (s : yS) (P : Option Value → yS → Prop) : Prop :=
  ((0 ≤ t1.toInt ∧ t1.toInt < 120) → ∀ s1, s1 = sa s 258 t1.toInt.toNat t2 → T 167 [.ref 213, .int 125] s1 (fun v3 s2 => v3 = none ∧ (((-2147483648 ≤ 84 * (s2.1 30).toInt ∧ 84 * (s2.1 30).toInt ≤ 2147483647) → ∀ x4 : Int32, x4.toInt = 84 * (s2.1 30).toInt → ((0 ≤ (s2.1 30).toInt ∧ (s2.1 30).toInt < 2) → ((-2147483648 ≤ x4.toInt + (s2.2.1 263 (s2.1 30).toInt.toNat).toInt ∧ x4.toInt + (s2.2.1 263 (s2.1 30).toInt.toNat).toInt ≤ 2147483647) → ∀ x5 : Int32, x5.toInt = x4.toInt + (s2.2.1 263 (s2.1 30).toInt.toNat).toInt → ((0 ≤ (s2.1 30).toInt ∧ (s2.1 30).toInt < 2) → ((-2147483648 ≤ 100 + (s2.2.1 252 (s2.1 30).toInt.toNat).toInt ∧ 100 + (s2.2.1 252 (s2.1 30).toInt.toNat).toInt ≤ 2147483647) → ∀ x6 : Int32, x6.toInt = 100 + (s2.2.1 252 (s2.1 30).toInt.toNat).toInt → ((0 ≤ x5.toInt ∧ x5.toInt < 168) → ∀ s7, s7 = sa s2 262 x5.toInt.toNat x6 → ((0 ≤ (s7.1 30).toInt ∧ (s7.1 30).toInt < 2) → ((-2147483648 ≤ (s7.2.1 263 (s7.1 30).toInt.toNat).toInt + 1 ∧ (s7.2.1 263 (s7.1 30).toInt.toNat).toInt + 1 ≤ 2147483647) → ∀ x8 : Int32, x8.toInt = (s7.2.1 263 (s7.1 30).toInt.toNat).toInt + 1 → ((0 ≤ (s7.1 30).toInt ∧ (s7.1 30).toInt < 2) → ∀ s9, s9 = sa s7 263 (s7.1 30).toInt.toNat x8 → ((0 ≤ (s9.1 30).toInt ∧ (s9.1 30).toInt < 2) → ((-2147483648 ≤ (s9.2.1 252 (s9.1 30).toInt.toNat).toInt + 1 ∧ (s9.2.1 252 (s9.1 30).toInt.toNat).toInt + 1 ≤ 2147483647) → ∀ x10 : Int32, x10.toInt = (s9.2.1 252 (s9.1 30).toInt.toNat).toInt + 1 → ((0 ≤ (s9.1 30).toInt ∧ (s9.1 30).toInt < 2) → ∀ s11, s11 = sa s9 252 (s9.1 30).toInt.toNat x10 → P none s11)))))))))))))))
set_option maxRecDepth 20000 in
theorem lk_184_133 {d N0 : Nat}  {a1 : Int32} {t1 : Int32} {t2 : Int32} {s : yS} {P : Option Value → yS → Prop}  (h : ub_184_133 (Par d)  a1 t1 t2 s P) : Lb d N0 3 (none) xE_184 (xE_184.drop 133) [.ref 213, .int a1, .null, .null] [.int t2, .int t1, .ref 258] s P := by
  unfold ub_184_133 at h
  refine Lb_w (lb_ias rfl rfl (fun hk => ?_))
  replace h := h (kc_in (x := t1) rfl hk)
  replace h := h _ rfl
  refine Lb_w (lb_ld rfl rfl rfl ?_)
  refine Lb_w (lb_c [.int 125, .ref 213] (xo_push (.int 125)) rfl rfl ?_)
  refine Lb_w (lb_call [.ref 213, .int 125] [] rfl rfl rfl (Par.imp h (fun v3 s2 h => ?_)))
  obtain ⟨rfl, h⟩ := h
  change Lb _ _ _ _ _ _ _ [] _ _
  refine Lb_w (lb_ld rfl rfl rfl ?_)
  refine Lb_w (lb_get rfl rfl ?_)
  change Lb _ _ _ _ _ _ _ [.ref 262] _ _
  refine Lb_w (lb_c [.int 84, .ref 262] (xo_push (.int 84)) rfl rfl ?_)
  refine Lb_w (lb_ld rfl rfl rfl ?_)
  refine Lb_w (lb_get rfl rfl ?_)
  change Lb _ _ _ _ _ _ _ [.int (s2.1 30), .int 84, .ref 262] _ _
  refine Lb_w (lb_ca [.int (84 * (s2.1 30)), .ref 262] xo_imul rfl rfl (fun _ hk => ?_))
  replace hk := kc_mul (x := 84) (y := s2.1 30) (show (84 : Int32).toInt = 84 by decide) rfl hk
  replace h := h hk _ (i_mul (x := 84) (y := s2.1 30) (show (84 : Int32).toInt = 84 by decide) rfl hk)
  refine Lb_w (lb_ld rfl rfl rfl ?_)
  refine Lb_w (lb_get rfl rfl ?_)
  change Lb _ _ _ _ _ _ _ [.ref 263, .int (84 * (s2.1 30)), .ref 262] _ _
  refine Lb_w (lb_ld rfl rfl rfl ?_)
  refine Lb_w (lb_get rfl rfl ?_)
  change Lb _ _ _ _ _ _ _ [.int (s2.1 30), .ref 263, .int (84 * (s2.1 30)), .ref 262] _ _
  refine Lb_w (lb_ial rfl rfl (fun hk => ?_))
  change Lb _ _ _ _ _ _ _ [.int (s2.2.1 263 (s2.1 30).toInt.toNat), .int (84 * (s2.1 30)), .ref 262] _ _
  replace h := h (kc_in (x := s2.1 30) rfl hk)
  refine Lb_w (lb_ca [.int ((84 * (s2.1 30)) + (s2.2.1 263 (s2.1 30).toInt.toNat)), .ref 262] xo_iadd rfl rfl (fun _ hk => ?_))
  replace hk := kc_add (x := (84 * (s2.1 30))) (y := s2.2.1 263 (s2.1 30).toInt.toNat) rfl rfl hk
  replace h := h hk _ (i_add (x := (84 * (s2.1 30))) (y := s2.2.1 263 (s2.1 30).toInt.toNat) rfl rfl hk)
  refine Lb_w (lb_c [.int 100, .int ((84 * (s2.1 30)) + (s2.2.1 263 (s2.1 30).toInt.toNat)), .ref 262] (xo_push (.int 100)) rfl rfl ?_)
  refine Lb_w (lb_ld rfl rfl rfl ?_)
  refine Lb_w (lb_get rfl rfl ?_)
  change Lb _ _ _ _ _ _ _ [.ref 252, .int 100, .int ((84 * (s2.1 30)) + (s2.2.1 263 (s2.1 30).toInt.toNat)), .ref 262] _ _
  refine Lb_w (lb_ld rfl rfl rfl ?_)
  refine Lb_w (lb_get rfl rfl ?_)
  change Lb _ _ _ _ _ _ _ [.int (s2.1 30), .ref 252, .int 100, .int ((84 * (s2.1 30)) + (s2.2.1 263 (s2.1 30).toInt.toNat)), .ref 262] _ _
  refine Lb_w (lb_ial rfl rfl (fun hk => ?_))
  change Lb _ _ _ _ _ _ _ [.int (s2.2.1 252 (s2.1 30).toInt.toNat), .int 100, .int ((84 * (s2.1 30)) + (s2.2.1 263 (s2.1 30).toInt.toNat)), .ref 262] _ _
  replace h := h (kc_in (x := s2.1 30) rfl hk)
  refine Lb_w (lb_ca [.int (100 + (s2.2.1 252 (s2.1 30).toInt.toNat)), .int ((84 * (s2.1 30)) + (s2.2.1 263 (s2.1 30).toInt.toNat)), .ref 262] xo_iadd rfl rfl (fun _ hk => ?_))
  replace hk := kc_add (x := 100) (y := s2.2.1 252 (s2.1 30).toInt.toNat) (show (100 : Int32).toInt = 100 by decide) rfl hk
  replace h := h hk _ (i_add (x := 100) (y := s2.2.1 252 (s2.1 30).toInt.toNat) (show (100 : Int32).toInt = 100 by decide) rfl hk)
  refine Lb_w (lb_ias rfl rfl (fun hk => ?_))
  replace h := h (kc_in (x := ((84 * (s2.1 30)) + (s2.2.1 263 (s2.1 30).toInt.toNat))) rfl hk)
  replace h := h _ rfl
  refine Lb_w (lb_ld rfl rfl rfl ?_)
  refine Lb_w (lb_get rfl rfl ?_)
  change Lb _ _ _ _ _ _ _ [.ref 263] _ _
  refine Lb_w (lb_ld rfl rfl rfl ?_)
  refine Lb_w (lb_get rfl rfl ?_)
  change Lb _ _ _ _ _ _ _ [.int ((sa s2 262 ((84 * (s2.1 30)) + (s2.2.1 263 (s2.1 30).toInt.toNat)).toInt.toNat (100 + (s2.2.1 252 (s2.1 30).toInt.toNat))).1 30), .ref 263] _ _
  refine Lb_w (lb_c [.int ((sa s2 262 ((84 * (s2.1 30)) + (s2.2.1 263 (s2.1 30).toInt.toNat)).toInt.toNat (100 + (s2.2.1 252 (s2.1 30).toInt.toNat))).1 30), .ref 263, .int ((sa s2 262 ((84 * (s2.1 30)) + (s2.2.1 263 (s2.1 30).toInt.toNat)).toInt.toNat (100 + (s2.2.1 252 (s2.1 30).toInt.toNat))).1 30), .ref 263] xo_dup2 rfl rfl ?_)
  refine Lb_w (lb_ial rfl rfl (fun hk => ?_))
  change Lb _ _ _ _ _ _ _ [.int ((sa s2 262 ((84 * (s2.1 30)) + (s2.2.1 263 (s2.1 30).toInt.toNat)).toInt.toNat (100 + (s2.2.1 252 (s2.1 30).toInt.toNat))).2.1 263 ((sa s2 262 ((84 * (s2.1 30)) + (s2.2.1 263 (s2.1 30).toInt.toNat)).toInt.toNat (100 + (s2.2.1 252 (s2.1 30).toInt.toNat))).1 30).toInt.toNat), .int ((sa s2 262 ((84 * (s2.1 30)) + (s2.2.1 263 (s2.1 30).toInt.toNat)).toInt.toNat (100 + (s2.2.1 252 (s2.1 30).toInt.toNat))).1 30), .ref 263] _ _
  replace h := h (kc_in (x := (sa s2 262 ((84 * (s2.1 30)) + (s2.2.1 263 (s2.1 30).toInt.toNat)).toInt.toNat (100 + (s2.2.1 252 (s2.1 30).toInt.toNat))).1 30) rfl hk)
  refine Lb_w (lb_c [.int 1, .int ((sa s2 262 ((84 * (s2.1 30)) + (s2.2.1 263 (s2.1 30).toInt.toNat)).toInt.toNat (100 + (s2.2.1 252 (s2.1 30).toInt.toNat))).2.1 263 ((sa s2 262 ((84 * (s2.1 30)) + (s2.2.1 263 (s2.1 30).toInt.toNat)).toInt.toNat (100 + (s2.2.1 252 (s2.1 30).toInt.toNat))).1 30).toInt.toNat), .int ((sa s2 262 ((84 * (s2.1 30)) + (s2.2.1 263 (s2.1 30).toInt.toNat)).toInt.toNat (100 + (s2.2.1 252 (s2.1 30).toInt.toNat))).1 30), .ref 263] (xo_push (.int 1)) rfl rfl ?_)
  refine Lb_w (lb_ca [.int (((sa s2 262 ((84 * (s2.1 30)) + (s2.2.1 263 (s2.1 30).toInt.toNat)).toInt.toNat (100 + (s2.2.1 252 (s2.1 30).toInt.toNat))).2.1 263 ((sa s2 262 ((84 * (s2.1 30)) + (s2.2.1 263 (s2.1 30).toInt.toNat)).toInt.toNat (100 + (s2.2.1 252 (s2.1 30).toInt.toNat))).1 30).toInt.toNat) + 1), .int ((sa s2 262 ((84 * (s2.1 30)) + (s2.2.1 263 (s2.1 30).toInt.toNat)).toInt.toNat (100 + (s2.2.1 252 (s2.1 30).toInt.toNat))).1 30), .ref 263] xo_iadd rfl rfl (fun _ hk => ?_))
  replace hk := kc_add (x := (sa s2 262 ((84 * (s2.1 30)) + (s2.2.1 263 (s2.1 30).toInt.toNat)).toInt.toNat (100 + (s2.2.1 252 (s2.1 30).toInt.toNat))).2.1 263 ((sa s2 262 ((84 * (s2.1 30)) + (s2.2.1 263 (s2.1 30).toInt.toNat)).toInt.toNat (100 + (s2.2.1 252 (s2.1 30).toInt.toNat))).1 30).toInt.toNat) (y := 1) rfl (show (1 : Int32).toInt = 1 by decide) hk
  replace h := h hk _ (i_add (x := (sa s2 262 ((84 * (s2.1 30)) + (s2.2.1 263 (s2.1 30).toInt.toNat)).toInt.toNat (100 + (s2.2.1 252 (s2.1 30).toInt.toNat))).2.1 263 ((sa s2 262 ((84 * (s2.1 30)) + (s2.2.1 263 (s2.1 30).toInt.toNat)).toInt.toNat (100 + (s2.2.1 252 (s2.1 30).toInt.toNat))).1 30).toInt.toNat) (y := 1) rfl (show (1 : Int32).toInt = 1 by decide) hk)
  refine Lb_w (lb_ias rfl rfl (fun hk => ?_))
  replace h := h (kc_in (x := (sa s2 262 ((84 * (s2.1 30)) + (s2.2.1 263 (s2.1 30).toInt.toNat)).toInt.toNat (100 + (s2.2.1 252 (s2.1 30).toInt.toNat))).1 30) rfl hk)
  replace h := h _ rfl
  refine Lb_w (lb_ld rfl rfl rfl ?_)
  refine Lb_w (lb_get rfl rfl ?_)
  change Lb _ _ _ _ _ _ _ [.ref 252] _ _
  refine Lb_w (lb_ld rfl rfl rfl ?_)
  refine Lb_w (lb_get rfl rfl ?_)
  change Lb _ _ _ _ _ _ _ [.int ((sa (sa s2 262 ((84 * (s2.1 30)) + (s2.2.1 263 (s2.1 30).toInt.toNat)).toInt.toNat (100 + (s2.2.1 252 (s2.1 30).toInt.toNat))) 263 ((sa s2 262 ((84 * (s2.1 30)) + (s2.2.1 263 (s2.1 30).toInt.toNat)).toInt.toNat (100 + (s2.2.1 252 (s2.1 30).toInt.toNat))).1 30).toInt.toNat (((sa s2 262 ((84 * (s2.1 30)) + (s2.2.1 263 (s2.1 30).toInt.toNat)).toInt.toNat (100 + (s2.2.1 252 (s2.1 30).toInt.toNat))).2.1 263 ((sa s2 262 ((84 * (s2.1 30)) + (s2.2.1 263 (s2.1 30).toInt.toNat)).toInt.toNat (100 + (s2.2.1 252 (s2.1 30).toInt.toNat))).1 30).toInt.toNat) + 1)).1 30), .ref 252] _ _
  refine Lb_w (lb_c [.int ((sa (sa s2 262 ((84 * (s2.1 30)) + (s2.2.1 263 (s2.1 30).toInt.toNat)).toInt.toNat (100 + (s2.2.1 252 (s2.1 30).toInt.toNat))) 263 ((sa s2 262 ((84 * (s2.1 30)) + (s2.2.1 263 (s2.1 30).toInt.toNat)).toInt.toNat (100 + (s2.2.1 252 (s2.1 30).toInt.toNat))).1 30).toInt.toNat (((sa s2 262 ((84 * (s2.1 30)) + (s2.2.1 263 (s2.1 30).toInt.toNat)).toInt.toNat (100 + (s2.2.1 252 (s2.1 30).toInt.toNat))).2.1 263 ((sa s2 262 ((84 * (s2.1 30)) + (s2.2.1 263 (s2.1 30).toInt.toNat)).toInt.toNat (100 + (s2.2.1 252 (s2.1 30).toInt.toNat))).1 30).toInt.toNat) + 1)).1 30), .ref 252, .int ((sa (sa s2 262 ((84 * (s2.1 30)) + (s2.2.1 263 (s2.1 30).toInt.toNat)).toInt.toNat (100 + (s2.2.1 252 (s2.1 30).toInt.toNat))) 263 ((sa s2 262 ((84 * (s2.1 30)) + (s2.2.1 263 (s2.1 30).toInt.toNat)).toInt.toNat (100 + (s2.2.1 252 (s2.1 30).toInt.toNat))).1 30).toInt.toNat (((sa s2 262 ((84 * (s2.1 30)) + (s2.2.1 263 (s2.1 30).toInt.toNat)).toInt.toNat (100 + (s2.2.1 252 (s2.1 30).toInt.toNat))).2.1 263 ((sa s2 262 ((84 * (s2.1 30)) + (s2.2.1 263 (s2.1 30).toInt.toNat)).toInt.toNat (100 + (s2.2.1 252 (s2.1 30).toInt.toNat))).1 30).toInt.toNat) + 1)).1 30), .ref 252] xo_dup2 rfl rfl ?_)
  refine Lb_w (lb_ial rfl rfl (fun hk => ?_))
  change Lb _ _ _ _ _ _ _ [.int ((sa (sa s2 262 ((84 * (s2.1 30)) + (s2.2.1 263 (s2.1 30).toInt.toNat)).toInt.toNat (100 + (s2.2.1 252 (s2.1 30).toInt.toNat))) 263 ((sa s2 262 ((84 * (s2.1 30)) + (s2.2.1 263 (s2.1 30).toInt.toNat)).toInt.toNat (100 + (s2.2.1 252 (s2.1 30).toInt.toNat))).1 30).toInt.toNat (((sa s2 262 ((84 * (s2.1 30)) + (s2.2.1 263 (s2.1 30).toInt.toNat)).toInt.toNat (100 + (s2.2.1 252 (s2.1 30).toInt.toNat))).2.1 263 ((sa s2 262 ((84 * (s2.1 30)) + (s2.2.1 263 (s2.1 30).toInt.toNat)).toInt.toNat (100 + (s2.2.1 252 (s2.1 30).toInt.toNat))).1 30).toInt.toNat) + 1)).2.1 252 ((sa (sa s2 262 ((84 * (s2.1 30)) + (s2.2.1 263 (s2.1 30).toInt.toNat)).toInt.toNat (100 + (s2.2.1 252 (s2.1 30).toInt.toNat))) 263 ((sa s2 262 ((84 * (s2.1 30)) + (s2.2.1 263 (s2.1 30).toInt.toNat)).toInt.toNat (100 + (s2.2.1 252 (s2.1 30).toInt.toNat))).1 30).toInt.toNat (((sa s2 262 ((84 * (s2.1 30)) + (s2.2.1 263 (s2.1 30).toInt.toNat)).toInt.toNat (100 + (s2.2.1 252 (s2.1 30).toInt.toNat))).2.1 263 ((sa s2 262 ((84 * (s2.1 30)) + (s2.2.1 263 (s2.1 30).toInt.toNat)).toInt.toNat (100 + (s2.2.1 252 (s2.1 30).toInt.toNat))).1 30).toInt.toNat) + 1)).1 30).toInt.toNat), .int ((sa (sa s2 262 ((84 * (s2.1 30)) + (s2.2.1 263 (s2.1 30).toInt.toNat)).toInt.toNat (100 + (s2.2.1 252 (s2.1 30).toInt.toNat))) 263 ((sa s2 262 ((84 * (s2.1 30)) + (s2.2.1 263 (s2.1 30).toInt.toNat)).toInt.toNat (100 + (s2.2.1 252 (s2.1 30).toInt.toNat))).1 30).toInt.toNat (((sa s2 262 ((84 * (s2.1 30)) + (s2.2.1 263 (s2.1 30).toInt.toNat)).toInt.toNat (100 + (s2.2.1 252 (s2.1 30).toInt.toNat))).2.1 263 ((sa s2 262 ((84 * (s2.1 30)) + (s2.2.1 263 (s2.1 30).toInt.toNat)).toInt.toNat (100 + (s2.2.1 252 (s2.1 30).toInt.toNat))).1 30).toInt.toNat) + 1)).1 30), .ref 252] _ _
  replace h := h (kc_in (x := (sa (sa s2 262 ((84 * (s2.1 30)) + (s2.2.1 263 (s2.1 30).toInt.toNat)).toInt.toNat (100 + (s2.2.1 252 (s2.1 30).toInt.toNat))) 263 ((sa s2 262 ((84 * (s2.1 30)) + (s2.2.1 263 (s2.1 30).toInt.toNat)).toInt.toNat (100 + (s2.2.1 252 (s2.1 30).toInt.toNat))).1 30).toInt.toNat (((sa s2 262 ((84 * (s2.1 30)) + (s2.2.1 263 (s2.1 30).toInt.toNat)).toInt.toNat (100 + (s2.2.1 252 (s2.1 30).toInt.toNat))).2.1 263 ((sa s2 262 ((84 * (s2.1 30)) + (s2.2.1 263 (s2.1 30).toInt.toNat)).toInt.toNat (100 + (s2.2.1 252 (s2.1 30).toInt.toNat))).1 30).toInt.toNat) + 1)).1 30) rfl hk)
  refine Lb_w (lb_c [.int 1, .int ((sa (sa s2 262 ((84 * (s2.1 30)) + (s2.2.1 263 (s2.1 30).toInt.toNat)).toInt.toNat (100 + (s2.2.1 252 (s2.1 30).toInt.toNat))) 263 ((sa s2 262 ((84 * (s2.1 30)) + (s2.2.1 263 (s2.1 30).toInt.toNat)).toInt.toNat (100 + (s2.2.1 252 (s2.1 30).toInt.toNat))).1 30).toInt.toNat (((sa s2 262 ((84 * (s2.1 30)) + (s2.2.1 263 (s2.1 30).toInt.toNat)).toInt.toNat (100 + (s2.2.1 252 (s2.1 30).toInt.toNat))).2.1 263 ((sa s2 262 ((84 * (s2.1 30)) + (s2.2.1 263 (s2.1 30).toInt.toNat)).toInt.toNat (100 + (s2.2.1 252 (s2.1 30).toInt.toNat))).1 30).toInt.toNat) + 1)).2.1 252 ((sa (sa s2 262 ((84 * (s2.1 30)) + (s2.2.1 263 (s2.1 30).toInt.toNat)).toInt.toNat (100 + (s2.2.1 252 (s2.1 30).toInt.toNat))) 263 ((sa s2 262 ((84 * (s2.1 30)) + (s2.2.1 263 (s2.1 30).toInt.toNat)).toInt.toNat (100 + (s2.2.1 252 (s2.1 30).toInt.toNat))).1 30).toInt.toNat (((sa s2 262 ((84 * (s2.1 30)) + (s2.2.1 263 (s2.1 30).toInt.toNat)).toInt.toNat (100 + (s2.2.1 252 (s2.1 30).toInt.toNat))).2.1 263 ((sa s2 262 ((84 * (s2.1 30)) + (s2.2.1 263 (s2.1 30).toInt.toNat)).toInt.toNat (100 + (s2.2.1 252 (s2.1 30).toInt.toNat))).1 30).toInt.toNat) + 1)).1 30).toInt.toNat), .int ((sa (sa s2 262 ((84 * (s2.1 30)) + (s2.2.1 263 (s2.1 30).toInt.toNat)).toInt.toNat (100 + (s2.2.1 252 (s2.1 30).toInt.toNat))) 263 ((sa s2 262 ((84 * (s2.1 30)) + (s2.2.1 263 (s2.1 30).toInt.toNat)).toInt.toNat (100 + (s2.2.1 252 (s2.1 30).toInt.toNat))).1 30).toInt.toNat (((sa s2 262 ((84 * (s2.1 30)) + (s2.2.1 263 (s2.1 30).toInt.toNat)).toInt.toNat (100 + (s2.2.1 252 (s2.1 30).toInt.toNat))).2.1 263 ((sa s2 262 ((84 * (s2.1 30)) + (s2.2.1 263 (s2.1 30).toInt.toNat)).toInt.toNat (100 + (s2.2.1 252 (s2.1 30).toInt.toNat))).1 30).toInt.toNat) + 1)).1 30), .ref 252] (xo_push (.int 1)) rfl rfl ?_)
  refine Lb_w (lb_ca [.int (((sa (sa s2 262 ((84 * (s2.1 30)) + (s2.2.1 263 (s2.1 30).toInt.toNat)).toInt.toNat (100 + (s2.2.1 252 (s2.1 30).toInt.toNat))) 263 ((sa s2 262 ((84 * (s2.1 30)) + (s2.2.1 263 (s2.1 30).toInt.toNat)).toInt.toNat (100 + (s2.2.1 252 (s2.1 30).toInt.toNat))).1 30).toInt.toNat (((sa s2 262 ((84 * (s2.1 30)) + (s2.2.1 263 (s2.1 30).toInt.toNat)).toInt.toNat (100 + (s2.2.1 252 (s2.1 30).toInt.toNat))).2.1 263 ((sa s2 262 ((84 * (s2.1 30)) + (s2.2.1 263 (s2.1 30).toInt.toNat)).toInt.toNat (100 + (s2.2.1 252 (s2.1 30).toInt.toNat))).1 30).toInt.toNat) + 1)).2.1 252 ((sa (sa s2 262 ((84 * (s2.1 30)) + (s2.2.1 263 (s2.1 30).toInt.toNat)).toInt.toNat (100 + (s2.2.1 252 (s2.1 30).toInt.toNat))) 263 ((sa s2 262 ((84 * (s2.1 30)) + (s2.2.1 263 (s2.1 30).toInt.toNat)).toInt.toNat (100 + (s2.2.1 252 (s2.1 30).toInt.toNat))).1 30).toInt.toNat (((sa s2 262 ((84 * (s2.1 30)) + (s2.2.1 263 (s2.1 30).toInt.toNat)).toInt.toNat (100 + (s2.2.1 252 (s2.1 30).toInt.toNat))).2.1 263 ((sa s2 262 ((84 * (s2.1 30)) + (s2.2.1 263 (s2.1 30).toInt.toNat)).toInt.toNat (100 + (s2.2.1 252 (s2.1 30).toInt.toNat))).1 30).toInt.toNat) + 1)).1 30).toInt.toNat) + 1), .int ((sa (sa s2 262 ((84 * (s2.1 30)) + (s2.2.1 263 (s2.1 30).toInt.toNat)).toInt.toNat (100 + (s2.2.1 252 (s2.1 30).toInt.toNat))) 263 ((sa s2 262 ((84 * (s2.1 30)) + (s2.2.1 263 (s2.1 30).toInt.toNat)).toInt.toNat (100 + (s2.2.1 252 (s2.1 30).toInt.toNat))).1 30).toInt.toNat (((sa s2 262 ((84 * (s2.1 30)) + (s2.2.1 263 (s2.1 30).toInt.toNat)).toInt.toNat (100 + (s2.2.1 252 (s2.1 30).toInt.toNat))).2.1 263 ((sa s2 262 ((84 * (s2.1 30)) + (s2.2.1 263 (s2.1 30).toInt.toNat)).toInt.toNat (100 + (s2.2.1 252 (s2.1 30).toInt.toNat))).1 30).toInt.toNat) + 1)).1 30), .ref 252] xo_iadd rfl rfl (fun _ hk => ?_))
  replace hk := kc_add (x := (sa (sa s2 262 ((84 * (s2.1 30)) + (s2.2.1 263 (s2.1 30).toInt.toNat)).toInt.toNat (100 + (s2.2.1 252 (s2.1 30).toInt.toNat))) 263 ((sa s2 262 ((84 * (s2.1 30)) + (s2.2.1 263 (s2.1 30).toInt.toNat)).toInt.toNat (100 + (s2.2.1 252 (s2.1 30).toInt.toNat))).1 30).toInt.toNat (((sa s2 262 ((84 * (s2.1 30)) + (s2.2.1 263 (s2.1 30).toInt.toNat)).toInt.toNat (100 + (s2.2.1 252 (s2.1 30).toInt.toNat))).2.1 263 ((sa s2 262 ((84 * (s2.1 30)) + (s2.2.1 263 (s2.1 30).toInt.toNat)).toInt.toNat (100 + (s2.2.1 252 (s2.1 30).toInt.toNat))).1 30).toInt.toNat) + 1)).2.1 252 ((sa (sa s2 262 ((84 * (s2.1 30)) + (s2.2.1 263 (s2.1 30).toInt.toNat)).toInt.toNat (100 + (s2.2.1 252 (s2.1 30).toInt.toNat))) 263 ((sa s2 262 ((84 * (s2.1 30)) + (s2.2.1 263 (s2.1 30).toInt.toNat)).toInt.toNat (100 + (s2.2.1 252 (s2.1 30).toInt.toNat))).1 30).toInt.toNat (((sa s2 262 ((84 * (s2.1 30)) + (s2.2.1 263 (s2.1 30).toInt.toNat)).toInt.toNat (100 + (s2.2.1 252 (s2.1 30).toInt.toNat))).2.1 263 ((sa s2 262 ((84 * (s2.1 30)) + (s2.2.1 263 (s2.1 30).toInt.toNat)).toInt.toNat (100 + (s2.2.1 252 (s2.1 30).toInt.toNat))).1 30).toInt.toNat) + 1)).1 30).toInt.toNat) (y := 1) rfl (show (1 : Int32).toInt = 1 by decide) hk
  replace h := h hk _ (i_add (x := (sa (sa s2 262 ((84 * (s2.1 30)) + (s2.2.1 263 (s2.1 30).toInt.toNat)).toInt.toNat (100 + (s2.2.1 252 (s2.1 30).toInt.toNat))) 263 ((sa s2 262 ((84 * (s2.1 30)) + (s2.2.1 263 (s2.1 30).toInt.toNat)).toInt.toNat (100 + (s2.2.1 252 (s2.1 30).toInt.toNat))).1 30).toInt.toNat (((sa s2 262 ((84 * (s2.1 30)) + (s2.2.1 263 (s2.1 30).toInt.toNat)).toInt.toNat (100 + (s2.2.1 252 (s2.1 30).toInt.toNat))).2.1 263 ((sa s2 262 ((84 * (s2.1 30)) + (s2.2.1 263 (s2.1 30).toInt.toNat)).toInt.toNat (100 + (s2.2.1 252 (s2.1 30).toInt.toNat))).1 30).toInt.toNat) + 1)).2.1 252 ((sa (sa s2 262 ((84 * (s2.1 30)) + (s2.2.1 263 (s2.1 30).toInt.toNat)).toInt.toNat (100 + (s2.2.1 252 (s2.1 30).toInt.toNat))) 263 ((sa s2 262 ((84 * (s2.1 30)) + (s2.2.1 263 (s2.1 30).toInt.toNat)).toInt.toNat (100 + (s2.2.1 252 (s2.1 30).toInt.toNat))).1 30).toInt.toNat (((sa s2 262 ((84 * (s2.1 30)) + (s2.2.1 263 (s2.1 30).toInt.toNat)).toInt.toNat (100 + (s2.2.1 252 (s2.1 30).toInt.toNat))).2.1 263 ((sa s2 262 ((84 * (s2.1 30)) + (s2.2.1 263 (s2.1 30).toInt.toNat)).toInt.toNat (100 + (s2.2.1 252 (s2.1 30).toInt.toNat))).1 30).toInt.toNat) + 1)).1 30).toInt.toNat) (y := 1) rfl (show (1 : Int32).toInt = 1 by decide) hk)
  refine Lb_w (lb_ias rfl rfl (fun hk => ?_))
  replace h := h (kc_in (x := (sa (sa s2 262 ((84 * (s2.1 30)) + (s2.2.1 263 (s2.1 30).toInt.toNat)).toInt.toNat (100 + (s2.2.1 252 (s2.1 30).toInt.toNat))) 263 ((sa s2 262 ((84 * (s2.1 30)) + (s2.2.1 263 (s2.1 30).toInt.toNat)).toInt.toNat (100 + (s2.2.1 252 (s2.1 30).toInt.toNat))).1 30).toInt.toNat (((sa s2 262 ((84 * (s2.1 30)) + (s2.2.1 263 (s2.1 30).toInt.toNat)).toInt.toNat (100 + (s2.2.1 252 (s2.1 30).toInt.toNat))).2.1 263 ((sa s2 262 ((84 * (s2.1 30)) + (s2.2.1 263 (s2.1 30).toInt.toNat)).toInt.toNat (100 + (s2.2.1 252 (s2.1 30).toInt.toNat))).1 30).toInt.toNat) + 1)).1 30) rfl hk)
  replace h := h _ rfl
  exact Lb_w (lb_ret0 rfl h)
def ub_184_103 (T : Nat → List Value → yS → (Option Value → yS → Prop) → Prop)  (a1 : Int32) (s : yS) (P : Option Value → yS → Prop) : Prop :=
  T 167 [.ref 213, .int 41] s (fun v2 s1 => v2 = none ∧ (((0 ≤ a1.toInt ∧ a1.toInt < 120) → ∀ s3, s3 = sa s1 257 a1.toInt.toNat (s1.1 42) → T 183 [.ref 213] s3 (fun v5 s4 => v5 = none ∧ (T 167 [.ref 213, .int 123] s4 (fun v7 s6 => v7 = none ∧ (T 169 [.ref 213, .int 4] s6 (fun v9 s8 => v9 = none ∧ (∀ s10, s10 = sf s8 27 0 → (¬ ((s10.1 8).toInt = 0) → ub_184_133 T  a1 a1 (-1) s10 P) ∧ ((s10.1 8).toInt = 0 → T 175 [.ref 213] s10 (fun v12 s11 => ∃ x13, v12 = some (.int x13) ∧ (ub_184_133 T  a1 a1 x13 s11 P))))))))))))
set_option maxRecDepth 20000 in
theorem lk_184_103 {d N0 : Nat}  {a1 : Int32} {s : yS} {P : Option Value → yS → Prop}  (h : ub_184_103 (Par d)  a1 s P) : Lb d N0 3 (none) xE_184 (xE_184.drop 103) [.ref 213, .int a1, .null, .null] [] s P := by
  unfold ub_184_103 at h
  refine Lb_w (lb_ld rfl rfl rfl ?_)
  refine Lb_w (lb_c [.int 41, .ref 213] (xo_push (.int 41)) rfl rfl ?_)
  refine Lb_w (lb_call [.ref 213, .int 41] [] rfl rfl rfl (Par.imp h (fun v2 s1 h => ?_)))
  obtain ⟨rfl, h⟩ := h
  change Lb _ _ _ _ _ _ _ [] _ _
  refine Lb_w (lb_ld rfl rfl rfl ?_)
  refine Lb_w (lb_get rfl rfl ?_)
  change Lb _ _ _ _ _ _ _ [.ref 257] _ _
  refine Lb_w (lb_ld rfl rfl rfl ?_)
  refine Lb_w (lb_ld rfl rfl rfl ?_)
  refine Lb_w (lb_get rfl rfl ?_)
  change Lb _ _ _ _ _ _ _ [.int (s1.1 42), .int a1, .ref 257] _ _
  refine Lb_w (lb_ias rfl rfl (fun hk => ?_))
  replace h := h (kc_in (x := a1) rfl hk)
  replace h := h _ rfl
  refine Lb_w (lb_ld rfl rfl rfl ?_)
  refine Lb_w (lb_call [.ref 213] [] rfl rfl rfl (Par.imp h (fun v5 s4 h => ?_)))
  obtain ⟨rfl, h⟩ := h
  change Lb _ _ _ _ _ _ _ [] _ _
  refine Lb_w (lb_ld rfl rfl rfl ?_)
  refine Lb_w (lb_c [.int 123, .ref 213] (xo_push (.int 123)) rfl rfl ?_)
  refine Lb_w (lb_call [.ref 213, .int 123] [] rfl rfl rfl (Par.imp h (fun v7 s6 h => ?_)))
  obtain ⟨rfl, h⟩ := h
  change Lb _ _ _ _ _ _ _ [] _ _
  refine Lb_w (lb_ld rfl rfl rfl ?_)
  refine Lb_w (lb_c [.int 4, .ref 213] (xo_push (.int 4)) rfl rfl ?_)
  refine Lb_w (lb_call [.ref 213, .int 4] [] rfl rfl rfl (Par.imp h (fun v9 s8 h => ?_)))
  obtain ⟨rfl, h⟩ := h
  change Lb _ _ _ _ _ _ _ [] _ _
  refine Lb_w (lb_ld rfl rfl rfl ?_)
  refine Lb_w (lb_c [.int 0, .ref 213] (xo_push (.int 0)) rfl rfl ?_)
  refine Lb_w (lb_put rfl rfl (fun hk => ?_))
  replace h := h _ rfl
  refine Lb_w (lb_ld rfl rfl rfl ?_)
  refine Lb_w (lb_get rfl rfl ?_)
  change Lb _ _ _ _ _ _ _ [.ref 258] _ _
  refine Lb_w (lb_ld rfl rfl rfl ?_)
  refine Lb_w (lb_ld rfl rfl rfl ?_)
  refine Lb_w (lb_get rfl rfl ?_)
  change Lb _ _ _ _ _ _ _ [.int ((sf s8 27 0).1 8), .int a1, .ref 258] _ _
  refine Lb_w (lb_brN rfl rfl ⟨fun hc => ?_, fun hc => ?_⟩)
  · replace h := h.1 (fun q => hc ((i_eq (x := (sf s8 27 0).1 8) (y := 0) rfl (show (0 : Int32).toInt = 0 by decide)).mpr q))
    refine Lb_w (lb_c [.int (-1), .int a1, .ref 258] (xo_push (.int (-1))) rfl rfl ?_)
    exact lk_184_133  h
  · replace h := h.2 ((i_eq (x := (sf s8 27 0).1 8) (y := 0) rfl (show (0 : Int32).toInt = 0 by decide)).mp hc)
    refine Lb_w (lb_ld rfl rfl rfl ?_)
    refine Lb_w (lb_call [.ref 213] [.int a1, .ref 258] rfl rfl rfl (Par.imp h (fun v12 s11 h => ?_)))
    obtain ⟨x13, rfl, h⟩ := h
    change Lb _ _ _ _ _ _ _ [.int x13, .int a1, .ref 258] _ _
    refine Lb_w (lb_go rfl ?_)
    exact lk_184_133  h
def ub_184_88 (T : Nat → List Value → yS → (Option Value → yS → Prop) → Prop) (R70 : Int32 → yS → Prop) (a1 : Int32) (s : yS) (P : Option Value → yS → Prop) : Prop :=
  T 170 [.ref 213] s (fun v2 s1 => ∃ x3, v2 = some (.int x3) ∧ (((0 ≤ a1.toInt ∧ a1.toInt < 120) → ((-2147483648 ≤ (s1.2.1 255 a1.toInt.toNat).toInt + 1 ∧ (s1.2.1 255 a1.toInt.toNat).toInt + 1 ≤ 2147483647) → ∀ x4 : Int32, x4.toInt = (s1.2.1 255 a1.toInt.toNat).toInt + 1 → ((0 ≤ a1.toInt ∧ a1.toInt < 120) → ∀ s5, s5 = sa s1 255 a1.toInt.toNat x4 → R70 a1  s5)))))
set_option maxRecDepth 20000 in
theorem lk_184_88 {d N0 : Nat} {R70 : Int32 → yS → Prop} {a1 : Int32} {s : yS} {P : Option Value → yS → Prop} (r70 : ∀ a1 s, R70 a1 s → Lb d N0 3 (none) xE_184 (xE_184.drop 70) [.ref 213, .int a1, .null, .null] [] s P) (h : ub_184_88 (Par d) R70 a1 s P) : Lb d N0 3 (none) xE_184 (xE_184.drop 88) [.ref 213, .int a1, .null, .null] [] s P := by
  unfold ub_184_88 at h
  refine Lb_w (lb_ld rfl rfl rfl ?_)
  refine Lb_w (lb_call [.ref 213] [] rfl rfl rfl (Par.imp h (fun v2 s1 h => ?_)))
  obtain ⟨x3, rfl, h⟩ := h
  change Lb _ _ _ _ _ _ _ [.int x3] _ _
  refine Lb_w (lb_st [.ref 213, .int a1, .int x3, .null] rfl rfl rfl ?_)
  refine Lb_w (lb_ld rfl rfl rfl ?_)
  refine Lb_w (lb_get rfl rfl ?_)
  change Lb _ _ _ _ _ _ _ [.ref 255] _ _
  refine Lb_w (lb_ld rfl rfl rfl ?_)
  refine Lb_w (lb_c [.int a1, .ref 255, .int a1, .ref 255] xo_dup2 rfl rfl ?_)
  refine Lb_w (lb_ial rfl rfl (fun hk => ?_))
  change Lb _ _ _ _ _ _ _ [.int (s1.2.1 255 a1.toInt.toNat), .int a1, .ref 255] _ _
  replace h := h (kc_in (x := a1) rfl hk)
  refine Lb_w (lb_c [.int 1, .int (s1.2.1 255 a1.toInt.toNat), .int a1, .ref 255] (xo_push (.int 1)) rfl rfl ?_)
  refine Lb_w (lb_ca [.int ((s1.2.1 255 a1.toInt.toNat) + 1), .int a1, .ref 255] xo_iadd rfl rfl (fun _ hk => ?_))
  replace hk := kc_add (x := s1.2.1 255 a1.toInt.toNat) (y := 1) rfl (show (1 : Int32).toInt = 1 by decide) hk
  replace h := h hk _ (i_add (x := s1.2.1 255 a1.toInt.toNat) (y := 1) rfl (show (1 : Int32).toInt = 1 by decide) hk)
  refine Lb_w (lb_ias rfl rfl (fun hk => ?_))
  replace h := h (kc_in (x := a1) rfl hk)
  replace h := h _ rfl
  refine Lb_w (lb_go rfl ?_)
  refine lb_fg 2 ?_
  exact r70 a1  (sa s1 255 a1.toInt.toNat ((s1.2.1 255 a1.toInt.toNat) + 1)) h
def ub_184_70 (T : Nat → List Value → yS → (Option Value → yS → Prop) → Prop) (R70 : Int32 → yS → Prop) (a1 : Int32) (s : yS) (P : Option Value → yS → Prop) : Prop :=
  T 168 [.ref 213, .int 44] s (fun v2 s1 => ∃ x3, v2 = some (.int x3) ∧ ((x3.toInt = 0 → T 167 [.ref 213, .int 93] s1 (fun v5 s4 => v5 = none ∧ (ub_184_103 T  a1  s4 P))) ∧ (¬ (x3.toInt = 0) → ((0 ≤ a1.toInt ∧ a1.toInt < 120) → (¬ ((s1.2.1 255 a1.toInt.toNat).toInt = 6) → ub_184_88 T R70 a1  s1 P) ∧ ((s1.2.1 255 a1.toInt.toNat).toInt = 6 → T 166 [.ref 213] s1 (fun v7 s6 => ∃ x8, v7 = some (.int x8) ∧ ((x8.toInt = 0 → ub_184_88 T R70 a1  s6 P) ∧ (¬ (x8.toInt = 0) → T 163 [.ref 213, .int 5, .int (s6.1 7)] s6 (fun v10 s9 => v10 = none ∧ (ub_184_88 T R70 a1  s9 P))))))))))
set_option maxRecDepth 20000 in
theorem lk_184_70 {d N0 : Nat} {R70 : Int32 → yS → Prop} {a1 : Int32} {s : yS} {P : Option Value → yS → Prop} (r70 : ∀ a1 s, R70 a1 s → Lb d N0 3 (none) xE_184 (xE_184.drop 70) [.ref 213, .int a1, .null, .null] [] s P) (h : ub_184_70 (Par d) R70 a1 s P) : Lb d (N0 + 1) 3 (none) xE_184 (xE_184.drop 70) [.ref 213, .int a1, .null, .null] [] s P := by
  unfold ub_184_70 at h
  refine lb_ld rfl rfl rfl ?_
  refine Lb_w (lb_c [.int 44, .ref 213] (xo_push (.int 44)) rfl rfl ?_)
  refine Lb_w (lb_call [.ref 213, .int 44] [] rfl rfl rfl (Par.imp h (fun v2 s1 h => ?_)))
  obtain ⟨x3, rfl, h⟩ := h
  change Lb _ _ _ _ _ _ _ [.int x3] _ _
  refine Lb_w (lb_brP rfl rfl ⟨fun hc => ?_, fun hc => ?_⟩)
  · replace h := h.1 ((i_eq (x := x3) (y := 0) rfl (show (0 : Int32).toInt = 0 by decide)).mp hc)
    refine Lb_w (lb_ld rfl rfl rfl ?_)
    refine Lb_w (lb_c [.int 93, .ref 213] (xo_push (.int 93)) rfl rfl ?_)
    refine Lb_w (lb_call [.ref 213, .int 93] [] rfl rfl rfl (Par.imp h (fun v5 s4 h => ?_)))
    obtain ⟨rfl, h⟩ := h
    change Lb _ _ _ _ _ _ _ [] _ _
    exact lk_184_103  h
  · replace h := h.2 (fun q => hc ((i_eq (x := x3) (y := 0) rfl (show (0 : Int32).toInt = 0 by decide)).mpr q))
    refine Lb_w (lb_ld rfl rfl rfl ?_)
    refine Lb_w (lb_get rfl rfl ?_)
    change Lb _ _ _ _ _ _ _ [.ref 255] _ _
    refine Lb_w (lb_ld rfl rfl rfl ?_)
    refine Lb_w (lb_ial rfl rfl (fun hk => ?_))
    change Lb _ _ _ _ _ _ _ [.int (s1.2.1 255 a1.toInt.toNat)] _ _
    replace h := h (kc_in (x := a1) rfl hk)
    refine Lb_w (lb_c [.int 6, .int (s1.2.1 255 a1.toInt.toNat)] (xo_push (.int 6)) rfl rfl ?_)
    refine Lb_w (lb_brN rfl rfl ⟨fun hc => ?_, fun hc => ?_⟩)
    · replace h := h.1 (fun q => hc ((i_eq (x := s1.2.1 255 a1.toInt.toNat) (y := 6) rfl (show (6 : Int32).toInt = 6 by decide)).mpr q))
      exact lk_184_88 r70 h
    · replace h := h.2 ((i_eq (x := s1.2.1 255 a1.toInt.toNat) (y := 6) rfl (show (6 : Int32).toInt = 6 by decide)).mp hc)
      refine Lb_w (lb_ld rfl rfl rfl ?_)
      refine Lb_w (lb_call [.ref 213] [] rfl rfl rfl (Par.imp h (fun v7 s6 h => ?_)))
      obtain ⟨x8, rfl, h⟩ := h
      change Lb _ _ _ _ _ _ _ [.int x8] _ _
      refine Lb_w (lb_brP rfl rfl ⟨fun hc => ?_, fun hc => ?_⟩)
      · replace h := h.1 ((i_eq (x := x8) (y := 0) rfl (show (0 : Int32).toInt = 0 by decide)).mp hc)
        exact lk_184_88 r70 h
      · replace h := h.2 (fun q => hc ((i_eq (x := x8) (y := 0) rfl (show (0 : Int32).toInt = 0 by decide)).mpr q))
        refine Lb_w (lb_ld rfl rfl rfl ?_)
        refine Lb_w (lb_c [.int 5, .ref 213] (xo_push (.int 5)) rfl rfl ?_)
        refine Lb_w (lb_ld rfl rfl rfl ?_)
        refine Lb_w (lb_get rfl rfl ?_)
        change Lb _ _ _ _ _ _ _ [.int (s6.1 7), .int 5, .ref 213] _ _
        refine Lb_w (lb_call [.ref 213, .int 5, .int (s6.1 7)] [] rfl rfl rfl (Par.imp h (fun v10 s9 h => ?_)))
        obtain ⟨rfl, h⟩ := h
        change Lb _ _ _ _ _ _ _ [] _ _
        exact lk_184_88 r70 h
def ubl_184_70 (T : Nat → List Value → yS → (Option Value → yS → Prop) → Prop)  (a1 : Int32) (s : yS) (P : Option Value → yS → Prop) : Prop :=
  ∃ (I : Int32 → yS → Prop), I a1 s ∧ ∀ (a1 : Int32) (s : yS), I a1 s → ub_184_70 T I a1 s P
theorem lkl_184_70 {d N0 : Nat}  {a1 : Int32} {s : yS} {P : Option Value → yS → Prop}  (h : ubl_184_70 (Par d)  a1 s P) : Lb d N0 3 (none) xE_184 (xE_184.drop 70) [.ref 213, .int a1, .null, .null] [] s P := by
  obtain ⟨I, h0, h1⟩ := h
  have key : ∀ (m : Nat), m ≤ N0 → ∀ (a1 : Int32) (s : yS), I a1 s → Lb d m 3 (none) xE_184 (xE_184.drop 70) [.ref 213, .int a1, .null, .null] [] s P := by
    intro m
    induction m with
    | zero => exact fun _ a1 s _ => Lb_0
    | succ m ih =>
      intro hm
      replace hm : m ≤ N0 := Nat.le_of_succ_le hm
      replace ih := ih hm
      intro a1 s hI
      exact lk_184_70 ih (h1 a1 s hI)
  exact key N0 (Nat.le_refl _) a1 s h0
def ub_184_0 (T : Nat → List Value → yS → (Option Value → yS → Prop) → Prop)   (s : yS) (P : Option Value → yS → Prop) : Prop :=
  ((-2147483648 ≤ 60 * (s.1 30).toInt ∧ 60 * (s.1 30).toInt ≤ 2147483647) → ∀ x1 : Int32, x1.toInt = 60 * (s.1 30).toInt → ((0 ≤ (s.1 30).toInt ∧ (s.1 30).toInt < 2) → ((-2147483648 ≤ x1.toInt + (s.2.1 252 (s.1 30).toInt.toNat).toInt ∧ x1.toInt + (s.2.1 252 (s.1 30).toInt.toNat).toInt ≤ 2147483647) → ∀ x2 : Int32, x2.toInt = x1.toInt + (s.2.1 252 (s.1 30).toInt.toNat).toInt → ((0 ≤ (s.1 30).toInt ∧ (s.1 30).toInt < 2) → (¬ ((s.2.1 252 (s.1 30).toInt.toNat).toInt = 60) → ((-2147483648 ≤ (s.1 7).toInt + 1 ∧ (s.1 7).toInt + 1 ≤ 2147483647) → ∀ x3 : Int32, x3.toInt = (s.1 7).toInt + 1 → ∀ s4, s4 = sf s 7 x3 → T 167 [.ref 213, .int 40] s4 (fun v6 s5 => v6 = none ∧ (T 170 [.ref 213] s5 (fun v8 s7 => ∃ x9, v8 = some (.int x9) ∧ (((0 ≤ x2.toInt ∧ x2.toInt < 120) → ∀ s10, s10 = sa s7 253 x2.toInt.toNat x9 → T 170 [.ref 213] s10 (fun v12 s11 => ∃ x13, v12 = some (.int x13) ∧ (((0 ≤ x2.toInt ∧ x2.toInt < 120) → ∀ s14, s14 = sa s11 254 x2.toInt.toNat x13 → ((0 ≤ x2.toInt ∧ x2.toInt < 120) → ∀ s15, s15 = sa s14 255 x2.toInt.toNat 0 → ((0 ≤ x2.toInt ∧ x2.toInt < 120) → ∀ s16, s16 = sa s15 256 x2.toInt.toNat (-1) → T 168 [.ref 213, .int 91] s16 (fun v18 s17 => ∃ x19, v18 = some (.int x19) ∧ ((x19.toInt = 0 → ub_184_103 T  x2  s17 P) ∧ (¬ (x19.toInt = 0) → T 170 [.ref 213] s17 (fun v21 s20 => ∃ x22, v21 = some (.int x22) ∧ (((0 ≤ x2.toInt ∧ x2.toInt < 120) → ∀ s23, s23 = sa s20 256 x2.toInt.toNat x22 → ((0 ≤ x2.toInt ∧ x2.toInt < 120) → ∀ s24, s24 = sa s23 255 x2.toInt.toNat 1 → ubl_184_70 T  x2  s24 P))))))))))))))))))) ∧ ((s.2.1 252 (s.1 30).toInt.toNat).toInt = 60 → T 163 [.ref 213, .int 5, .int (s.1 7)] s (fun v26 s25 => v26 = none ∧ (P none s25)))))))
set_option maxRecDepth 20000 in
theorem lk_184_0 {d N0 : Nat}   {s : yS} {P : Option Value → yS → Prop}  (h : ub_184_0 (Par d)   s P) : Lb d N0 3 (none) xE_184 (xE_184.drop 0) [.ref 213, .null, .null, .null] [] s P := by
  unfold ub_184_0 at h
  refine Lb_w (lb_c [.int 60] (xo_push (.int 60)) rfl rfl ?_)
  refine Lb_w (lb_ld rfl rfl rfl ?_)
  refine Lb_w (lb_get rfl rfl ?_)
  change Lb _ _ _ _ _ _ _ [.int (s.1 30), .int 60] _ _
  refine Lb_w (lb_ca [.int (60 * (s.1 30))] xo_imul rfl rfl (fun _ hk => ?_))
  replace hk := kc_mul (x := 60) (y := s.1 30) (show (60 : Int32).toInt = 60 by decide) rfl hk
  replace h := h hk _ (i_mul (x := 60) (y := s.1 30) (show (60 : Int32).toInt = 60 by decide) rfl hk)
  refine Lb_w (lb_ld rfl rfl rfl ?_)
  refine Lb_w (lb_get rfl rfl ?_)
  change Lb _ _ _ _ _ _ _ [.ref 252, .int (60 * (s.1 30))] _ _
  refine Lb_w (lb_ld rfl rfl rfl ?_)
  refine Lb_w (lb_get rfl rfl ?_)
  change Lb _ _ _ _ _ _ _ [.int (s.1 30), .ref 252, .int (60 * (s.1 30))] _ _
  refine Lb_w (lb_ial rfl rfl (fun hk => ?_))
  change Lb _ _ _ _ _ _ _ [.int (s.2.1 252 (s.1 30).toInt.toNat), .int (60 * (s.1 30))] _ _
  replace h := h (kc_in (x := s.1 30) rfl hk)
  refine Lb_w (lb_ca [.int ((60 * (s.1 30)) + (s.2.1 252 (s.1 30).toInt.toNat))] xo_iadd rfl rfl (fun _ hk => ?_))
  replace hk := kc_add (x := (60 * (s.1 30))) (y := s.2.1 252 (s.1 30).toInt.toNat) rfl rfl hk
  replace h := h hk _ (i_add (x := (60 * (s.1 30))) (y := s.2.1 252 (s.1 30).toInt.toNat) rfl rfl hk)
  refine Lb_w (lb_st [.ref 213, .int ((60 * (s.1 30)) + (s.2.1 252 (s.1 30).toInt.toNat)), .null, .null] rfl rfl rfl ?_)
  refine Lb_w (lb_ld rfl rfl rfl ?_)
  refine Lb_w (lb_get rfl rfl ?_)
  change Lb _ _ _ _ _ _ _ [.ref 252] _ _
  refine Lb_w (lb_ld rfl rfl rfl ?_)
  refine Lb_w (lb_get rfl rfl ?_)
  change Lb _ _ _ _ _ _ _ [.int (s.1 30), .ref 252] _ _
  refine Lb_w (lb_ial rfl rfl (fun hk => ?_))
  change Lb _ _ _ _ _ _ _ [.int (s.2.1 252 (s.1 30).toInt.toNat)] _ _
  replace h := h (kc_in (x := s.1 30) rfl hk)
  refine Lb_w (lb_c [.int 60, .int (s.2.1 252 (s.1 30).toInt.toNat)] (xo_push (.int 60)) rfl rfl ?_)
  refine Lb_w (lb_brN rfl rfl ⟨fun hc => ?_, fun hc => ?_⟩)
  · replace h := h.1 (fun q => hc ((i_eq (x := s.2.1 252 (s.1 30).toInt.toNat) (y := 60) rfl (show (60 : Int32).toInt = 60 by decide)).mpr q))
    refine Lb_w (lb_ld rfl rfl rfl ?_)
    refine Lb_w (lb_c [.ref 213, .ref 213] xo_dup rfl rfl ?_)
    refine Lb_w (lb_get rfl rfl ?_)
    change Lb _ _ _ _ _ _ _ [.int (s.1 7), .ref 213] _ _
    refine Lb_w (lb_c [.int 1, .int (s.1 7), .ref 213] (xo_push (.int 1)) rfl rfl ?_)
    refine Lb_w (lb_ca [.int ((s.1 7) + 1), .ref 213] xo_iadd rfl rfl (fun _ hk => ?_))
    replace hk := kc_add (x := s.1 7) (y := 1) rfl (show (1 : Int32).toInt = 1 by decide) hk
    replace h := h hk _ (i_add (x := s.1 7) (y := 1) rfl (show (1 : Int32).toInt = 1 by decide) hk)
    refine Lb_w (lb_put rfl rfl (fun hk => ?_))
    replace h := h _ rfl
    refine Lb_w (lb_ld rfl rfl rfl ?_)
    refine Lb_w (lb_c [.int 40, .ref 213] (xo_push (.int 40)) rfl rfl ?_)
    refine Lb_w (lb_call [.ref 213, .int 40] [] rfl rfl rfl (Par.imp h (fun v6 s5 h => ?_)))
    obtain ⟨rfl, h⟩ := h
    change Lb _ _ _ _ _ _ _ [] _ _
    refine Lb_w (lb_ld rfl rfl rfl ?_)
    refine Lb_w (lb_get rfl rfl ?_)
    change Lb _ _ _ _ _ _ _ [.ref 253] _ _
    refine Lb_w (lb_ld rfl rfl rfl ?_)
    refine Lb_w (lb_ld rfl rfl rfl ?_)
    refine Lb_w (lb_call [.ref 213] [.int ((60 * (s.1 30)) + (s.2.1 252 (s.1 30).toInt.toNat)), .ref 253] rfl rfl rfl (Par.imp h (fun v8 s7 h => ?_)))
    obtain ⟨x9, rfl, h⟩ := h
    change Lb _ _ _ _ _ _ _ [.int x9, .int ((60 * (s.1 30)) + (s.2.1 252 (s.1 30).toInt.toNat)), .ref 253] _ _
    refine Lb_w (lb_ias rfl rfl (fun hk => ?_))
    replace h := h (kc_in (x := ((60 * (s.1 30)) + (s.2.1 252 (s.1 30).toInt.toNat))) rfl hk)
    replace h := h _ rfl
    refine Lb_w (lb_ld rfl rfl rfl ?_)
    refine Lb_w (lb_get rfl rfl ?_)
    change Lb _ _ _ _ _ _ _ [.ref 254] _ _
    refine Lb_w (lb_ld rfl rfl rfl ?_)
    refine Lb_w (lb_ld rfl rfl rfl ?_)
    refine Lb_w (lb_call [.ref 213] [.int ((60 * (s.1 30)) + (s.2.1 252 (s.1 30).toInt.toNat)), .ref 254] rfl rfl rfl (Par.imp h (fun v12 s11 h => ?_)))
    obtain ⟨x13, rfl, h⟩ := h
    change Lb _ _ _ _ _ _ _ [.int x13, .int ((60 * (s.1 30)) + (s.2.1 252 (s.1 30).toInt.toNat)), .ref 254] _ _
    refine Lb_w (lb_ias rfl rfl (fun hk => ?_))
    replace h := h (kc_in (x := ((60 * (s.1 30)) + (s.2.1 252 (s.1 30).toInt.toNat))) rfl hk)
    replace h := h _ rfl
    refine Lb_w (lb_ld rfl rfl rfl ?_)
    refine Lb_w (lb_get rfl rfl ?_)
    change Lb _ _ _ _ _ _ _ [.ref 255] _ _
    refine Lb_w (lb_ld rfl rfl rfl ?_)
    refine Lb_w (lb_c [.int 0, .int ((60 * (s.1 30)) + (s.2.1 252 (s.1 30).toInt.toNat)), .ref 255] (xo_push (.int 0)) rfl rfl ?_)
    refine Lb_w (lb_ias rfl rfl (fun hk => ?_))
    replace h := h (kc_in (x := ((60 * (s.1 30)) + (s.2.1 252 (s.1 30).toInt.toNat))) rfl hk)
    replace h := h _ rfl
    refine Lb_w (lb_ld rfl rfl rfl ?_)
    refine Lb_w (lb_get rfl rfl ?_)
    change Lb _ _ _ _ _ _ _ [.ref 256] _ _
    refine Lb_w (lb_ld rfl rfl rfl ?_)
    refine Lb_w (lb_c [.int (-1), .int ((60 * (s.1 30)) + (s.2.1 252 (s.1 30).toInt.toNat)), .ref 256] (xo_push (.int (-1))) rfl rfl ?_)
    refine Lb_w (lb_ias rfl rfl (fun hk => ?_))
    replace h := h (kc_in (x := ((60 * (s.1 30)) + (s.2.1 252 (s.1 30).toInt.toNat))) rfl hk)
    replace h := h _ rfl
    refine Lb_w (lb_ld rfl rfl rfl ?_)
    refine Lb_w (lb_c [.int 91, .ref 213] (xo_push (.int 91)) rfl rfl ?_)
    refine Lb_w (lb_call [.ref 213, .int 91] [] rfl rfl rfl (Par.imp h (fun v18 s17 h => ?_)))
    obtain ⟨x19, rfl, h⟩ := h
    change Lb _ _ _ _ _ _ _ [.int x19] _ _
    refine Lb_w (lb_brP rfl rfl ⟨fun hc => ?_, fun hc => ?_⟩)
    · replace h := h.1 ((i_eq (x := x19) (y := 0) rfl (show (0 : Int32).toInt = 0 by decide)).mp hc)
      exact lk_184_103  h
    · replace h := h.2 (fun q => hc ((i_eq (x := x19) (y := 0) rfl (show (0 : Int32).toInt = 0 by decide)).mpr q))
      refine Lb_w (lb_ld rfl rfl rfl ?_)
      refine Lb_w (lb_get rfl rfl ?_)
      change Lb _ _ _ _ _ _ _ [.ref 256] _ _
      refine Lb_w (lb_ld rfl rfl rfl ?_)
      refine Lb_w (lb_ld rfl rfl rfl ?_)
      refine Lb_w (lb_call [.ref 213] [.int ((60 * (s.1 30)) + (s.2.1 252 (s.1 30).toInt.toNat)), .ref 256] rfl rfl rfl (Par.imp h (fun v21 s20 h => ?_)))
      obtain ⟨x22, rfl, h⟩ := h
      change Lb _ _ _ _ _ _ _ [.int x22, .int ((60 * (s.1 30)) + (s.2.1 252 (s.1 30).toInt.toNat)), .ref 256] _ _
      refine Lb_w (lb_ias rfl rfl (fun hk => ?_))
      replace h := h (kc_in (x := ((60 * (s.1 30)) + (s.2.1 252 (s.1 30).toInt.toNat))) rfl hk)
      replace h := h _ rfl
      refine Lb_w (lb_ld rfl rfl rfl ?_)
      refine Lb_w (lb_get rfl rfl ?_)
      change Lb _ _ _ _ _ _ _ [.ref 255] _ _
      refine Lb_w (lb_ld rfl rfl rfl ?_)
      refine Lb_w (lb_c [.int 1, .int ((60 * (s.1 30)) + (s.2.1 252 (s.1 30).toInt.toNat)), .ref 255] (xo_push (.int 1)) rfl rfl ?_)
      refine Lb_w (lb_ias rfl rfl (fun hk => ?_))
      replace h := h (kc_in (x := ((60 * (s.1 30)) + (s.2.1 252 (s.1 30).toInt.toNat))) rfl hk)
      replace h := h _ rfl
      exact lkl_184_70  h
  · replace h := h.2 ((i_eq (x := s.2.1 252 (s.1 30).toInt.toNat) (y := 60) rfl (show (60 : Int32).toInt = 60 by decide)).mp hc)
    refine Lb_w (lb_ld rfl rfl rfl ?_)
    refine Lb_w (lb_c [.int 5, .ref 213] (xo_push (.int 5)) rfl rfl ?_)
    refine Lb_w (lb_ld rfl rfl rfl ?_)
    refine Lb_w (lb_get rfl rfl ?_)
    change Lb _ _ _ _ _ _ _ [.int (s.1 7), .int 5, .ref 213] _ _
    refine Lb_w (lb_call [.ref 213, .int 5, .int (s.1 7)] [] rfl rfl rfl (Par.imp h (fun v26 s25 h => ?_)))
    obtain ⟨rfl, h⟩ := h
    change Lb _ _ _ _ _ _ _ [] _ _
    exact Lb_w (lb_ret0 rfl h)
theorem pb_184 {d : Nat}  {s : yS} {P : Option Value → yS → Prop} (h : ub_184_0 (Par d)  s P) : Par (d + 1) 184 [.ref 213] s P := par_of (E := xE_184) (ml := 3) (ret := none) rfl (fun _ => lk_184_0 h)
/-! codeOf -/
def ub_185_0 (T : Nat → List Value → yS → (Option Value → yS → Prop) → Prop)  (a0 : Int32) (s : yS) (P : Option Value → yS → Prop) : Prop :=
  (0 ≤ a0.toInt → ∀ x1 : Int32, x1.toInt = a0.toInt / 8 → P (some (.int x1)) s)
set_option maxRecDepth 20000 in
theorem lk_185_0 {d N0 : Nat}  {a0 : Int32} {s : yS} {P : Option Value → yS → Prop}  (h : ub_185_0 (Par d)  a0 s P) : Lb d N0 1 (some .int) xE_185 (xE_185.drop 0) [.int a0, .null] [] s P := by
  unfold ub_185_0 at h
  refine Lb_w (lb_ld rfl rfl rfl ?_)
  refine Lb_w (lb_c [.int 3, .int a0] (xo_push (.int 3)) rfl rfl ?_)
  refine Lb_w (lb_ca [.int (a0 >>> ((3 : Int32) &&& 31))] xo_ishr rfl rfl (fun _ hk => ?_))
  replace hk := kc_shr (x := a0) rfl hk
  replace h := h hk _ (i_shr3 (x := a0) rfl hk)
  exact Lb_w (lb_retI rfl h)
theorem pb_185 {d : Nat} {a0 : Int32} {s : yS} {P : Option Value → yS → Prop} (h : ub_185_0 (Par d) a0 s P) : Par (d + 1) 185 [.int a0] s P := par_of (E := xE_185) (ml := 1) (ret := some .int) rfl (fun _ => lk_185_0 h)
/-! behind -/
def ub_186_4 (T : Nat → List Value → yS → (Option Value → yS → Prop) → Prop) (R4 : Int32 → Int32 → Int32 → yS → Prop) (a1 : Int32) (a2 : Int32) (a3 : Int32) (s : yS) (P : Option Value → yS → Prop) : Prop :=
  (a2.toInt ≤ 0 → P (some (.int a3)) s) ∧ (¬ (a2.toInt ≤ 0) → ((0 ≤ a3.toInt ∧ a3.toInt < 200000) → (0 ≤ (s.2.1 264 a3.toInt.toNat).toInt → ∀ x1 : Int32, x1.toInt = (s.2.1 264 a3.toInt.toNat).toInt % 8 → ((-2147483648 ≤ x1.toInt - 1 ∧ x1.toInt - 1 ≤ 2147483647) → ∀ x2 : Int32, x2.toInt = x1.toInt - 1 → ((-2147483648 ≤ a2.toInt + x2.toInt ∧ a2.toInt + x2.toInt ≤ 2147483647) → ∀ x3 : Int32, x3.toInt = a2.toInt + x2.toInt → ((-2147483648 ≤ a3.toInt + 1 ∧ a3.toInt + 1 ≤ 2147483647) → ∀ x4 : Int32, x4.toInt = a3.toInt + 1 → R4 a1 x3 x4  s))))))
set_option maxRecDepth 20000 in
theorem lk_186_4 {d N0 : Nat} {R4 : Int32 → Int32 → Int32 → yS → Prop} {a1 : Int32} {a2 : Int32} {a3 : Int32} {s : yS} {P : Option Value → yS → Prop} (r4 : ∀ a1 a2 a3 s, R4 a1 a2 a3 s → Lb d N0 4 (some .int) xE_186 (xE_186.drop 4) [.ref 213, .int a1, .int a2, .int a3, .null, .null] [] s P) (h : ub_186_4 (Par d) R4 a1 a2 a3 s P) : Lb d (N0 + 1) 4 (some .int) xE_186 (xE_186.drop 4) [.ref 213, .int a1, .int a2, .int a3, .null, .null] [] s P := by
  unfold ub_186_4 at h
  refine lb_ld rfl rfl rfl ?_
  refine Lb_w (lb_brP rfl rfl ⟨fun hc => ?_, fun hc => ?_⟩)
  · replace h := h.1 ((i_le (x := a2) (y := 0) rfl (show (0 : Int32).toInt = 0 by decide)).mp hc)
    refine Lb_w (lb_ld rfl rfl rfl ?_)
    exact Lb_w (lb_retI rfl h)
  · replace h := h.2 (fun q => hc ((i_le (x := a2) (y := 0) rfl (show (0 : Int32).toInt = 0 by decide)).mpr q))
    refine Lb_w (lb_ld rfl rfl rfl ?_)
    refine Lb_w (lb_ld rfl rfl rfl ?_)
    refine Lb_w (lb_get rfl rfl ?_)
    change Lb _ _ _ _ _ _ _ [.ref 264, .int a2] _ _
    refine Lb_w (lb_ld rfl rfl rfl ?_)
    refine Lb_w (lb_ial rfl rfl (fun hk => ?_))
    change Lb _ _ _ _ _ _ _ [.int (s.2.1 264 a3.toInt.toNat), .int a2] _ _
    replace h := h (kc_in (x := a3) rfl hk)
    refine Lb_w (lb_c [.int 7, .int (s.2.1 264 a3.toInt.toNat), .int a2] (xo_push (.int 7)) rfl rfl ?_)
    refine Lb_w (lb_ca [.int ((s.2.1 264 a3.toInt.toNat) &&& 7), .int a2] xo_iand rfl rfl (fun _ hk => ?_))
    replace hk := kc_and (x := s.2.1 264 a3.toInt.toNat) (y := 7) rfl (by decide) hk
    replace h := h hk _ (i_and7 (x := s.2.1 264 a3.toInt.toNat) rfl hk)
    refine Lb_w (lb_c [.int 1, .int ((s.2.1 264 a3.toInt.toNat) &&& 7), .int a2] (xo_push (.int 1)) rfl rfl ?_)
    refine Lb_w (lb_ca [.int (((s.2.1 264 a3.toInt.toNat) &&& 7) - 1), .int a2] xo_isub rfl rfl (fun _ hk => ?_))
    replace hk := kc_sub (x := ((s.2.1 264 a3.toInt.toNat) &&& 7)) (y := 1) rfl (show (1 : Int32).toInt = 1 by decide) hk
    replace h := h hk _ (i_sub (x := ((s.2.1 264 a3.toInt.toNat) &&& 7)) (y := 1) rfl (show (1 : Int32).toInt = 1 by decide) hk)
    refine Lb_w (lb_ca [.int (a2 + (((s.2.1 264 a3.toInt.toNat) &&& 7) - 1))] xo_iadd rfl rfl (fun _ hk => ?_))
    replace hk := kc_add (x := a2) (y := (((s.2.1 264 a3.toInt.toNat) &&& 7) - 1)) rfl rfl hk
    replace h := h hk _ (i_add (x := a2) (y := (((s.2.1 264 a3.toInt.toNat) &&& 7) - 1)) rfl rfl hk)
    refine Lb_w (lb_st [.ref 213, .int a1, .int (a2 + (((s.2.1 264 a3.toInt.toNat) &&& 7) - 1)), .int a3, .null, .null] rfl rfl rfl ?_)
    refine Lb_w (lb_inc [.ref 213, .int a1, .int (a2 + (((s.2.1 264 a3.toInt.toNat) &&& 7) - 1)), .int (a3 + 1), .null, .null] rfl rfl rfl rfl (fun hk => ?_))
    replace hk := kc_inc (x := a3) (n := 1) rfl hk
    replace h := h hk _ (i_add (x := a3) (y := 1) rfl (show (1 : Int32).toInt = 1 by decide) hk)
    refine Lb_w (lb_go rfl ?_)
    exact r4 a1 (a2 + (((s.2.1 264 a3.toInt.toNat) &&& 7) - 1)) (a3 + 1)  s h
def ubl_186_4 (T : Nat → List Value → yS → (Option Value → yS → Prop) → Prop)  (a1 : Int32) (a2 : Int32) (a3 : Int32) (s : yS) (P : Option Value → yS → Prop) : Prop :=
  ∃ (I : Int32 → Int32 → Int32 → yS → Prop), I a1 a2 a3 s ∧ ∀ (a1 : Int32) (a2 : Int32) (a3 : Int32) (s : yS), I a1 a2 a3 s → ub_186_4 T I a1 a2 a3 s P
theorem lkl_186_4 {d N0 : Nat}  {a1 : Int32} {a2 : Int32} {a3 : Int32} {s : yS} {P : Option Value → yS → Prop}  (h : ubl_186_4 (Par d)  a1 a2 a3 s P) : Lb d N0 4 (some .int) xE_186 (xE_186.drop 4) [.ref 213, .int a1, .int a2, .int a3, .null, .null] [] s P := by
  obtain ⟨I, h0, h1⟩ := h
  have key : ∀ (m : Nat), m ≤ N0 → ∀ (a1 : Int32) (a2 : Int32) (a3 : Int32) (s : yS), I a1 a2 a3 s → Lb d m 4 (some .int) xE_186 (xE_186.drop 4) [.ref 213, .int a1, .int a2, .int a3, .null, .null] [] s P := by
    intro m
    induction m with
    | zero => exact fun _ a1 a2 a3 s _ => Lb_0
    | succ m ih =>
      intro hm
      replace hm : m ≤ N0 := Nat.le_of_succ_le hm
      replace ih := ih hm
      intro a1 a2 a3 s hI
      exact lk_186_4 ih (h1 a1 a2 a3 s hI)
  exact key N0 (Nat.le_refl _) a1 a2 a3 s h0
def ub_186_0 (T : Nat → List Value → yS → (Option Value → yS → Prop) → Prop)  (a1 : Int32) (s : yS) (P : Option Value → yS → Prop) : Prop :=
  ubl_186_4 T  a1 1 a1  s P
set_option maxRecDepth 20000 in
theorem lk_186_0 {d N0 : Nat}  {a1 : Int32} {s : yS} {P : Option Value → yS → Prop}  (h : ub_186_0 (Par d)  a1 s P) : Lb d N0 4 (some .int) xE_186 (xE_186.drop 0) [.ref 213, .int a1, .null, .null, .null, .null] [] s P := by
  unfold ub_186_0 at h
  refine Lb_w (lb_c [.int 1] (xo_push (.int 1)) rfl rfl ?_)
  refine Lb_w (lb_st [.ref 213, .int a1, .int 1, .null, .null, .null] rfl rfl rfl ?_)
  refine Lb_w (lb_ld rfl rfl rfl ?_)
  refine Lb_w (lb_st [.ref 213, .int a1, .int 1, .int a1, .null, .null] rfl rfl rfl ?_)
  exact lkl_186_4  h
theorem pb_186 {d : Nat} {a1 : Int32} {s : yS} {P : Option Value → yS → Prop} (h : ub_186_0 (Par d) a1 s P) : Par (d + 1) 186 [.ref 213, .int a1] s P := par_of (E := xE_186) (ml := 4) (ret := some .int) rfl (fun _ => lk_186_0 h)
