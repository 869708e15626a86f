/-! ===== the class: Stock.make (wip/p3/zdec.py), in any sane state ===== -/
/-! FeatherBench$Stock.make -/
def v_97_88 (T : Nat → List Value → zS → (Option Value → zS → Prop) → Prop) (P : Nat)  (a2 : Int32) (a3 : Int32) (t1 : Int32) (s : zS) (Q : Option Value → zS → Prop) : Prop :=
  (0 ≤ t1.toInt ∧ t1.toInt ≤ 1) ∧ (∀ s1, s1 = zf s 197 9 t1 → Q none s1)
def v_97_81 (T : Nat → List Value → zS → (Option Value → zS → Prop) → Prop) (P : Nat)  (a2 : Int32) (a3 : Int32) (s : zS) (Q : Option Value → zS → Prop) : Prop :=
  (¬ ((s.1 197 10).toInt = 0) → v_97_88 T P  a2 a3 0 s Q) ∧ ((s.1 197 10).toInt = 0 → v_97_88 T P  a2 a3 1 s Q)
def v_97_79 (T : Nat → List Value → zS → (Option Value → zS → Prop) → Prop) (P : Nat) (R35 : Int32 → Int32 → zS → Prop) (a2 : Int32) (a3 : Int32) (a4 : Int32) (s : zS) (Q : Option Value → zS → Prop) : Prop :=
  ∀ x1 : Int32, (-2147483648 ≤ a3.toInt + 1 ∧ a3.toInt + 1 ≤ 2147483647 → x1.toInt = a3.toInt + 1) → R35 a2 x1 s
def v_97_63 (T : Nat → List Value → zS → (Option Value → zS → Prop) → Prop) (P : Nat) (R35 : Int32 → Int32 → zS → Prop) (R63 : Int32 → Int32 → Int32 → zS → Prop) (a2 : Int32) (a3 : Int32) (a4 : Int32) (s : zS) (Q : Option Value → zS → Prop) : Prop :=
  T 96 [.ref 197] s (fun v1 s2 => ∃ x3, v1 = some (.int x3) ∧ ((x3.toInt ≤ a4.toInt → v_97_79 T P R35 a2 a3 a4 s2 Q) ∧ (¬ (x3.toInt ≤ a4.toInt) → (¬ ((s2.1 197 10).toInt = 0) → v_97_79 T P R35 a2 a3 a4 s2 Q) ∧ ((s2.1 197 10).toInt = 0 → ∀ x4 : Int32, (-2147483648 ≤ a4.toInt * 9 ∧ a4.toInt * 9 ≤ 2147483647 → x4.toInt = a4.toInt * 9) → T 101 [.ref 197, .int x4] s2 (fun v5 s6 => ∃ x7, v5 = some (.int x7) ∧ (T 105 [.ref 197, .int x7] s6 (fun v8 s9 => v8 = none ∧ (∀ x10 : Int32, (-2147483648 ≤ a4.toInt + 1 ∧ a4.toInt + 1 ≤ 2147483647 → x10.toInt = a4.toInt + 1) → R63 a2 a3 x10 s9))))))))
def vl_97_63 (T : Nat → List Value → zS → (Option Value → zS → Prop) → Prop) (P : Nat) (R35 : Int32 → Int32 → zS → Prop) (a2 : Int32) (a3 : Int32) (a4 : Int32) (s : zS) (Q : Option Value → zS → Prop) : Prop :=
  ∃ (I : Int32 → Int32 → Int32 → zS → Prop) (μ : Int32 → Int32 → Int32 → zS → Nat), I a2 a3 a4 s ∧ ∀ (a2 : Int32) (a3 : Int32) (a4 : Int32) (s : zS), I a2 a3 a4 s → v_97_63 T P R35 (fun a2' a3' a4' s' => I a2' a3' a4' s' ∧ μ a2' a3' a4' s' < μ a2 a3 a4 s) a2 a3 a4 s Q
def v_97_50 (T : Nat → List Value → zS → (Option Value → zS → Prop) → Prop) (P : Nat) (R35 : Int32 → Int32 → zS → Prop) (R50 : Int32 → Int32 → Int32 → zS → Prop) (a2 : Int32) (a3 : Int32) (a4 : Int32) (s : zS) (Q : Option Value → zS → Prop) : Prop :=
  T 95 [.ref 197] s (fun v1 s2 => ∃ x3, v1 = some (.int x3) ∧ ((x3.toInt ≤ a4.toInt → vl_97_63 T P R35 a2 a3 a2 s2 Q) ∧ (¬ (x3.toInt ≤ a4.toInt) → ∀ x4 : Int32, (-2147483648 ≤ a4.toInt * 10 ∧ a4.toInt * 10 ≤ 2147483647 → x4.toInt = a4.toInt * 10) → T 99 [.ref 197, .int x4] s2 (fun v5 s6 => v5 = none ∧ (∀ x7 : Int32, (-2147483648 ≤ a4.toInt + 1 ∧ a4.toInt + 1 ≤ 2147483647 → x7.toInt = a4.toInt + 1) → R50 a2 a3 x7 s6)))))
def vl_97_50 (T : Nat → List Value → zS → (Option Value → zS → Prop) → Prop) (P : Nat) (R35 : Int32 → Int32 → zS → Prop) (a2 : Int32) (a3 : Int32) (a4 : Int32) (s : zS) (Q : Option Value → zS → Prop) : Prop :=
  ∃ (I : Int32 → Int32 → Int32 → zS → Prop) (μ : Int32 → Int32 → Int32 → zS → Nat), I a2 a3 a4 s ∧ ∀ (a2 : Int32) (a3 : Int32) (a4 : Int32) (s : zS), I a2 a3 a4 s → v_97_50 T P R35 (fun a2' a3' a4' s' => I a2' a3' a4' s' ∧ μ a2' a3' a4' s' < μ a2 a3 a4 s) a2 a3 a4 s Q
def v_97_35 (T : Nat → List Value → zS → (Option Value → zS → Prop) → Prop) (P : Nat) (R35 : Int32 → Int32 → zS → Prop) (a2 : Int32) (a3 : Int32) (s : zS) (Q : Option Value → zS → Prop) : Prop :=
  (150 < a3.toInt → v_97_81 T P  a2 a3 s Q) ∧ (¬ (150 < a3.toInt) → T 96 [.ref 197] s (fun v1 s2 => ∃ x3, v1 = some (.int x3) ∧ ((x3.toInt ≤ a2.toInt → v_97_81 T P  a2 a3 s2 Q) ∧ (¬ (x3.toInt ≤ a2.toInt) → (¬ ((s2.1 197 10).toInt = 0) → v_97_81 T P  a2 a3 s2 Q) ∧ ((s2.1 197 10).toInt = 0 → T 96 [.ref 197] s2 (fun v4 s5 => ∃ x6, v4 = some (.int x6) ∧ (vl_97_50 T P R35 x6 a3 0 s5 Q)))))))
def vl_97_35 (T : Nat → List Value → zS → (Option Value → zS → Prop) → Prop) (P : Nat)  (a2 : Int32) (a3 : Int32) (s : zS) (Q : Option Value → zS → Prop) : Prop :=
  ∃ (I : Int32 → Int32 → zS → Prop) (μ : Int32 → Int32 → zS → Nat), I a2 a3 s ∧ ∀ (a2 : Int32) (a3 : Int32) (s : zS), I a2 a3 s → v_97_35 T P (fun a2' a3' s' => I a2' a3' s' ∧ μ a2' a3' s' < μ a2 a3 s) a2 a3 s Q
def v_97_0 (T : Nat → List Value → zS → (Option Value → zS → Prop) → Prop) (P : Nat)   (s : zS) (Q : Option Value → zS → Prop) : Prop :=
  ∀ s1, s1 = zf s 198 2 0 → ∀ s2, s2 = zf s1 200 2 0 → ∀ s3, s3 = zf s2 202 2 0 → ∀ s4, s4 = zf s3 197 7 9618 → ∀ s5, s5 = zf s4 197 8 1 → ∀ s6, s6 = zf s5 197 10 0 → T 105 [.ref 197, .int (s6.1 P 12)] s6 (fun v7 s8 => v7 = none ∧ (vl_97_35 T P  (-1) 0 s8 Q))
set_option maxRecDepth 20000 in
theorem m_97_88_3 {d d0 : Nat} (hd : d = d0 + 8)  {a2 : Int32} {a3 : Int32} {t1 : Int32} {s : zS} {Q : Option Value → zS → Prop}  (h : v_97_88 (fun j => Zt d (wd2 3 j) j) 3  a2 a3 t1 s Q) : Zn d [(197, 5), (197, 6)] [(3, 98), (0, 198)] ([(197, 6, 21), (197, 5, 3), (75, 0, 3), (75, 1, 21), (75, 2, 25)] : zW) ([(197, 6, 21), (197, 5, 3), (75, 0, 3), (75, 1, 21), (75, 2, 25)] : zW) xL_8 5 (none) xE_97 (xE_97.drop 88) [.ref 197, .ref 3, .int a2, .int a3, .null, .null, .null] [.int t1, .ref 197] s Q := by
  unfold v_97_88 at h
  refine zn_putI (a := 197) rfl rfl rfl rfl h.1 (i_z (x := t1) rfl (by have := h.1; omega)) rfl rfl ?_
  replace h := h.2
  replace h := h _ rfl
  exact zn_ret0 rfl h
set_option maxRecDepth 20000 in
theorem m_97_81_3 {d d0 : Nat} (hd : d = d0 + 8)  {a2 : Int32} {a3 : Int32} {s : zS} {Q : Option Value → zS → Prop}  (h : v_97_81 (fun j => Zt d (wd2 3 j) j) 3  a2 a3 s Q) : Zn d [(197, 5), (197, 6)] [(3, 98), (0, 198)] ([(197, 6, 21), (197, 5, 3), (75, 0, 3), (75, 1, 21), (75, 2, 25)] : zW) ([(197, 6, 21), (197, 5, 3), (75, 0, 3), (75, 1, 21), (75, 2, 25)] : zW) xL_8 5 (none) xE_97 (xE_97.drop 81) [.ref 197, .ref 3, .int a2, .int a3, .null, .null, .null] [] s Q := by
  unfold v_97_81 at h
  refine zn_ld rfl rfl rfl ?_
  refine zn_ld rfl rfl rfl ?_
  refine zn_get (v := .int (s.1 197 10)) rfl (zv_I (a := 197) rfl rfl) ?_
  refine zn_brN rfl rfl ⟨fun hcn => ?_, fun hcn => ?_⟩
  · replace h := h.1 (fun q => hcn ((i_eq (x := s.1 197 10) (y := 0) rfl (show (0 : Int32).toInt = 0 by decide)).mpr q))
    refine zn_c [.int 0, .ref 197] (xo_push (.int 0)) rfl rfl ?_
    exact m_97_88_3 hd  h
  · replace h := h.2 ((i_eq (x := s.1 197 10) (y := 0) rfl (show (0 : Int32).toInt = 0 by decide)).mp hcn)
    refine zn_c [.int 1, .ref 197] (xo_push (.int 1)) rfl rfl ?_
    refine zn_go rfl ?_
    exact m_97_88_3 hd  h
set_option maxRecDepth 20000 in
theorem m_97_79_3 {d d0 : Nat} (hd : d = d0 + 8) {R35 : Int32 → Int32 → zS → Prop} {a2 : Int32} {a3 : Int32} {a4 : Int32} {s : zS} {Q : Option Value → zS → Prop} (r35 : ∀ a2 a3 s, R35 a2 a3 s → Zn d [(197, 5), (197, 6)] [(3, 98), (0, 198)] ([(197, 6, 21), (197, 5, 3), (75, 0, 3), (75, 1, 21), (75, 2, 25)] : zW) ([(197, 6, 21), (197, 5, 3), (75, 0, 3), (75, 1, 21), (75, 2, 25)] : zW) xL_8 5 (none) xE_97 (xE_97.drop 35) [.ref 197, .ref 3, .int a2, .int a3, .null, .null, .null] [] s Q) (h : v_97_79 (fun j => Zt d (wd2 3 j) j) 3 R35 a2 a3 a4 s Q) : Zn d [(197, 5), (197, 6)] [(3, 98), (0, 198)] ([(197, 6, 21), (197, 5, 3), (75, 0, 3), (75, 1, 21), (75, 2, 25)] : zW) ([(197, 6, 21), (197, 5, 3), (75, 0, 3), (75, 1, 21), (75, 2, 25)] : zW) xL_8 5 (none) xE_97 (xE_97.drop 79) [.ref 197, .ref 3, .int a2, .int a3, .int a4, .null, .null] [] s Q := by
  unfold v_97_79 at h
  replace h := h _ (i_add (x := a3) (y := 1) rfl (show (1 : Int32).toInt = 1 by decide))
  refine zn_inc [.ref 197, .ref 3, .int a2, .int (a3 + 1), .int a4, .null, .null] rfl rfl rfl rfl ?_
  refine zn_go rfl ?_
  refine zn_fg 4 ?_
  exact r35 a2 (a3 + 1) s h
set_option maxRecDepth 20000 in
theorem m_97_63_3 {d d0 : Nat} (hd : d = d0 + 8) {R35 : Int32 → Int32 → zS → Prop} {R63 : Int32 → Int32 → Int32 → zS → Prop} {a2 : Int32} {a3 : Int32} {a4 : Int32} {s : zS} {Q : Option Value → zS → Prop} (r35 : ∀ a2 a3 s, R35 a2 a3 s → Zn d [(197, 5), (197, 6)] [(3, 98), (0, 198)] ([(197, 6, 21), (197, 5, 3), (75, 0, 3), (75, 1, 21), (75, 2, 25)] : zW) ([(197, 6, 21), (197, 5, 3), (75, 0, 3), (75, 1, 21), (75, 2, 25)] : zW) xL_8 5 (none) xE_97 (xE_97.drop 35) [.ref 197, .ref 3, .int a2, .int a3, .null, .null, .null] [] s Q) (r63 : ∀ a2 a3 a4 s, R63 a2 a3 a4 s → Zn d [(197, 5), (197, 6)] [(3, 98), (0, 198)] ([(197, 6, 21), (197, 5, 3), (75, 0, 3), (75, 1, 21), (75, 2, 25)] : zW) ([(197, 6, 21), (197, 5, 3), (75, 0, 3), (75, 1, 21), (75, 2, 25)] : zW) xL_8 5 (none) xE_97 (xE_97.drop 63) [.ref 197, .ref 3, .int a2, .int a3, .int a4, .null, .null] [] s Q) (h : v_97_63 (fun j => Zt d (wd2 3 j) j) 3 R35 R63 a2 a3 a4 s Q) : Zn d [(197, 5), (197, 6)] [(3, 98), (0, 198)] ([(197, 6, 21), (197, 5, 3), (75, 0, 3), (75, 1, 21), (75, 2, 25)] : zW) ([(197, 6, 21), (197, 5, 3), (75, 0, 3), (75, 1, 21), (75, 2, 25)] : zW) xL_8 5 (none) xE_97 (xE_97.drop 63) [.ref 197, .ref 3, .int a2, .int a3, .int a4, .null, .null] [] s Q := by
  unfold v_97_63 at h
  refine zn_ld rfl rfl rfl ?_
  refine zn_ld rfl rfl rfl ?_
  refine zn_zt [.ref 197] [.int a4] rfl rfl rfl rfl rfl (Zt.imp h (fun v1 s2 h => ?_))
  obtain ⟨x3, rfl, h⟩ := h
  change Zn _ _ _ _ _ _ _ _ _ _ _ [.int x3, .int a4] _ _
  refine zn_brP rfl rfl ⟨fun hcn => ?_, fun hcn => ?_⟩
  · replace h := h.1 ((i_le (x := x3) (y := a4) rfl rfl).mp hcn)
    exact m_97_79_3 hd r35 h
  · replace h := h.2 (fun q => hcn ((i_le (x := x3) (y := a4) rfl rfl).mpr q))
    refine zn_ld rfl rfl rfl ?_
    refine zn_get (v := .int (s2.1 197 10)) rfl (zv_I (a := 197) rfl rfl) ?_
    refine zn_brN rfl rfl ⟨fun hcn => ?_, fun hcn => ?_⟩
    · replace h := h.1 (fun q => hcn ((i_eq (x := s2.1 197 10) (y := 0) rfl (show (0 : Int32).toInt = 0 by decide)).mpr q))
      exact m_97_79_3 hd r35 h
    · replace h := h.2 ((i_eq (x := s2.1 197 10) (y := 0) rfl (show (0 : Int32).toInt = 0 by decide)).mp hcn)
      refine zn_ld rfl rfl rfl ?_
      refine zn_ld rfl rfl rfl ?_
      refine zn_ld rfl rfl rfl ?_
      refine zn_c [.int 9, .int a4, .ref 197, .ref 197] (xo_push (.int 9)) rfl rfl ?_
      replace h := h _ (i_mul (x := a4) (y := 9) rfl (show (9 : Int32).toInt = 9 by decide))
      refine zn_c [.int (a4 * 9), .ref 197, .ref 197] xo_imul rfl rfl ?_
      refine zn_zt [.ref 197, .int (a4 * 9)] [.ref 197] rfl rfl rfl rfl rfl (Zt.imp h (fun v5 s6 h => ?_))
      obtain ⟨x7, rfl, h⟩ := h
      change Zn _ _ _ _ _ _ _ _ _ _ _ [.int x7, .ref 197] _ _
      refine zn_zt [.ref 197, .int x7] [] rfl rfl rfl rfl rfl (Zt.imp h (fun v8 s9 h => ?_))
      obtain ⟨rfl, h⟩ := h
      change Zn _ _ _ _ _ _ _ _ _ _ _ [] _ _
      replace h := h _ (i_add (x := a4) (y := 1) rfl (show (1 : Int32).toInt = 1 by decide))
      refine zn_inc [.ref 197, .ref 3, .int a2, .int a3, .int (a4 + 1), .null, .null] rfl rfl rfl rfl ?_
      refine zn_go rfl ?_
      exact r63 a2 a3 (a4 + 1) s9 h
theorem ml_97_63_3 {d d0 : Nat} (hd : d = d0 + 8) {R35 : Int32 → Int32 → zS → Prop} {a2 : Int32} {a3 : Int32} {a4 : Int32} {s : zS} {Q : Option Value → zS → Prop} (r35 : ∀ a2 a3 s, R35 a2 a3 s → Zn d [(197, 5), (197, 6)] [(3, 98), (0, 198)] ([(197, 6, 21), (197, 5, 3), (75, 0, 3), (75, 1, 21), (75, 2, 25)] : zW) ([(197, 6, 21), (197, 5, 3), (75, 0, 3), (75, 1, 21), (75, 2, 25)] : zW) xL_8 5 (none) xE_97 (xE_97.drop 35) [.ref 197, .ref 3, .int a2, .int a3, .null, .null, .null] [] s Q) (h : vl_97_63 (fun j => Zt d (wd2 3 j) j) 3 R35 a2 a3 a4 s Q) : Zn d [(197, 5), (197, 6)] [(3, 98), (0, 198)] ([(197, 6, 21), (197, 5, 3), (75, 0, 3), (75, 1, 21), (75, 2, 25)] : zW) ([(197, 6, 21), (197, 5, 3), (75, 0, 3), (75, 1, 21), (75, 2, 25)] : zW) xL_8 5 (none) xE_97 (xE_97.drop 63) [.ref 197, .ref 3, .int a2, .int a3, .int a4, .null, .null] [] s Q := by
  obtain ⟨I, μ, h0, h1⟩ := h
  have key : ∀ (n : Nat) (a2 : Int32) (a3 : Int32) (a4 : Int32) (s : zS), μ a2 a3 a4 s = n → I a2 a3 a4 s → Zn d [(197, 5), (197, 6)] [(3, 98), (0, 198)] ([(197, 6, 21), (197, 5, 3), (75, 0, 3), (75, 1, 21), (75, 2, 25)] : zW) ([(197, 6, 21), (197, 5, 3), (75, 0, 3), (75, 1, 21), (75, 2, 25)] : zW) xL_8 5 (none) xE_97 (xE_97.drop 63) [.ref 197, .ref 3, .int a2, .int a3, .int a4, .null, .null] [] s Q := by
    intro n
    induction n using Nat.strongRecOn with
    | ind n ih =>
      intro a2 a3 a4 s e hI
      exact m_97_63_3 hd r35 (fun a2' a3' a4' s' q => ih _ (by rw [← e]; exact q.2) a2' a3' a4' s' rfl q.1) (h1 a2 a3 a4 s hI)
  exact key _ a2 a3 a4 s rfl h0
set_option maxRecDepth 20000 in
theorem m_97_50_3 {d d0 : Nat} (hd : d = d0 + 8) {R35 : Int32 → Int32 → zS → Prop} {R50 : Int32 → Int32 → Int32 → zS → Prop} {a2 : Int32} {a3 : Int32} {a4 : Int32} {s : zS} {Q : Option Value → zS → Prop} (r35 : ∀ a2 a3 s, R35 a2 a3 s → Zn d [(197, 5), (197, 6)] [(3, 98), (0, 198)] ([(197, 6, 21), (197, 5, 3), (75, 0, 3), (75, 1, 21), (75, 2, 25)] : zW) ([(197, 6, 21), (197, 5, 3), (75, 0, 3), (75, 1, 21), (75, 2, 25)] : zW) xL_8 5 (none) xE_97 (xE_97.drop 35) [.ref 197, .ref 3, .int a2, .int a3, .null, .null, .null] [] s Q) (r50 : ∀ a2 a3 a4 s, R50 a2 a3 a4 s → Zn d [(197, 5), (197, 6)] [(3, 98), (0, 198)] ([(197, 6, 21), (197, 5, 3), (75, 0, 3), (75, 1, 21), (75, 2, 25)] : zW) ([(197, 6, 21), (197, 5, 3), (75, 0, 3), (75, 1, 21), (75, 2, 25)] : zW) xL_8 5 (none) xE_97 (xE_97.drop 50) [.ref 197, .ref 3, .int a2, .int a3, .int a4, .null, .null] [] s Q) (h : v_97_50 (fun j => Zt d (wd2 3 j) j) 3 R35 R50 a2 a3 a4 s Q) : Zn d [(197, 5), (197, 6)] [(3, 98), (0, 198)] ([(197, 6, 21), (197, 5, 3), (75, 0, 3), (75, 1, 21), (75, 2, 25)] : zW) ([(197, 6, 21), (197, 5, 3), (75, 0, 3), (75, 1, 21), (75, 2, 25)] : zW) xL_8 5 (none) xE_97 (xE_97.drop 50) [.ref 197, .ref 3, .int a2, .int a3, .int a4, .null, .null] [] s Q := by
  unfold v_97_50 at h
  refine zn_ld rfl rfl rfl ?_
  refine zn_ld rfl rfl rfl ?_
  refine zn_zt [.ref 197] [.int a4] rfl rfl rfl rfl rfl (Zt.imp h (fun v1 s2 h => ?_))
  obtain ⟨x3, rfl, h⟩ := h
  change Zn _ _ _ _ _ _ _ _ _ _ _ [.int x3, .int a4] _ _
  refine zn_brP rfl rfl ⟨fun hcn => ?_, fun hcn => ?_⟩
  · replace h := h.1 ((i_le (x := x3) (y := a4) rfl rfl).mp hcn)
    refine zn_ld rfl rfl rfl ?_
    refine zn_st [.ref 197, .ref 3, .int a2, .int a3, .int a2, .null, .null] rfl rfl rfl ?_
    exact ml_97_63_3 hd r35 h
  · replace h := h.2 (fun q => hcn ((i_le (x := x3) (y := a4) rfl rfl).mpr q))
    refine zn_ld rfl rfl rfl ?_
    refine zn_ld rfl rfl rfl ?_
    refine zn_c [.int 10, .int a4, .ref 197] (xo_push (.int 10)) rfl rfl ?_
    replace h := h _ (i_mul (x := a4) (y := 10) rfl (show (10 : Int32).toInt = 10 by decide))
    refine zn_c [.int (a4 * 10), .ref 197] xo_imul rfl rfl ?_
    refine zn_zt [.ref 197, .int (a4 * 10)] [] rfl rfl rfl rfl rfl (Zt.imp h (fun v5 s6 h => ?_))
    obtain ⟨rfl, h⟩ := h
    change Zn _ _ _ _ _ _ _ _ _ _ _ [] _ _
    replace h := h _ (i_add (x := a4) (y := 1) rfl (show (1 : Int32).toInt = 1 by decide))
    refine zn_inc [.ref 197, .ref 3, .int a2, .int a3, .int (a4 + 1), .null, .null] rfl rfl rfl rfl ?_
    refine zn_go rfl ?_
    exact r50 a2 a3 (a4 + 1) s6 h
theorem ml_97_50_3 {d d0 : Nat} (hd : d = d0 + 8) {R35 : Int32 → Int32 → zS → Prop} {a2 : Int32} {a3 : Int32} {a4 : Int32} {s : zS} {Q : Option Value → zS → Prop} (r35 : ∀ a2 a3 s, R35 a2 a3 s → Zn d [(197, 5), (197, 6)] [(3, 98), (0, 198)] ([(197, 6, 21), (197, 5, 3), (75, 0, 3), (75, 1, 21), (75, 2, 25)] : zW) ([(197, 6, 21), (197, 5, 3), (75, 0, 3), (75, 1, 21), (75, 2, 25)] : zW) xL_8 5 (none) xE_97 (xE_97.drop 35) [.ref 197, .ref 3, .int a2, .int a3, .null, .null, .null] [] s Q) (h : vl_97_50 (fun j => Zt d (wd2 3 j) j) 3 R35 a2 a3 a4 s Q) : Zn d [(197, 5), (197, 6)] [(3, 98), (0, 198)] ([(197, 6, 21), (197, 5, 3), (75, 0, 3), (75, 1, 21), (75, 2, 25)] : zW) ([(197, 6, 21), (197, 5, 3), (75, 0, 3), (75, 1, 21), (75, 2, 25)] : zW) xL_8 5 (none) xE_97 (xE_97.drop 50) [.ref 197, .ref 3, .int a2, .int a3, .int a4, .null, .null] [] s Q := by
  obtain ⟨I, μ, h0, h1⟩ := h
  have key : ∀ (n : Nat) (a2 : Int32) (a3 : Int32) (a4 : Int32) (s : zS), μ a2 a3 a4 s = n → I a2 a3 a4 s → Zn d [(197, 5), (197, 6)] [(3, 98), (0, 198)] ([(197, 6, 21), (197, 5, 3), (75, 0, 3), (75, 1, 21), (75, 2, 25)] : zW) ([(197, 6, 21), (197, 5, 3), (75, 0, 3), (75, 1, 21), (75, 2, 25)] : zW) xL_8 5 (none) xE_97 (xE_97.drop 50) [.ref 197, .ref 3, .int a2, .int a3, .int a4, .null, .null] [] s Q := by
    intro n
    induction n using Nat.strongRecOn with
    | ind n ih =>
      intro a2 a3 a4 s e hI
      exact m_97_50_3 hd r35 (fun a2' a3' a4' s' q => ih _ (by rw [← e]; exact q.2) a2' a3' a4' s' rfl q.1) (h1 a2 a3 a4 s hI)
  exact key _ a2 a3 a4 s rfl h0
set_option maxRecDepth 20000 in
theorem m_97_35_3 {d d0 : Nat} (hd : d = d0 + 8) {R35 : Int32 → Int32 → zS → Prop} {a2 : Int32} {a3 : Int32} {s : zS} {Q : Option Value → zS → Prop} (r35 : ∀ a2 a3 s, R35 a2 a3 s → Zn d [(197, 5), (197, 6)] [(3, 98), (0, 198)] ([(197, 6, 21), (197, 5, 3), (75, 0, 3), (75, 1, 21), (75, 2, 25)] : zW) ([(197, 6, 21), (197, 5, 3), (75, 0, 3), (75, 1, 21), (75, 2, 25)] : zW) xL_8 5 (none) xE_97 (xE_97.drop 35) [.ref 197, .ref 3, .int a2, .int a3, .null, .null, .null] [] s Q) (h : v_97_35 (fun j => Zt d (wd2 3 j) j) 3 R35 a2 a3 s Q) : Zn d [(197, 5), (197, 6)] [(3, 98), (0, 198)] ([(197, 6, 21), (197, 5, 3), (75, 0, 3), (75, 1, 21), (75, 2, 25)] : zW) ([(197, 6, 21), (197, 5, 3), (75, 0, 3), (75, 1, 21), (75, 2, 25)] : zW) xL_8 5 (none) xE_97 (xE_97.drop 35) [.ref 197, .ref 3, .int a2, .int a3, .null, .null, .null] [] s Q := by
  unfold v_97_35 at h
  refine zn_ld rfl rfl rfl ?_
  refine zn_c [.int 150, .int a3] (xo_push (.int 150)) rfl rfl ?_
  refine zn_brP rfl rfl ⟨fun hcn => ?_, fun hcn => ?_⟩
  · replace h := h.1 ((i_lt (x := 150) (y := a3) (show (150 : Int32).toInt = 150 by decide) rfl).mp hcn)
    exact m_97_81_3 hd  h
  · replace h := h.2 (fun q => hcn ((i_lt (x := 150) (y := a3) (show (150 : Int32).toInt = 150 by decide) rfl).mpr q))
    refine zn_ld rfl rfl rfl ?_
    refine zn_ld rfl rfl rfl ?_
    refine zn_zt [.ref 197] [.int a2] rfl rfl rfl rfl rfl (Zt.imp h (fun v1 s2 h => ?_))
    obtain ⟨x3, rfl, h⟩ := h
    change Zn _ _ _ _ _ _ _ _ _ _ _ [.int x3, .int a2] _ _
    refine zn_brP rfl rfl ⟨fun hcn => ?_, fun hcn => ?_⟩
    · replace h := h.1 ((i_le (x := x3) (y := a2) rfl rfl).mp hcn)
      exact m_97_81_3 hd  h
    · replace h := h.2 (fun q => hcn ((i_le (x := x3) (y := a2) rfl rfl).mpr q))
      refine zn_ld rfl rfl rfl ?_
      refine zn_get (v := .int (s2.1 197 10)) rfl (zv_I (a := 197) rfl rfl) ?_
      refine zn_brN rfl rfl ⟨fun hcn => ?_, fun hcn => ?_⟩
      · replace h := h.1 (fun q => hcn ((i_eq (x := s2.1 197 10) (y := 0) rfl (show (0 : Int32).toInt = 0 by decide)).mpr q))
        exact m_97_81_3 hd  h
      · replace h := h.2 ((i_eq (x := s2.1 197 10) (y := 0) rfl (show (0 : Int32).toInt = 0 by decide)).mp hcn)
        refine zn_ld rfl rfl rfl ?_
        refine zn_zt [.ref 197] [] rfl rfl rfl rfl rfl (Zt.imp h (fun v4 s5 h => ?_))
        obtain ⟨x6, rfl, h⟩ := h
        change Zn _ _ _ _ _ _ _ _ _ _ _ [.int x6] _ _
        refine zn_st [.ref 197, .ref 3, .int x6, .int a3, .null, .null, .null] rfl rfl rfl ?_
        refine zn_c [.int 0] (xo_push (.int 0)) rfl rfl ?_
        refine zn_st [.ref 197, .ref 3, .int x6, .int a3, .int 0, .null, .null] rfl rfl rfl ?_
        exact ml_97_50_3 hd r35 h
theorem ml_97_35_3 {d d0 : Nat} (hd : d = d0 + 8)  {a2 : Int32} {a3 : Int32} {s : zS} {Q : Option Value → zS → Prop}  (h : vl_97_35 (fun j => Zt d (wd2 3 j) j) 3  a2 a3 s Q) : Zn d [(197, 5), (197, 6)] [(3, 98), (0, 198)] ([(197, 6, 21), (197, 5, 3), (75, 0, 3), (75, 1, 21), (75, 2, 25)] : zW) ([(197, 6, 21), (197, 5, 3), (75, 0, 3), (75, 1, 21), (75, 2, 25)] : zW) xL_8 5 (none) xE_97 (xE_97.drop 35) [.ref 197, .ref 3, .int a2, .int a3, .null, .null, .null] [] s Q := by
  obtain ⟨I, μ, h0, h1⟩ := h
  have key : ∀ (n : Nat) (a2 : Int32) (a3 : Int32) (s : zS), μ a2 a3 s = n → I a2 a3 s → Zn d [(197, 5), (197, 6)] [(3, 98), (0, 198)] ([(197, 6, 21), (197, 5, 3), (75, 0, 3), (75, 1, 21), (75, 2, 25)] : zW) ([(197, 6, 21), (197, 5, 3), (75, 0, 3), (75, 1, 21), (75, 2, 25)] : zW) xL_8 5 (none) xE_97 (xE_97.drop 35) [.ref 197, .ref 3, .int a2, .int a3, .null, .null, .null] [] s Q := by
    intro n
    induction n using Nat.strongRecOn with
    | ind n ih =>
      intro a2 a3 s e hI
      exact m_97_35_3 hd (fun a2' a3' s' q => ih _ (by rw [← e]; exact q.2) a2' a3' s' rfl q.1) (h1 a2 a3 s hI)
  exact key _ a2 a3 s rfl h0
set_option maxRecDepth 20000 in
theorem m_97_0_3 {d d0 : Nat} (hd : d = d0 + 8)   {s : zS} {Q : Option Value → zS → Prop}  (h : v_97_0 (fun j => Zt d (wd2 3 j) j) 3   s Q) : Zn d [(197, 5), (197, 6)] [(3, 98), (0, 198)] ([(75, 0, 3), (75, 1, 21), (75, 2, 25)] : zW) ([(197, 6, 21), (197, 5, 3), (75, 0, 3), (75, 1, 21), (75, 2, 25)] : zW) xL_8 5 (none) xE_97 (xE_97.drop 0) [.ref 197, .ref 3, .null, .null, .null, .null, .null] [] s Q := by
  unfold v_97_0 at h
  refine zn_ld rfl rfl rfl ?_
  refine zn_ld rfl rfl rfl ?_
  refine zn_putR (a := 197) (b := 3) rfl rfl rfl rfl rfl rfl rfl rfl rfl ?_
  refine zn_ld rfl rfl rfl ?_
  refine zn_ld rfl rfl rfl ?_
  refine zn_get (v := .ref 3) rfl (zv_C (a := 197) (n := 0) rfl rfl rfl) ?_
  refine zn_get (v := .ref 21) rfl (zv_R (a := 3) rfl rfl) ?_
  refine zn_putR (a := 197) (b := 21) rfl rfl rfl rfl rfl rfl rfl rfl rfl ?_
  refine zn_ld rfl rfl rfl ?_
  refine zn_get (v := .ref 198) rfl (zv_R (a := 197) rfl rfl) ?_
  refine zn_clr [] (a := 198) hd rfl rfl rfl rfl rfl ?_
  replace h := h _ rfl
  refine zn_ld rfl rfl rfl ?_
  refine zn_get (v := .ref 200) rfl (zv_R (a := 197) rfl rfl) ?_
  refine zn_clr [] (a := 200) hd rfl rfl rfl rfl rfl ?_
  replace h := h _ rfl
  refine zn_ld rfl rfl rfl ?_
  refine zn_get (v := .ref 202) rfl (zv_R (a := 197) rfl rfl) ?_
  refine zn_clr [] (a := 202) hd rfl rfl rfl rfl rfl ?_
  replace h := h _ rfl
  refine zn_ld rfl rfl rfl ?_
  refine zn_c [.int 9618, .ref 197] (xo_push (.int 9618)) rfl rfl ?_
  refine zn_putI (a := 197) rfl rfl rfl rfl ⟨Int32.le_toInt _, Int.le_of_lt_add_one (Int32.toInt_lt _)⟩ rfl rfl rfl ?_
  replace h := h _ rfl
  refine zn_ld rfl rfl rfl ?_
  refine zn_c [.int 1, .ref 197] (xo_push (.int 1)) rfl rfl ?_
  refine zn_putI (a := 197) rfl rfl rfl rfl (by decide) rfl rfl rfl ?_
  replace h := h _ rfl
  refine zn_ld rfl rfl rfl ?_
  refine zn_c [.int 0, .ref 197] (xo_push (.int 0)) rfl rfl ?_
  refine zn_putI (a := 197) rfl rfl rfl rfl (by decide) rfl rfl rfl ?_
  replace h := h _ rfl
  refine zn_ld rfl rfl rfl ?_
  refine zn_ld rfl rfl rfl ?_
  refine zn_get (v := .ref 3) rfl (zv_C (a := 197) (n := 1) rfl rfl rfl) ?_
  refine zn_get (v := .int ((zf (zf (zf (zf (zf (zf s 198 2 0) 200 2 0) 202 2 0) 197 7 9618) 197 8 1) 197 10 0).1 3 12)) rfl (zv_I (a := 3) rfl rfl) ?_
  refine zn_zt [.ref 197, .int ((zf (zf (zf (zf (zf (zf s 198 2 0) 200 2 0) 202 2 0) 197 7 9618) 197 8 1) 197 10 0).1 3 12)] [] rfl rfl rfl rfl rfl (Zt.imp h (fun v7 s8 h => ?_))
  obtain ⟨rfl, h⟩ := h
  change Zn _ _ _ _ _ _ _ _ _ _ _ [] _ _
  refine zn_c [.int (-1)] (xo_push (.int (-1))) rfl rfl ?_
  refine zn_st [.ref 197, .ref 3, .int (-1), .null, .null, .null, .null] rfl rfl rfl ?_
  refine zn_c [.int 0] (xo_push (.int 0)) rfl rfl ?_
  refine zn_st [.ref 197, .ref 3, .int (-1), .int 0, .null, .null, .null] rfl rfl rfl ?_
  exact ml_97_35_3 hd  h
theorem zq_97_3 {d : Nat}  {s : zS} {Q : Option Value → zS → Prop} (h : v_97_0 (fun j => Zt (d + 8) (wd2 3 j) j) 3  s Q) : Zu (d + 9) [(197, 5), (197, 6)] ([(75, 0, 3), (75, 1, 21), (75, 2, 25)] : zW) ([(197, 6, 21), (197, 5, 3), (75, 0, 3), (75, 1, 21), (75, 2, 25)] : zW) 97 [.ref 197, .ref 3] s Q := zu_of (E := xE_97) (L := xL_8) (ml := 5) (ret := none) rfl rfl rfl (m_97_0_3 rfl h)
set_option maxRecDepth 20000 in
theorem m_97_88_39 {d d0 : Nat} (hd : d = d0 + 8)  {a2 : Int32} {a3 : Int32} {t1 : Int32} {s : zS} {Q : Option Value → zS → Prop}  (h : v_97_88 (fun j => Zt d (wd2 39 j) j) 39  a2 a3 t1 s Q) : Zn d [(197, 5), (197, 6)] [(39, 98), (0, 198)] ([(197, 6, 57), (197, 5, 39), (75, 0, 39), (75, 1, 57), (75, 2, 61)] : zW) ([(197, 6, 57), (197, 5, 39), (75, 0, 39), (75, 1, 57), (75, 2, 61)] : zW) xL_8 5 (none) xE_97 (xE_97.drop 88) [.ref 197, .ref 39, .int a2, .int a3, .null, .null, .null] [.int t1, .ref 197] s Q := by
  unfold v_97_88 at h
  refine zn_putI (a := 197) rfl rfl rfl rfl h.1 (i_z (x := t1) rfl (by have := h.1; omega)) rfl rfl ?_
  replace h := h.2
  replace h := h _ rfl
  exact zn_ret0 rfl h
set_option maxRecDepth 20000 in
theorem m_97_81_39 {d d0 : Nat} (hd : d = d0 + 8)  {a2 : Int32} {a3 : Int32} {s : zS} {Q : Option Value → zS → Prop}  (h : v_97_81 (fun j => Zt d (wd2 39 j) j) 39  a2 a3 s Q) : Zn d [(197, 5), (197, 6)] [(39, 98), (0, 198)] ([(197, 6, 57), (197, 5, 39), (75, 0, 39), (75, 1, 57), (75, 2, 61)] : zW) ([(197, 6, 57), (197, 5, 39), (75, 0, 39), (75, 1, 57), (75, 2, 61)] : zW) xL_8 5 (none) xE_97 (xE_97.drop 81) [.ref 197, .ref 39, .int a2, .int a3, .null, .null, .null] [] s Q := by
  unfold v_97_81 at h
  refine zn_ld rfl rfl rfl ?_
  refine zn_ld rfl rfl rfl ?_
  refine zn_get (v := .int (s.1 197 10)) rfl (zv_I (a := 197) rfl rfl) ?_
  refine zn_brN rfl rfl ⟨fun hcn => ?_, fun hcn => ?_⟩
  · replace h := h.1 (fun q => hcn ((i_eq (x := s.1 197 10) (y := 0) rfl (show (0 : Int32).toInt = 0 by decide)).mpr q))
    refine zn_c [.int 0, .ref 197] (xo_push (.int 0)) rfl rfl ?_
    exact m_97_88_39 hd  h
  · replace h := h.2 ((i_eq (x := s.1 197 10) (y := 0) rfl (show (0 : Int32).toInt = 0 by decide)).mp hcn)
    refine zn_c [.int 1, .ref 197] (xo_push (.int 1)) rfl rfl ?_
    refine zn_go rfl ?_
    exact m_97_88_39 hd  h
set_option maxRecDepth 20000 in
theorem m_97_79_39 {d d0 : Nat} (hd : d = d0 + 8) {R35 : Int32 → Int32 → zS → Prop} {a2 : Int32} {a3 : Int32} {a4 : Int32} {s : zS} {Q : Option Value → zS → Prop} (r35 : ∀ a2 a3 s, R35 a2 a3 s → Zn d [(197, 5), (197, 6)] [(39, 98), (0, 198)] ([(197, 6, 57), (197, 5, 39), (75, 0, 39), (75, 1, 57), (75, 2, 61)] : zW) ([(197, 6, 57), (197, 5, 39), (75, 0, 39), (75, 1, 57), (75, 2, 61)] : zW) xL_8 5 (none) xE_97 (xE_97.drop 35) [.ref 197, .ref 39, .int a2, .int a3, .null, .null, .null] [] s Q) (h : v_97_79 (fun j => Zt d (wd2 39 j) j) 39 R35 a2 a3 a4 s Q) : Zn d [(197, 5), (197, 6)] [(39, 98), (0, 198)] ([(197, 6, 57), (197, 5, 39), (75, 0, 39), (75, 1, 57), (75, 2, 61)] : zW) ([(197, 6, 57), (197, 5, 39), (75, 0, 39), (75, 1, 57), (75, 2, 61)] : zW) xL_8 5 (none) xE_97 (xE_97.drop 79) [.ref 197, .ref 39, .int a2, .int a3, .int a4, .null, .null] [] s Q := by
  unfold v_97_79 at h
  replace h := h _ (i_add (x := a3) (y := 1) rfl (show (1 : Int32).toInt = 1 by decide))
  refine zn_inc [.ref 197, .ref 39, .int a2, .int (a3 + 1), .int a4, .null, .null] rfl rfl rfl rfl ?_
  refine zn_go rfl ?_
  refine zn_fg 4 ?_
  exact r35 a2 (a3 + 1) s h
set_option maxRecDepth 20000 in
theorem m_97_63_39 {d d0 : Nat} (hd : d = d0 + 8) {R35 : Int32 → Int32 → zS → Prop} {R63 : Int32 → Int32 → Int32 → zS → Prop} {a2 : Int32} {a3 : Int32} {a4 : Int32} {s : zS} {Q : Option Value → zS → Prop} (r35 : ∀ a2 a3 s, R35 a2 a3 s → Zn d [(197, 5), (197, 6)] [(39, 98), (0, 198)] ([(197, 6, 57), (197, 5, 39), (75, 0, 39), (75, 1, 57), (75, 2, 61)] : zW) ([(197, 6, 57), (197, 5, 39), (75, 0, 39), (75, 1, 57), (75, 2, 61)] : zW) xL_8 5 (none) xE_97 (xE_97.drop 35) [.ref 197, .ref 39, .int a2, .int a3, .null, .null, .null] [] s Q) (r63 : ∀ a2 a3 a4 s, R63 a2 a3 a4 s → Zn d [(197, 5), (197, 6)] [(39, 98), (0, 198)] ([(197, 6, 57), (197, 5, 39), (75, 0, 39), (75, 1, 57), (75, 2, 61)] : zW) ([(197, 6, 57), (197, 5, 39), (75, 0, 39), (75, 1, 57), (75, 2, 61)] : zW) xL_8 5 (none) xE_97 (xE_97.drop 63) [.ref 197, .ref 39, .int a2, .int a3, .int a4, .null, .null] [] s Q) (h : v_97_63 (fun j => Zt d (wd2 39 j) j) 39 R35 R63 a2 a3 a4 s Q) : Zn d [(197, 5), (197, 6)] [(39, 98), (0, 198)] ([(197, 6, 57), (197, 5, 39), (75, 0, 39), (75, 1, 57), (75, 2, 61)] : zW) ([(197, 6, 57), (197, 5, 39), (75, 0, 39), (75, 1, 57), (75, 2, 61)] : zW) xL_8 5 (none) xE_97 (xE_97.drop 63) [.ref 197, .ref 39, .int a2, .int a3, .int a4, .null, .null] [] s Q := by
  unfold v_97_63 at h
  refine zn_ld rfl rfl rfl ?_
  refine zn_ld rfl rfl rfl ?_
  refine zn_zt [.ref 197] [.int a4] rfl rfl rfl rfl rfl (Zt.imp h (fun v1 s2 h => ?_))
  obtain ⟨x3, rfl, h⟩ := h
  change Zn _ _ _ _ _ _ _ _ _ _ _ [.int x3, .int a4] _ _
  refine zn_brP rfl rfl ⟨fun hcn => ?_, fun hcn => ?_⟩
  · replace h := h.1 ((i_le (x := x3) (y := a4) rfl rfl).mp hcn)
    exact m_97_79_39 hd r35 h
  · replace h := h.2 (fun q => hcn ((i_le (x := x3) (y := a4) rfl rfl).mpr q))
    refine zn_ld rfl rfl rfl ?_
    refine zn_get (v := .int (s2.1 197 10)) rfl (zv_I (a := 197) rfl rfl) ?_
    refine zn_brN rfl rfl ⟨fun hcn => ?_, fun hcn => ?_⟩
    · replace h := h.1 (fun q => hcn ((i_eq (x := s2.1 197 10) (y := 0) rfl (show (0 : Int32).toInt = 0 by decide)).mpr q))
      exact m_97_79_39 hd r35 h
    · replace h := h.2 ((i_eq (x := s2.1 197 10) (y := 0) rfl (show (0 : Int32).toInt = 0 by decide)).mp hcn)
      refine zn_ld rfl rfl rfl ?_
      refine zn_ld rfl rfl rfl ?_
      refine zn_ld rfl rfl rfl ?_
      refine zn_c [.int 9, .int a4, .ref 197, .ref 197] (xo_push (.int 9)) rfl rfl ?_
      replace h := h _ (i_mul (x := a4) (y := 9) rfl (show (9 : Int32).toInt = 9 by decide))
      refine zn_c [.int (a4 * 9), .ref 197, .ref 197] xo_imul rfl rfl ?_
      refine zn_zt [.ref 197, .int (a4 * 9)] [.ref 197] rfl rfl rfl rfl rfl (Zt.imp h (fun v5 s6 h => ?_))
      obtain ⟨x7, rfl, h⟩ := h
      change Zn _ _ _ _ _ _ _ _ _ _ _ [.int x7, .ref 197] _ _
      refine zn_zt [.ref 197, .int x7] [] rfl rfl rfl rfl rfl (Zt.imp h (fun v8 s9 h => ?_))
      obtain ⟨rfl, h⟩ := h
      change Zn _ _ _ _ _ _ _ _ _ _ _ [] _ _
      replace h := h _ (i_add (x := a4) (y := 1) rfl (show (1 : Int32).toInt = 1 by decide))
      refine zn_inc [.ref 197, .ref 39, .int a2, .int a3, .int (a4 + 1), .null, .null] rfl rfl rfl rfl ?_
      refine zn_go rfl ?_
      exact r63 a2 a3 (a4 + 1) s9 h
theorem ml_97_63_39 {d d0 : Nat} (hd : d = d0 + 8) {R35 : Int32 → Int32 → zS → Prop} {a2 : Int32} {a3 : Int32} {a4 : Int32} {s : zS} {Q : Option Value → zS → Prop} (r35 : ∀ a2 a3 s, R35 a2 a3 s → Zn d [(197, 5), (197, 6)] [(39, 98), (0, 198)] ([(197, 6, 57), (197, 5, 39), (75, 0, 39), (75, 1, 57), (75, 2, 61)] : zW) ([(197, 6, 57), (197, 5, 39), (75, 0, 39), (75, 1, 57), (75, 2, 61)] : zW) xL_8 5 (none) xE_97 (xE_97.drop 35) [.ref 197, .ref 39, .int a2, .int a3, .null, .null, .null] [] s Q) (h : vl_97_63 (fun j => Zt d (wd2 39 j) j) 39 R35 a2 a3 a4 s Q) : Zn d [(197, 5), (197, 6)] [(39, 98), (0, 198)] ([(197, 6, 57), (197, 5, 39), (75, 0, 39), (75, 1, 57), (75, 2, 61)] : zW) ([(197, 6, 57), (197, 5, 39), (75, 0, 39), (75, 1, 57), (75, 2, 61)] : zW) xL_8 5 (none) xE_97 (xE_97.drop 63) [.ref 197, .ref 39, .int a2, .int a3, .int a4, .null, .null] [] s Q := by
  obtain ⟨I, μ, h0, h1⟩ := h
  have key : ∀ (n : Nat) (a2 : Int32) (a3 : Int32) (a4 : Int32) (s : zS), μ a2 a3 a4 s = n → I a2 a3 a4 s → Zn d [(197, 5), (197, 6)] [(39, 98), (0, 198)] ([(197, 6, 57), (197, 5, 39), (75, 0, 39), (75, 1, 57), (75, 2, 61)] : zW) ([(197, 6, 57), (197, 5, 39), (75, 0, 39), (75, 1, 57), (75, 2, 61)] : zW) xL_8 5 (none) xE_97 (xE_97.drop 63) [.ref 197, .ref 39, .int a2, .int a3, .int a4, .null, .null] [] s Q := by
    intro n
    induction n using Nat.strongRecOn with
    | ind n ih =>
      intro a2 a3 a4 s e hI
      exact m_97_63_39 hd r35 (fun a2' a3' a4' s' q => ih _ (by rw [← e]; exact q.2) a2' a3' a4' s' rfl q.1) (h1 a2 a3 a4 s hI)
  exact key _ a2 a3 a4 s rfl h0
set_option maxRecDepth 20000 in
theorem m_97_50_39 {d d0 : Nat} (hd : d = d0 + 8) {R35 : Int32 → Int32 → zS → Prop} {R50 : Int32 → Int32 → Int32 → zS → Prop} {a2 : Int32} {a3 : Int32} {a4 : Int32} {s : zS} {Q : Option Value → zS → Prop} (r35 : ∀ a2 a3 s, R35 a2 a3 s → Zn d [(197, 5), (197, 6)] [(39, 98), (0, 198)] ([(197, 6, 57), (197, 5, 39), (75, 0, 39), (75, 1, 57), (75, 2, 61)] : zW) ([(197, 6, 57), (197, 5, 39), (75, 0, 39), (75, 1, 57), (75, 2, 61)] : zW) xL_8 5 (none) xE_97 (xE_97.drop 35) [.ref 197, .ref 39, .int a2, .int a3, .null, .null, .null] [] s Q) (r50 : ∀ a2 a3 a4 s, R50 a2 a3 a4 s → Zn d [(197, 5), (197, 6)] [(39, 98), (0, 198)] ([(197, 6, 57), (197, 5, 39), (75, 0, 39), (75, 1, 57), (75, 2, 61)] : zW) ([(197, 6, 57), (197, 5, 39), (75, 0, 39), (75, 1, 57), (75, 2, 61)] : zW) xL_8 5 (none) xE_97 (xE_97.drop 50) [.ref 197, .ref 39, .int a2, .int a3, .int a4, .null, .null] [] s Q) (h : v_97_50 (fun j => Zt d (wd2 39 j) j) 39 R35 R50 a2 a3 a4 s Q) : Zn d [(197, 5), (197, 6)] [(39, 98), (0, 198)] ([(197, 6, 57), (197, 5, 39), (75, 0, 39), (75, 1, 57), (75, 2, 61)] : zW) ([(197, 6, 57), (197, 5, 39), (75, 0, 39), (75, 1, 57), (75, 2, 61)] : zW) xL_8 5 (none) xE_97 (xE_97.drop 50) [.ref 197, .ref 39, .int a2, .int a3, .int a4, .null, .null] [] s Q := by
  unfold v_97_50 at h
  refine zn_ld rfl rfl rfl ?_
  refine zn_ld rfl rfl rfl ?_
  refine zn_zt [.ref 197] [.int a4] rfl rfl rfl rfl rfl (Zt.imp h (fun v1 s2 h => ?_))
  obtain ⟨x3, rfl, h⟩ := h
  change Zn _ _ _ _ _ _ _ _ _ _ _ [.int x3, .int a4] _ _
  refine zn_brP rfl rfl ⟨fun hcn => ?_, fun hcn => ?_⟩
  · replace h := h.1 ((i_le (x := x3) (y := a4) rfl rfl).mp hcn)
    refine zn_ld rfl rfl rfl ?_
    refine zn_st [.ref 197, .ref 39, .int a2, .int a3, .int a2, .null, .null] rfl rfl rfl ?_
    exact ml_97_63_39 hd r35 h
  · replace h := h.2 (fun q => hcn ((i_le (x := x3) (y := a4) rfl rfl).mpr q))
    refine zn_ld rfl rfl rfl ?_
    refine zn_ld rfl rfl rfl ?_
    refine zn_c [.int 10, .int a4, .ref 197] (xo_push (.int 10)) rfl rfl ?_
    replace h := h _ (i_mul (x := a4) (y := 10) rfl (show (10 : Int32).toInt = 10 by decide))
    refine zn_c [.int (a4 * 10), .ref 197] xo_imul rfl rfl ?_
    refine zn_zt [.ref 197, .int (a4 * 10)] [] rfl rfl rfl rfl rfl (Zt.imp h (fun v5 s6 h => ?_))
    obtain ⟨rfl, h⟩ := h
    change Zn _ _ _ _ _ _ _ _ _ _ _ [] _ _
    replace h := h _ (i_add (x := a4) (y := 1) rfl (show (1 : Int32).toInt = 1 by decide))
    refine zn_inc [.ref 197, .ref 39, .int a2, .int a3, .int (a4 + 1), .null, .null] rfl rfl rfl rfl ?_
    refine zn_go rfl ?_
    exact r50 a2 a3 (a4 + 1) s6 h
theorem ml_97_50_39 {d d0 : Nat} (hd : d = d0 + 8) {R35 : Int32 → Int32 → zS → Prop} {a2 : Int32} {a3 : Int32} {a4 : Int32} {s : zS} {Q : Option Value → zS → Prop} (r35 : ∀ a2 a3 s, R35 a2 a3 s → Zn d [(197, 5), (197, 6)] [(39, 98), (0, 198)] ([(197, 6, 57), (197, 5, 39), (75, 0, 39), (75, 1, 57), (75, 2, 61)] : zW) ([(197, 6, 57), (197, 5, 39), (75, 0, 39), (75, 1, 57), (75, 2, 61)] : zW) xL_8 5 (none) xE_97 (xE_97.drop 35) [.ref 197, .ref 39, .int a2, .int a3, .null, .null, .null] [] s Q) (h : vl_97_50 (fun j => Zt d (wd2 39 j) j) 39 R35 a2 a3 a4 s Q) : Zn d [(197, 5), (197, 6)] [(39, 98), (0, 198)] ([(197, 6, 57), (197, 5, 39), (75, 0, 39), (75, 1, 57), (75, 2, 61)] : zW) ([(197, 6, 57), (197, 5, 39), (75, 0, 39), (75, 1, 57), (75, 2, 61)] : zW) xL_8 5 (none) xE_97 (xE_97.drop 50) [.ref 197, .ref 39, .int a2, .int a3, .int a4, .null, .null] [] s Q := by
  obtain ⟨I, μ, h0, h1⟩ := h
  have key : ∀ (n : Nat) (a2 : Int32) (a3 : Int32) (a4 : Int32) (s : zS), μ a2 a3 a4 s = n → I a2 a3 a4 s → Zn d [(197, 5), (197, 6)] [(39, 98), (0, 198)] ([(197, 6, 57), (197, 5, 39), (75, 0, 39), (75, 1, 57), (75, 2, 61)] : zW) ([(197, 6, 57), (197, 5, 39), (75, 0, 39), (75, 1, 57), (75, 2, 61)] : zW) xL_8 5 (none) xE_97 (xE_97.drop 50) [.ref 197, .ref 39, .int a2, .int a3, .int a4, .null, .null] [] s Q := by
    intro n
    induction n using Nat.strongRecOn with
    | ind n ih =>
      intro a2 a3 a4 s e hI
      exact m_97_50_39 hd r35 (fun a2' a3' a4' s' q => ih _ (by rw [← e]; exact q.2) a2' a3' a4' s' rfl q.1) (h1 a2 a3 a4 s hI)
  exact key _ a2 a3 a4 s rfl h0
set_option maxRecDepth 20000 in
theorem m_97_35_39 {d d0 : Nat} (hd : d = d0 + 8) {R35 : Int32 → Int32 → zS → Prop} {a2 : Int32} {a3 : Int32} {s : zS} {Q : Option Value → zS → Prop} (r35 : ∀ a2 a3 s, R35 a2 a3 s → Zn d [(197, 5), (197, 6)] [(39, 98), (0, 198)] ([(197, 6, 57), (197, 5, 39), (75, 0, 39), (75, 1, 57), (75, 2, 61)] : zW) ([(197, 6, 57), (197, 5, 39), (75, 0, 39), (75, 1, 57), (75, 2, 61)] : zW) xL_8 5 (none) xE_97 (xE_97.drop 35) [.ref 197, .ref 39, .int a2, .int a3, .null, .null, .null] [] s Q) (h : v_97_35 (fun j => Zt d (wd2 39 j) j) 39 R35 a2 a3 s Q) : Zn d [(197, 5), (197, 6)] [(39, 98), (0, 198)] ([(197, 6, 57), (197, 5, 39), (75, 0, 39), (75, 1, 57), (75, 2, 61)] : zW) ([(197, 6, 57), (197, 5, 39), (75, 0, 39), (75, 1, 57), (75, 2, 61)] : zW) xL_8 5 (none) xE_97 (xE_97.drop 35) [.ref 197, .ref 39, .int a2, .int a3, .null, .null, .null] [] s Q := by
  unfold v_97_35 at h
  refine zn_ld rfl rfl rfl ?_
  refine zn_c [.int 150, .int a3] (xo_push (.int 150)) rfl rfl ?_
  refine zn_brP rfl rfl ⟨fun hcn => ?_, fun hcn => ?_⟩
  · replace h := h.1 ((i_lt (x := 150) (y := a3) (show (150 : Int32).toInt = 150 by decide) rfl).mp hcn)
    exact m_97_81_39 hd  h
  · replace h := h.2 (fun q => hcn ((i_lt (x := 150) (y := a3) (show (150 : Int32).toInt = 150 by decide) rfl).mpr q))
    refine zn_ld rfl rfl rfl ?_
    refine zn_ld rfl rfl rfl ?_
    refine zn_zt [.ref 197] [.int a2] rfl rfl rfl rfl rfl (Zt.imp h (fun v1 s2 h => ?_))
    obtain ⟨x3, rfl, h⟩ := h
    change Zn _ _ _ _ _ _ _ _ _ _ _ [.int x3, .int a2] _ _
    refine zn_brP rfl rfl ⟨fun hcn => ?_, fun hcn => ?_⟩
    · replace h := h.1 ((i_le (x := x3) (y := a2) rfl rfl).mp hcn)
      exact m_97_81_39 hd  h
    · replace h := h.2 (fun q => hcn ((i_le (x := x3) (y := a2) rfl rfl).mpr q))
      refine zn_ld rfl rfl rfl ?_
      refine zn_get (v := .int (s2.1 197 10)) rfl (zv_I (a := 197) rfl rfl) ?_
      refine zn_brN rfl rfl ⟨fun hcn => ?_, fun hcn => ?_⟩
      · replace h := h.1 (fun q => hcn ((i_eq (x := s2.1 197 10) (y := 0) rfl (show (0 : Int32).toInt = 0 by decide)).mpr q))
        exact m_97_81_39 hd  h
      · replace h := h.2 ((i_eq (x := s2.1 197 10) (y := 0) rfl (show (0 : Int32).toInt = 0 by decide)).mp hcn)
        refine zn_ld rfl rfl rfl ?_
        refine zn_zt [.ref 197] [] rfl rfl rfl rfl rfl (Zt.imp h (fun v4 s5 h => ?_))
        obtain ⟨x6, rfl, h⟩ := h
        change Zn _ _ _ _ _ _ _ _ _ _ _ [.int x6] _ _
        refine zn_st [.ref 197, .ref 39, .int x6, .int a3, .null, .null, .null] rfl rfl rfl ?_
        refine zn_c [.int 0] (xo_push (.int 0)) rfl rfl ?_
        refine zn_st [.ref 197, .ref 39, .int x6, .int a3, .int 0, .null, .null] rfl rfl rfl ?_
        exact ml_97_50_39 hd r35 h
theorem ml_97_35_39 {d d0 : Nat} (hd : d = d0 + 8)  {a2 : Int32} {a3 : Int32} {s : zS} {Q : Option Value → zS → Prop}  (h : vl_97_35 (fun j => Zt d (wd2 39 j) j) 39  a2 a3 s Q) : Zn d [(197, 5), (197, 6)] [(39, 98), (0, 198)] ([(197, 6, 57), (197, 5, 39), (75, 0, 39), (75, 1, 57), (75, 2, 61)] : zW) ([(197, 6, 57), (197, 5, 39), (75, 0, 39), (75, 1, 57), (75, 2, 61)] : zW) xL_8 5 (none) xE_97 (xE_97.drop 35) [.ref 197, .ref 39, .int a2, .int a3, .null, .null, .null] [] s Q := by
  obtain ⟨I, μ, h0, h1⟩ := h
  have key : ∀ (n : Nat) (a2 : Int32) (a3 : Int32) (s : zS), μ a2 a3 s = n → I a2 a3 s → Zn d [(197, 5), (197, 6)] [(39, 98), (0, 198)] ([(197, 6, 57), (197, 5, 39), (75, 0, 39), (75, 1, 57), (75, 2, 61)] : zW) ([(197, 6, 57), (197, 5, 39), (75, 0, 39), (75, 1, 57), (75, 2, 61)] : zW) xL_8 5 (none) xE_97 (xE_97.drop 35) [.ref 197, .ref 39, .int a2, .int a3, .null, .null, .null] [] s Q := by
    intro n
    induction n using Nat.strongRecOn with
    | ind n ih =>
      intro a2 a3 s e hI
      exact m_97_35_39 hd (fun a2' a3' s' q => ih _ (by rw [← e]; exact q.2) a2' a3' s' rfl q.1) (h1 a2 a3 s hI)
  exact key _ a2 a3 s rfl h0
set_option maxRecDepth 20000 in
theorem m_97_0_39 {d d0 : Nat} (hd : d = d0 + 8)   {s : zS} {Q : Option Value → zS → Prop}  (h : v_97_0 (fun j => Zt d (wd2 39 j) j) 39   s Q) : Zn d [(197, 5), (197, 6)] [(39, 98), (0, 198)] ([(75, 0, 39), (75, 1, 57), (75, 2, 61)] : zW) ([(197, 6, 57), (197, 5, 39), (75, 0, 39), (75, 1, 57), (75, 2, 61)] : zW) xL_8 5 (none) xE_97 (xE_97.drop 0) [.ref 197, .ref 39, .null, .null, .null, .null, .null] [] s Q := by
  unfold v_97_0 at h
  refine zn_ld rfl rfl rfl ?_
  refine zn_ld rfl rfl rfl ?_
  refine zn_putR (a := 197) (b := 39) rfl rfl rfl rfl rfl rfl rfl rfl rfl ?_
  refine zn_ld rfl rfl rfl ?_
  refine zn_ld rfl rfl rfl ?_
  refine zn_get (v := .ref 39) rfl (zv_C (a := 197) (n := 0) rfl rfl rfl) ?_
  refine zn_get (v := .ref 57) rfl (zv_R (a := 39) rfl rfl) ?_
  refine zn_putR (a := 197) (b := 57) rfl rfl rfl rfl rfl rfl rfl rfl rfl ?_
  refine zn_ld rfl rfl rfl ?_
  refine zn_get (v := .ref 198) rfl (zv_R (a := 197) rfl rfl) ?_
  refine zn_clr [] (a := 198) hd rfl rfl rfl rfl rfl ?_
  replace h := h _ rfl
  refine zn_ld rfl rfl rfl ?_
  refine zn_get (v := .ref 200) rfl (zv_R (a := 197) rfl rfl) ?_
  refine zn_clr [] (a := 200) hd rfl rfl rfl rfl rfl ?_
  replace h := h _ rfl
  refine zn_ld rfl rfl rfl ?_
  refine zn_get (v := .ref 202) rfl (zv_R (a := 197) rfl rfl) ?_
  refine zn_clr [] (a := 202) hd rfl rfl rfl rfl rfl ?_
  replace h := h _ rfl
  refine zn_ld rfl rfl rfl ?_
  refine zn_c [.int 9618, .ref 197] (xo_push (.int 9618)) rfl rfl ?_
  refine zn_putI (a := 197) rfl rfl rfl rfl ⟨Int32.le_toInt _, Int.le_of_lt_add_one (Int32.toInt_lt _)⟩ rfl rfl rfl ?_
  replace h := h _ rfl
  refine zn_ld rfl rfl rfl ?_
  refine zn_c [.int 1, .ref 197] (xo_push (.int 1)) rfl rfl ?_
  refine zn_putI (a := 197) rfl rfl rfl rfl (by decide) rfl rfl rfl ?_
  replace h := h _ rfl
  refine zn_ld rfl rfl rfl ?_
  refine zn_c [.int 0, .ref 197] (xo_push (.int 0)) rfl rfl ?_
  refine zn_putI (a := 197) rfl rfl rfl rfl (by decide) rfl rfl rfl ?_
  replace h := h _ rfl
  refine zn_ld rfl rfl rfl ?_
  refine zn_ld rfl rfl rfl ?_
  refine zn_get (v := .ref 39) rfl (zv_C (a := 197) (n := 1) rfl rfl rfl) ?_
  refine zn_get (v := .int ((zf (zf (zf (zf (zf (zf s 198 2 0) 200 2 0) 202 2 0) 197 7 9618) 197 8 1) 197 10 0).1 39 12)) rfl (zv_I (a := 39) rfl rfl) ?_
  refine zn_zt [.ref 197, .int ((zf (zf (zf (zf (zf (zf s 198 2 0) 200 2 0) 202 2 0) 197 7 9618) 197 8 1) 197 10 0).1 39 12)] [] rfl rfl rfl rfl rfl (Zt.imp h (fun v7 s8 h => ?_))
  obtain ⟨rfl, h⟩ := h
  change Zn _ _ _ _ _ _ _ _ _ _ _ [] _ _
  refine zn_c [.int (-1)] (xo_push (.int (-1))) rfl rfl ?_
  refine zn_st [.ref 197, .ref 39, .int (-1), .null, .null, .null, .null] rfl rfl rfl ?_
  refine zn_c [.int 0] (xo_push (.int 0)) rfl rfl ?_
  refine zn_st [.ref 197, .ref 39, .int (-1), .int 0, .null, .null, .null] rfl rfl rfl ?_
  exact ml_97_35_39 hd  h
theorem zq_97_39 {d : Nat}  {s : zS} {Q : Option Value → zS → Prop} (h : v_97_0 (fun j => Zt (d + 8) (wd2 39 j) j) 39  s Q) : Zu (d + 9) [(197, 5), (197, 6)] ([(75, 0, 39), (75, 1, 57), (75, 2, 61)] : zW) ([(197, 6, 57), (197, 5, 39), (75, 0, 39), (75, 1, 57), (75, 2, 61)] : zW) 97 [.ref 197, .ref 39] s Q := zu_of (E := xE_97) (L := xL_8) (ml := 5) (ret := none) rfl rfl rfl (m_97_0_39 rfl h)
theorem zc_97 {d P : Nat} (hP : P = 3 ∨ P = 39)  {s : zS} {Q : Option Value → zS → Prop} (h : v_97_0 (fun j => Zt (d + 8) (wd2 P j) j) P  s Q) : Zu (d + 9) [(197, 5), (197, 6)] [(75, 0, P), (75, 1, P + 18), (75, 2, P + 22)] [(197, 6, P + 18), (197, 5, P), (75, 0, P), (75, 1, P + 18), (75, 2, P + 22)] 97 [.ref 197, .ref P] s Q := by
  rcases hP with rfl | rfl
  · exact zq_97_3 h
  · exact zq_97_39 h
section ZZZHC
variable {d P : Nat} {s u : zS}
/-- make -/
theorem zw_97 (hP : P = 3 ∨ P = 39) (hN : SNz s) (h18 : (s.1 75 3).toInt = 18) : Zu (d + 63) [(197, 5), (197, 6)] [(75, 0, P), (75, 1, P + 18), (75, 2, P + 22)] [(197, 6, P + 18), (197, 5, P), (75, 0, P), (75, 1, P + 18), (75, 2, P + 22)] 97 [.ref 197, .ref P] s (fun v _ => v = none) := by
  refine zc_97 (d := d + 54) hP ?_
  unfold v_97_0
  intro s1 hs1 s2 hs2 s3 hs3 s4 hs4 s5 hs5 s6 hs6
  have N6 : SNz s6 := SNz_2 (by rw [hs6, zf_2, hs5, zf_2, hs4, zf_2, hs3, zf_2, hs2, zf_2, hs1, zf_2]) hN
  have T6 : STz s6 := by
    have e75 : s6.1 75 3 = s.1 75 3 := by
      rw [hs6, zf_1, if_neg (by decide), hs5, zf_1, if_neg (by decide), hs4, zf_1, if_neg (by decide), hs3, zf_1, if_neg (by decide), hs2, zf_1, if_neg (by decide), hs1, zf_1, if_neg (by decide)]
    have e7 : s6.1 197 7 = 9618 := by
      rw [hs6, zf_1, if_neg (by decide), hs5, zf_1, if_neg (by decide), hs4, zf_1, if_pos ⟨rfl, rfl⟩]
    have e198 : s6.1 198 2 = 0 := by
      rw [hs6, zf_1, if_neg (by decide), hs5, zf_1, if_neg (by decide), hs4, zf_1, if_neg (by decide), hs3, zf_1, if_neg (by decide), hs2, zf_1, if_neg (by decide), hs1, zf_1, if_pos ⟨rfl, rfl⟩]
    have e200 : s6.1 200 2 = 0 := by
      rw [hs6, zf_1, if_neg (by decide), hs5, zf_1, if_neg (by decide), hs4, zf_1, if_neg (by decide), hs3, zf_1, if_neg (by decide), hs2, zf_1, if_pos ⟨rfl, rfl⟩]
    unfold STz STq
    rw [e75, e7, e198, e200]
    exact ⟨h18, by decide, fun _ => by decide⟩
  refine Zt.imp (Zt.mo (d := 45) (by omega) ((zw_105 (d := 0) hP N6 T6).sn N6)) ?_
  rintro v7 s8 ⟨⟨rfl, T8⟩, N8⟩
  refine ⟨rfl, ?_⟩
  refine ⟨fun _ c3 u => 0 ≤ c3.toInt ∧ c3.toInt ≤ 151 ∧ SNz u ∧ STz u, fun _ c3 _ => (151 - c3.toInt).toNat, ⟨by decide, by decide, N8, T8⟩, ?_⟩
  rintro c2 c3 u ⟨i1, i2, Nu, Tu⟩
  have out : ∀ (q2 q3 : Int32) (w : zS), v_97_81 (fun j => Zt (d + 54 + 8) (wd2 P j) j) P q2 q3 w (fun v _ => v = none) := fun q2 q3 w => by
    unfold v_97_81 v_97_88
    exact ⟨fun _ => ⟨by decide, fun _ _ => rfl⟩, fun _ => ⟨by decide, fun _ _ => rfl⟩⟩
  unfold v_97_35
  refine ⟨fun _ => out _ _ _, fun y => ?_⟩
  refine Zt.imp (Zt.mo (d := 9) (by omega) (zw_96 (d := 0) hP)) ?_
  rintro v1 s2' ⟨hs, x3, rfl, -⟩
  subst hs
  refine ⟨x3, rfl, fun _ => out _ _ _, fun _ => ⟨fun _ => out _ _ _, fun z => Zt_bd (fun hB => ?_)⟩⟩
  have h202 := hB.2 202 2 0 1359 (by decide +kernel) (by decide +kernel)
  refine Zt.imp (Zt.mo (d := 9) (by omega) (zw_96 (d := 0) hP)) ?_
  rintro v4 s5' ⟨hs, x6, rfl, q6⟩
  subst hs
  have e6 := q6 h202.1
  refine ⟨x6, rfl, ?_⟩
  -- CALLS
  refine ⟨fun b2 b3 b4 w => b2 = x6 ∧ b3 = c3 ∧ 0 ≤ b4.toInt ∧ b4.toInt ≤ 151 ∧ SNz w ∧ STz w, fun _ _ b4 _ => (151 - b4.toInt).toNat, ⟨rfl, rfl, by decide, by decide, Nu, Tu⟩, ?_⟩
  rintro b2 b3 b4 w ⟨e2, e3, j1, j2, Nw, Tw⟩
  subst e2 e3
  unfold v_97_50
  refine Zt_bd (fun hBw => ?_)
  have h200 := hBw.2 200 2 0 1510 (by decide +kernel) (by decide +kernel)
  refine Zt.imp (Zt.mo (d := 9) (by omega) (zw_95 (d := 0) hP)) ?_
  rintro v1 s2' ⟨hs, x3', rfl, q3⟩
  subst hs
  have e3 := q3 h200.1
  refine ⟨x3', rfl, fun _ => ?_, fun y4 x4 _ => ?_⟩
  rotate_left
  · refine Zt.imp (Zt.mo (d := 36) (by omega) ((zw_99 (d := 0) hP Nw Tw).sn Nw)) ?_
    rintro v5 s6' ⟨⟨rfl, T6'⟩, N6'⟩
    refine ⟨rfl, fun x7 hx7 => ?_⟩
    have := hx7 (by omega)
    exact ⟨⟨rfl, rfl, by omega, by omega, N6', T6'⟩, by dsimp only; omega⟩
  -- METHODS
  refine ⟨fun g2 g3 g4 z => g3 = b3 ∧ 0 ≤ g4.toInt ∧ g4.toInt ≤ 151 ∧ SNz z ∧ STz z, fun _ _ g4 _ => (151 - g4.toInt).toNat, ⟨rfl, by omega, by omega, Nw, Tw⟩, ?_⟩
  rintro g2 g3 g4 z ⟨k3, k1, k2, Nz, Tz⟩
  subst k3
  have nx : ∀ (q2 : Int32) (w : zS), SNz w → STz w → v_97_79 (fun j => Zt (d + 54 + 8) (wd2 P j) j) P (fun _ a3' s' => (0 ≤ a3'.toInt ∧ a3'.toInt ≤ 151 ∧ SNz s' ∧ STz s') ∧ (151 - a3'.toInt).toNat < (151 - g3.toInt).toNat) q2 g3 g4 w (fun v _ => v = none) := fun q2 w Nw Tw => by
    unfold v_97_79
    intro x1 hx1
    have := hx1 (by omega)
    exact ⟨⟨by omega, by omega, Nw, Tw⟩, by omega⟩
  unfold v_97_63
  refine Zt_bd (fun hBz => ?_)
  have h202' := hBz.2 202 2 0 1359 (by decide +kernel) (by decide +kernel)
  refine Zt.imp (Zt.mo (d := 9) (by omega) (zw_96 (d := 0) hP)) ?_
  rintro v1 s2' ⟨hs, x5, rfl, q5⟩
  subst hs
  have e5 := q5 h202'.1
  refine ⟨x5, rfl, fun _ => nx _ _ Nz Tz, fun y5 => ⟨fun _ => nx _ _ Nz Tz, fun z5 x4 _ => ?_⟩⟩
  refine Zt.imp (Zt.mo (d := 27) (by omega) ((zw_101 (d := 0) hP Nz).sn Nz)) ?_
  rintro v5 s6' ⟨⟨f6, x7, rfl⟩, N6'⟩
  refine ⟨x7, rfl, ?_⟩
  refine Zt.imp (Zt.mo (d := 45) (by omega) ((zw_105 (d := 0) hP N6' (STz_1 f6 Tz)).sn N6')) ?_
  rintro v8 s9 ⟨⟨rfl, T9⟩, N9⟩
  refine ⟨rfl, fun x10 hx10 => ?_⟩
  have := hx10 (by omega)
  exact ⟨⟨rfl, by omega, by omega, N9, T9⟩, by dsimp only; omega⟩
end ZZZHC
