/-! FeatherBench$Bodies.parts -/
def wk_11 (P : Nat) : Nat → wW
  | _ => (((84, 5), P, [(84, 2, P), (84, 3, (P + 1)), (84, 4, (P + 4)), (83, 1, P), (83, 2, (P + 1)), (75, 0, P), (75, 1, (P + 18)), (75, 2, (P + 22))]) : wW)
def s_w11 : List (Nat × cSg) := [(86, q_86), (42, q_42), (87, q_87), (88, q_88)]
def w_11_87 (T : Nat → Nat → List Value → sW → (Option Value → sW → Prop) → Prop) (P : Nat)  (a1 : Int32) (a2 : Int32) (a3 : Int32) (a4 : Int32) (a5 : Int32) (a6 : Int32) (a7 : Int32) (sa : Int32) (sk : Int32) (sf : Int32) (sc : Int32) (sz : Int32) (Q : Option Value → sW → Prop) : Prop :=
  ∀ x1 : Int32, (-2147483648 ≤ sa.toInt + 1 ∧ sa.toInt + 1 ≤ 2147483647 → x1.toInt = sa.toInt + 1) → Q none (x1, sk, sf, sc, sz)
def w_11_83 (T : Nat → Nat → List Value → sW → (Option Value → sW → Prop) → Prop) (P : Nat) (R8 : Int32 → Int32 → Int32 → Int32 → Int32 → Int32 → Int32 → Int32 → Int32 → Int32 → Int32 → Int32 → Prop) (a1 : Int32) (a2 : Int32) (a3 : Int32) (a4 : Int32) (a5 : Int32) (a6 : Int32) (a7 : Int32) (a8 : Int32) (a9 : Int32) (a10 : Int32) (t1 : Int32) (t2 : Int32) (sa : Int32) (sk : Int32) (sf : Int32) (sc : Int32) (sz : Int32) (Q : Option Value → sW → Prop) : Prop :=
  ∀ x1 : Int32, (-2147483648 ≤ t1.toInt + t2.toInt ∧ t1.toInt + t2.toInt ≤ 2147483647 → x1.toInt = t1.toInt + t2.toInt) → ∀ x2 : Int32, (-2147483648 ≤ a7.toInt + 1 ∧ a7.toInt + 1 ≤ 2147483647 → x2.toInt = a7.toInt + 1) → R8 a1 a2 a3 a4 a5 a6 x2 x1 sk sf sc sz
def w_11_68 (T : Nat → Nat → List Value → sW → (Option Value → sW → Prop) → Prop) (P : Nat) (R8 : Int32 → Int32 → Int32 → Int32 → Int32 → Int32 → Int32 → Int32 → Int32 → Int32 → Int32 → Int32 → Prop) (a1 : Int32) (a2 : Int32) (a3 : Int32) (a4 : Int32) (a5 : Int32) (a6 : Int32) (a7 : Int32) (a8 : Int32) (a9 : Int32) (a10 : Int32) (sa : Int32) (sk : Int32) (sf : Int32) (sc : Int32) (sz : Int32) (Q : Option Value → sW → Prop) : Prop :=
  ∀ x1 : Int32, (-2147483648 ≤ a2.toInt - 1 ∧ a2.toInt - 1 ≤ 2147483647 → x1.toInt = a2.toInt - 1) → (x1.toInt ≤ a7.toInt → w_11_83 T P R8 a1 a2 a3 a4 a5 a6 a7 a8 a9 a10 sa 0 sa sk sf sc sz Q) ∧ (¬ (x1.toInt ≤ a7.toInt) → w_11_83 T P R8 a1 a2 a3 a4 a5 a6 a7 a8 a9 a10 sa 1 sa sk sf sc sz Q)
def w_11_66 (T : Nat → Nat → List Value → sW → (Option Value → sW → Prop) → Prop) (P : Nat) (R8 : Int32 → Int32 → Int32 → Int32 → Int32 → Int32 → Int32 → Int32 → Int32 → Int32 → Int32 → Int32 → Prop) (a1 : Int32) (a2 : Int32) (a3 : Int32) (a4 : Int32) (a5 : Int32) (a6 : Int32) (a7 : Int32) (a8 : Int32) (a9 : Int32) (a10 : Int32) (a11 : Int32) (t1 : Int32) (sa : Int32) (sk : Int32) (sf : Int32) (sc : Int32) (sz : Int32) (Q : Option Value → sW → Prop) : Prop :=
  T 0 38 [.ref P, .int t1, .int a9] (sa, sk, sf, sc, sz) (fun v6 (sa1, sk2, sf3, sc4, sz5) => v6 = none ∧ (w_11_68 T P R8 a1 a2 a3 a4 a5 a6 a7 a8 a9 a10 sa1 sk2 sf3 sc4 sz5 Q))
def w_11_8 (T : Nat → Nat → List Value → sW → (Option Value → sW → Prop) → Prop) (P : Nat) (R8 : Int32 → Int32 → Int32 → Int32 → Int32 → Int32 → Int32 → Int32 → Int32 → Int32 → Int32 → Int32 → Prop) (a1 : Int32) (a2 : Int32) (a3 : Int32) (a4 : Int32) (a5 : Int32) (a6 : Int32) (a7 : Int32) (sa : Int32) (sk : Int32) (sf : Int32) (sc : Int32) (sz : Int32) (Q : Option Value → sW → Prop) : Prop :=
  (a2.toInt ≤ a7.toInt → w_11_87 T P  a1 a2 a3 a4 a5 a6 a7 sa sk sf sc sz Q) ∧ (¬ (a2.toInt ≤ a7.toInt) → (¬ (sf.toInt = 0) → w_11_87 T P  a1 a2 a3 a4 a5 a6 a7 sa sk sf sc sz Q) ∧ (sf.toInt = 0 → ∀ x1 : Int32, ∀ x2 : Int32, (-2147483648 ≤ a6.toInt + 1 ∧ a6.toInt + 1 ≤ 2147483647 → x2.toInt = a6.toInt + 1) → T 0 7 [.ref 84, .int x2] (sa, sk, sf, sc, sz) (fun v8 (sa3, sk4, sf5, sc6, sz7) => ∃ x9, v8 = some (.int x9) ∧ ((¬ (sf5.toInt = 0) → w_11_68 T P R8 a1 a2 a3 a4 a5 a6 a7 x1 sa x9 sa3 sk4 sf5 sc6 sz7 Q) ∧ (sf5.toInt = 0 → ∀ x15 : Int32, (-2147483648 ≤ a1.toInt + a7.toInt ∧ a1.toInt + a7.toInt ≤ 2147483647 → x15.toInt = a1.toInt + a7.toInt) → ∀ x21 : Int32, -1 ≤ x21.toInt → x21.toInt ≤ 2000000000 → ∀ x27 : Int32, (0 ≤ x27.toInt → ∀ x33 : Int32, 0 ≤ x33.toInt → x33.toInt ≤ 9 → w_11_66 T P R8 a1 a2 a3 a4 a5 a6 a7 x1 sa x9 x27 x33 sa3 sk4 sf5 sc6 sz7 Q) ∧ (¬ (0 ≤ x27.toInt) → w_11_66 T P R8 a1 a2 a3 a4 a5 a6 a7 x1 sa x9 x27 9 sa3 sk4 sf5 sc6 sz7 Q))))))
def wl_11_8 (T : Nat → Nat → List Value → sW → (Option Value → sW → Prop) → Prop) (P : Nat)  (a1 : Int32) (a2 : Int32) (a3 : Int32) (a4 : Int32) (a5 : Int32) (a6 : Int32) (a7 : Int32) (sa : Int32) (sk : Int32) (sf : Int32) (sc : Int32) (sz : Int32) (Q : Option Value → sW → Prop) : Prop :=
  ∃ (I : Int32 → Int32 → Int32 → Int32 → Int32 → Int32 → Int32 → Int32 → Int32 → Int32 → Int32 → Int32 → Prop) (μ : Int32 → Int32 → Int32 → Int32 → Int32 → Int32 → Int32 → Int32 → Int32 → Int32 → Int32 → Int32 → Nat), I a1 a2 a3 a4 a5 a6 a7 sa sk sf sc sz ∧ ∀ (a1 : Int32) (a2 : Int32) (a3 : Int32) (a4 : Int32) (a5 : Int32) (a6 : Int32) (a7 : Int32) (sa : Int32) (sk : Int32) (sf : Int32) (sc : Int32) (sz : Int32), I a1 a2 a3 a4 a5 a6 a7 sa sk sf sc sz → w_11_8 T P (fun a1' a2' a3' a4' a5' a6' a7' sa' sk' sf' sc' sz' => I a1' a2' a3' a4' a5' a6' a7' sa' sk' sf' sc' sz' ∧ μ a1' a2' a3' a4' a5' a6' a7' sa' sk' sf' sc' sz' < μ a1 a2 a3 a4 a5 a6 a7 sa sk sf sc sz) a1 a2 a3 a4 a5 a6 a7 sa sk sf sc sz Q
def w_11_0 (T : Nat → Nat → List Value → sW → (Option Value → sW → Prop) → Prop) (P : Nat)  (a1 : Int32) (a2 : Int32) (a3 : Int32) (a4 : Int32) (a5 : Int32) (a6 : Int32) (sa : Int32) (sk : Int32) (sf : Int32) (sc : Int32) (sz : Int32) (Q : Option Value → sW → Prop) : Prop :=
  ∀ x1 : Int32, (-2147483648 ≤ sa.toInt + 1 ∧ sa.toInt + 1 ≤ 2147483647 → x1.toInt = sa.toInt + 1) → wl_11_8 T P  a1 a2 a3 a4 a5 a6 0 x1 sk sf sc sz Q
set_option maxRecDepth 20000 in
theorem k_11_87_3 {d d0 : Nat} (hd : d = d0 + 4) (hc : ∀ p ∈ s_w11, CTR (yex d) p.1 p.2)  {a1 : Int32} {a2 : Int32} {a3 : Int32} {a4 : Int32} {a5 : Int32} {a6 : Int32} {a7 : Int32} {sa : Int32} {sk : Int32} {sf : Int32} {sc : Int32} {sz : Int32} {Q : Option Value → sW → Prop}  (h : w_11_87 (fun k => Tt d wgL (wk_11 3 k) (wk_11 3 k)) 3  a1 a2 a3 a4 a5 a6 a7 sa sk sf sc sz Q) : Rn d wgL (((84, 5), 3, [(84, 2, 3), (84, 3, 4), (84, 4, 7), (83, 1, 3), (83, 2, 4), (75, 0, 3), (75, 1, 21), (75, 2, 25)]) : wW) (((84, 5), 3, [(84, 2, 3), (84, 3, 4), (84, 4, 7), (83, 1, 3), (83, 2, 4), (75, 0, 3), (75, 1, 21), (75, 2, 25)]) : wW) xL_1 12 (none) xE_11 (xE_11.drop 87) [.ref 84, .int a1, .int a2, .int a3, .int a4, .int a5, .int a6, .int a7, .null, .null, .null, .null, .null, .null, .null, .null, .null, .null, .null] [] (sa, sk, sf, sc, sz) Q := by
  unfold w_11_87 at h
  refine n_ld rfl rfl rfl ?_
  refine n_c [.ref 84, .ref 84] xo_dup rfl rfl ?_
  refine n_get (v := .int sa) rfl (hv_f (a := 84) rfl rfl (fun _ _ hw => hw.1.1)) ?_
  refine n_c [.int 1, .int sa, .ref 84] (xo_push (.int 1)) rfl rfl ?_
  replace h := h _ (i_add (x := sa) (y := 1) rfl (show (1 : Int32).toInt = 1 by decide))
  refine n_c [.int (sa + 1), .ref 84] xo_iadd rfl rfl ?_
  refine n_put (a := 84) (w1 := (((84, 5), 3, [(84, 2, 3), (84, 3, 4), (84, 4, 7), (83, 1, 3), (83, 2, 4), (75, 0, 3), (75, 1, 21), (75, 2, 25)]) : wW)) (s1 := ((sa + 1), sk, sf, sc, sz)) rfl rfl rfl rfl (vK_int _) rfl rfl rfl (Or.inr (Or.inl (by decide +kernel))) (ws_at (w := (((84, 5), 3, [(84, 2, 3), (84, 3, 4), (84, 4, 7), (83, 1, 3), (83, 2, 4), (75, 0, 3), (75, 1, 21), (75, 2, 25)]) : wW)) (s := (sa, sk, sf, sc, sz)) rfl) ?_
  exact n_ret0 rfl h
set_option maxRecDepth 20000 in
theorem k_11_83_3 {d d0 : Nat} (hd : d = d0 + 4) (hc : ∀ p ∈ s_w11, CTR (yex d) p.1 p.2) {R8 : Int32 → Int32 → Int32 → Int32 → Int32 → Int32 → Int32 → Int32 → Int32 → Int32 → Int32 → Int32 → Prop} {a1 : Int32} {a2 : Int32} {a3 : Int32} {a4 : Int32} {a5 : Int32} {a6 : Int32} {a7 : Int32} {a8 : Int32} {a9 : Int32} {a10 : Int32} {t1 : Int32} {t2 : Int32} {sa : Int32} {sk : Int32} {sf : Int32} {sc : Int32} {sz : Int32} {Q : Option Value → sW → Prop} (r8 : ∀ a1 a2 a3 a4 a5 a6 a7 sa sk sf sc sz, R8 a1 a2 a3 a4 a5 a6 a7 sa sk sf sc sz → Rn d wgL (((84, 5), 3, [(84, 2, 3), (84, 3, 4), (84, 4, 7), (83, 1, 3), (83, 2, 4), (75, 0, 3), (75, 1, 21), (75, 2, 25)]) : wW) (((84, 5), 3, [(84, 2, 3), (84, 3, 4), (84, 4, 7), (83, 1, 3), (83, 2, 4), (75, 0, 3), (75, 1, 21), (75, 2, 25)]) : wW) xL_1 12 (none) xE_11 (xE_11.drop 8) [.ref 84, .int a1, .int a2, .int a3, .int a4, .int a5, .int a6, .int a7, .null, .null, .null, .null, .null, .null, .null, .null, .null, .null, .null] [] (sa, sk, sf, sc, sz) Q) (h : w_11_83 (fun k => Tt d wgL (wk_11 3 k) (wk_11 3 k)) 3 R8 a1 a2 a3 a4 a5 a6 a7 a8 a9 a10 t1 t2 sa sk sf sc sz Q) : Rn d wgL (((84, 5), 3, [(84, 2, 3), (84, 3, 4), (84, 4, 7), (83, 1, 3), (83, 2, 4), (75, 0, 3), (75, 1, 21), (75, 2, 25)]) : wW) (((84, 5), 3, [(84, 2, 3), (84, 3, 4), (84, 4, 7), (83, 1, 3), (83, 2, 4), (75, 0, 3), (75, 1, 21), (75, 2, 25)]) : wW) xL_1 12 (none) xE_11 (xE_11.drop 83) [.ref 84, .int a1, .int a2, .int a3, .int a4, .int a5, .int a6, .int a7, .int a8, .int a9, .int a10, .null, .null, .null, .null, .null, .null, .null, .null] [.int t2, .int t1, .ref 84] (sa, sk, sf, sc, sz) Q := by
  unfold w_11_83 at h
  replace h := h _ (i_add (x := t1) (y := t2) rfl rfl)
  refine n_c [.int (t1 + t2), .ref 84] xo_iadd rfl rfl ?_
  refine n_put (a := 84) (w1 := (((84, 5), 3, [(84, 2, 3), (84, 3, 4), (84, 4, 7), (83, 1, 3), (83, 2, 4), (75, 0, 3), (75, 1, 21), (75, 2, 25)]) : wW)) (s1 := ((t1 + t2), sk, sf, sc, sz)) rfl rfl rfl rfl (vK_int _) rfl rfl rfl (Or.inr (Or.inl (by decide +kernel))) (ws_at (w := (((84, 5), 3, [(84, 2, 3), (84, 3, 4), (84, 4, 7), (83, 1, 3), (83, 2, 4), (75, 0, 3), (75, 1, 21), (75, 2, 25)]) : wW)) (s := (sa, sk, sf, sc, sz)) rfl) ?_
  replace h := h _ (i_add (x := a7) (y := 1) rfl (show (1 : Int32).toInt = 1 by decide))
  refine n_inc [.ref 84, .int a1, .int a2, .int a3, .int a4, .int a5, .int a6, .int (a7 + 1), .int a8, .int a9, .int a10, .null, .null, .null, .null, .null, .null, .null, .null] rfl rfl rfl rfl ?_
  refine n_go rfl ?_
  refine n_fg 8 ?_
  refine n_fg 9 ?_
  refine n_fg 10 ?_
  exact r8 a1 a2 a3 a4 a5 a6 (a7 + 1) (t1 + t2) sk sf sc sz h
set_option maxRecDepth 20000 in
theorem k_11_68_3 {d d0 : Nat} (hd : d = d0 + 4) (hc : ∀ p ∈ s_w11, CTR (yex d) p.1 p.2) {R8 : Int32 → Int32 → Int32 → Int32 → Int32 → Int32 → Int32 → Int32 → Int32 → Int32 → Int32 → Int32 → Prop} {a1 : Int32} {a2 : Int32} {a3 : Int32} {a4 : Int32} {a5 : Int32} {a6 : Int32} {a7 : Int32} {a8 : Int32} {a9 : Int32} {a10 : Int32} {sa : Int32} {sk : Int32} {sf : Int32} {sc : Int32} {sz : Int32} {Q : Option Value → sW → Prop} (r8 : ∀ a1 a2 a3 a4 a5 a6 a7 sa sk sf sc sz, R8 a1 a2 a3 a4 a5 a6 a7 sa sk sf sc sz → Rn d wgL (((84, 5), 3, [(84, 2, 3), (84, 3, 4), (84, 4, 7), (83, 1, 3), (83, 2, 4), (75, 0, 3), (75, 1, 21), (75, 2, 25)]) : wW) (((84, 5), 3, [(84, 2, 3), (84, 3, 4), (84, 4, 7), (83, 1, 3), (83, 2, 4), (75, 0, 3), (75, 1, 21), (75, 2, 25)]) : wW) xL_1 12 (none) xE_11 (xE_11.drop 8) [.ref 84, .int a1, .int a2, .int a3, .int a4, .int a5, .int a6, .int a7, .null, .null, .null, .null, .null, .null, .null, .null, .null, .null, .null] [] (sa, sk, sf, sc, sz) Q) (h : w_11_68 (fun k => Tt d wgL (wk_11 3 k) (wk_11 3 k)) 3 R8 a1 a2 a3 a4 a5 a6 a7 a8 a9 a10 sa sk sf sc sz Q) : Rn d wgL (((84, 5), 3, [(84, 2, 3), (84, 3, 4), (84, 4, 7), (83, 1, 3), (83, 2, 4), (75, 0, 3), (75, 1, 21), (75, 2, 25)]) : wW) (((84, 5), 3, [(84, 2, 3), (84, 3, 4), (84, 4, 7), (83, 1, 3), (83, 2, 4), (75, 0, 3), (75, 1, 21), (75, 2, 25)]) : wW) xL_1 12 (none) xE_11 (xE_11.drop 68) [.ref 84, .int a1, .int a2, .int a3, .int a4, .int a5, .int a6, .int a7, .int a8, .int a9, .int a10, .null, .null, .null, .null, .null, .null, .null, .null] [] (sa, sk, sf, sc, sz) Q := by
  unfold w_11_68 at h
  refine n_ld rfl rfl rfl ?_
  refine n_get (v := .ref 75) rfl (hv_R (a := 84) rfl rfl) ?_
  refine n_ld rfl rfl rfl ?_
  refine n_put (a := 75) (w1 := (((84, 5), 3, [(84, 2, 3), (84, 3, 4), (84, 4, 7), (83, 1, 3), (83, 2, 4), (75, 0, 3), (75, 1, 21), (75, 2, 25)]) : wW)) (s1 := (sa, sk, sf, sc, sz)) rfl rfl rfl rfl (vK_int _) rfl rfl rfl (Or.inr (Or.inl (by decide +kernel))) (ws_no (w := (((84, 5), 3, [(84, 2, 3), (84, 3, 4), (84, 4, 7), (83, 1, 3), (83, 2, 4), (75, 0, 3), (75, 1, 21), (75, 2, 25)]) : wW)) (s := (sa, sk, sf, sc, sz)) (a := 75) (k := 3) rfl) ?_
  refine n_ld rfl rfl rfl ?_
  refine n_c [.ref 84, .ref 84] xo_dup rfl rfl ?_
  refine n_get (v := .int sa) rfl (hv_f (a := 84) rfl rfl (fun _ _ hw => hw.1.1)) ?_
  refine n_ld rfl rfl rfl ?_
  refine n_ld rfl rfl rfl ?_
  refine n_c [.int 1, .int a2, .int a7, .int sa, .ref 84] (xo_push (.int 1)) rfl rfl ?_
  replace h := h _ (i_sub (x := a2) (y := 1) rfl (show (1 : Int32).toInt = 1 by decide))
  refine n_c [.int (a2 - 1), .int a7, .int sa, .ref 84] xo_isub rfl rfl ?_
  refine n_brP rfl rfl ⟨fun hcn => ?_, fun hcn => ?_⟩
  · replace h := h.1 ((i_le (x := (a2 - 1)) (y := a7) rfl rfl).mp hcn)
    refine n_c [.int 0, .int sa, .ref 84] (xo_push (.int 0)) rfl rfl ?_
    exact k_11_83_3 hd hc r8 h
  · replace h := h.2 (fun q => hcn ((i_le (x := (a2 - 1)) (y := a7) rfl rfl).mpr q))
    refine n_c [.int 1, .int sa, .ref 84] (xo_push (.int 1)) rfl rfl ?_
    refine n_go rfl ?_
    exact k_11_83_3 hd hc r8 h
set_option maxRecDepth 20000 in
theorem k_11_66_3 {d d0 : Nat} (hd : d = d0 + 4) (hc : ∀ p ∈ s_w11, CTR (yex d) p.1 p.2) {R8 : Int32 → Int32 → Int32 → Int32 → Int32 → Int32 → Int32 → Int32 → Int32 → Int32 → Int32 → Int32 → Prop} {a1 : Int32} {a2 : Int32} {a3 : Int32} {a4 : Int32} {a5 : Int32} {a6 : Int32} {a7 : Int32} {a8 : Int32} {a9 : Int32} {a10 : Int32} {a11 : Int32} {t1 : Int32} {sa : Int32} {sk : Int32} {sf : Int32} {sc : Int32} {sz : Int32} {Q : Option Value → sW → Prop} (r8 : ∀ a1 a2 a3 a4 a5 a6 a7 sa sk sf sc sz, R8 a1 a2 a3 a4 a5 a6 a7 sa sk sf sc sz → Rn d wgL (((84, 5), 3, [(84, 2, 3), (84, 3, 4), (84, 4, 7), (83, 1, 3), (83, 2, 4), (75, 0, 3), (75, 1, 21), (75, 2, 25)]) : wW) (((84, 5), 3, [(84, 2, 3), (84, 3, 4), (84, 4, 7), (83, 1, 3), (83, 2, 4), (75, 0, 3), (75, 1, 21), (75, 2, 25)]) : wW) xL_1 12 (none) xE_11 (xE_11.drop 8) [.ref 84, .int a1, .int a2, .int a3, .int a4, .int a5, .int a6, .int a7, .null, .null, .null, .null, .null, .null, .null, .null, .null, .null, .null] [] (sa, sk, sf, sc, sz) Q) (h : w_11_66 (fun k => Tt d wgL (wk_11 3 k) (wk_11 3 k)) 3 R8 a1 a2 a3 a4 a5 a6 a7 a8 a9 a10 a11 t1 sa sk sf sc sz Q) : Rn d wgL (((84, 5), 3, [(84, 2, 3), (84, 3, 4), (84, 4, 7), (83, 1, 3), (83, 2, 4), (75, 0, 3), (75, 1, 21), (75, 2, 25)]) : wW) (((84, 5), 3, [(84, 2, 3), (84, 3, 4), (84, 4, 7), (83, 1, 3), (83, 2, 4), (75, 0, 3), (75, 1, 21), (75, 2, 25)]) : wW) xL_1 12 (none) xE_11 (xE_11.drop 66) [.ref 84, .int a1, .int a2, .int a3, .int a4, .int a5, .int a6, .int a7, .int a8, .int a9, .int a10, .int a11, .null, .null, .null, .null, .null, .null, .null] [.int t1, .ref 3] (sa, sk, sf, sc, sz) Q := by
  unfold w_11_66 at h
  refine n_ld rfl rfl rfl ?_
  refine n_tt [.ref 3, .int t1, .int a9] [] rfl rfl rfl rfl (Tt.imp h (fun v6 sq h => ?_))
  obtain ⟨sa1, sk2, sf3, sc4, sz5⟩ := sq
  obtain ⟨rfl, h⟩ := h
  change Rn _ _ _ _ _ _ _ _ _ _ [] _ _
  refine n_fg 11 ?_
  exact k_11_68_3 hd hc r8 h
set_option maxRecDepth 20000 in
theorem k_11_8_3 {d d0 : Nat} (hd : d = d0 + 4) (hc : ∀ p ∈ s_w11, CTR (yex d) p.1 p.2) {R8 : Int32 → Int32 → Int32 → Int32 → Int32 → Int32 → Int32 → Int32 → Int32 → Int32 → Int32 → Int32 → Prop} {a1 : Int32} {a2 : Int32} {a3 : Int32} {a4 : Int32} {a5 : Int32} {a6 : Int32} {a7 : Int32} {sa : Int32} {sk : Int32} {sf : Int32} {sc : Int32} {sz : Int32} {Q : Option Value → sW → Prop} (r8 : ∀ a1 a2 a3 a4 a5 a6 a7 sa sk sf sc sz, R8 a1 a2 a3 a4 a5 a6 a7 sa sk sf sc sz → Rn d wgL (((84, 5), 3, [(84, 2, 3), (84, 3, 4), (84, 4, 7), (83, 1, 3), (83, 2, 4), (75, 0, 3), (75, 1, 21), (75, 2, 25)]) : wW) (((84, 5), 3, [(84, 2, 3), (84, 3, 4), (84, 4, 7), (83, 1, 3), (83, 2, 4), (75, 0, 3), (75, 1, 21), (75, 2, 25)]) : wW) xL_1 12 (none) xE_11 (xE_11.drop 8) [.ref 84, .int a1, .int a2, .int a3, .int a4, .int a5, .int a6, .int a7, .null, .null, .null, .null, .null, .null, .null, .null, .null, .null, .null] [] (sa, sk, sf, sc, sz) Q) (h : w_11_8 (fun k => Tt d wgL (wk_11 3 k) (wk_11 3 k)) 3 R8 a1 a2 a3 a4 a5 a6 a7 sa sk sf sc sz Q) : Rn d wgL (((84, 5), 3, [(84, 2, 3), (84, 3, 4), (84, 4, 7), (83, 1, 3), (83, 2, 4), (75, 0, 3), (75, 1, 21), (75, 2, 25)]) : wW) (((84, 5), 3, [(84, 2, 3), (84, 3, 4), (84, 4, 7), (83, 1, 3), (83, 2, 4), (75, 0, 3), (75, 1, 21), (75, 2, 25)]) : wW) xL_1 12 (none) xE_11 (xE_11.drop 8) [.ref 84, .int a1, .int a2, .int a3, .int a4, .int a5, .int a6, .int a7, .null, .null, .null, .null, .null, .null, .null, .null, .null, .null, .null] [] (sa, sk, sf, sc, sz) Q := by
  unfold w_11_8 at h
  refine n_ld rfl rfl rfl ?_
  refine n_ld rfl rfl rfl ?_
  refine n_brP rfl rfl ⟨fun hcn => ?_, fun hcn => ?_⟩
  · replace h := h.1 ((i_le (x := a2) (y := a7) rfl rfl).mp hcn)
    exact k_11_87_3 hd hc  h
  · replace h := h.2 (fun q => hcn ((i_le (x := a2) (y := a7) rfl rfl).mpr q))
    refine n_ld rfl rfl rfl ?_
    refine n_get (v := .ref 3) rfl (hv_C (a := 84) (n := 0) rfl rfl rfl) ?_
    refine n_get (v := .int sf) rfl (hv_f (a := 3) rfl rfl (fun _ _ hw => hw.1.2.2.1)) ?_
    refine n_brN rfl rfl ⟨fun hcn => ?_, fun hcn => ?_⟩
    · replace h := h.1 (fun q => hcn ((i_eq (x := sf) (y := 0) rfl (show (0 : Int32).toInt = 0 by decide)).mpr q))
      exact k_11_87_3 hd hc  h
    · replace h := h.2 ((i_eq (x := sf) (y := 0) rfl (show (0 : Int32).toInt = 0 by decide)).mp hcn)
      refine n_ld rfl rfl rfl ?_
      refine n_get (v := .ref 75) rfl (hv_R (a := 84) rfl rfl) ?_
      refine n_getI (a := 75) rfl rfl rfl (fun x1 hl hu => ?_)
      replace h := h x1
      refine n_st [.ref 84, .int a1, .int a2, .int a3, .int a4, .int a5, .int a6, .int a7, .int x1, .null, .null, .null, .null, .null, .null, .null, .null, .null, .null] rfl rfl rfl ?_
      refine n_ld rfl rfl rfl ?_
      refine n_get (v := .int sa) rfl (hv_f (a := 84) rfl rfl (fun _ _ hw => hw.1.1)) ?_
      refine n_st [.ref 84, .int a1, .int a2, .int a3, .int a4, .int a5, .int a6, .int a7, .int x1, .int sa, .null, .null, .null, .null, .null, .null, .null, .null, .null] rfl rfl rfl ?_
      refine n_ld rfl rfl rfl ?_
      refine n_ld rfl rfl rfl ?_
      refine n_c [.int 1, .int a6, .ref 84] (xo_push (.int 1)) rfl rfl ?_
      replace h := h _ (i_add (x := a6) (y := 1) rfl (show (1 : Int32).toInt = 1 by decide))
      refine n_c [.int (a6 + 1), .ref 84] xo_iadd rfl rfl ?_
      refine n_tt [.ref 84, .int (a6 + 1)] [] rfl rfl rfl rfl (Tt.imp h (fun v8 sq h => ?_))
      obtain ⟨sa3, sk4, sf5, sc6, sz7⟩ := sq
      obtain ⟨x9, rfl, h⟩ := h
      change Rn _ _ _ _ _ _ _ _ _ _ [.int x9] _ _
      refine n_st [.ref 84, .int a1, .int a2, .int a3, .int a4, .int a5, .int a6, .int a7, .int x1, .int sa, .int x9, .null, .null, .null, .null, .null, .null, .null, .null] rfl rfl rfl ?_
      refine n_ld rfl rfl rfl ?_
      refine n_get (v := .ref 3) rfl (hv_C (a := 84) (n := 0) rfl rfl rfl) ?_
      refine n_get (v := .int sf5) rfl (hv_f (a := 3) rfl rfl (fun _ _ hw => hw.1.2.2.1)) ?_
      refine n_brN rfl rfl ⟨fun hcn => ?_, fun hcn => ?_⟩
      · replace h := h.1 (fun q => hcn ((i_eq (x := sf5) (y := 0) rfl (show (0 : Int32).toInt = 0 by decide)).mpr q))
        exact k_11_68_3 hd hc r8 h
      · replace h := h.2 ((i_eq (x := sf5) (y := 0) rfl (show (0 : Int32).toInt = 0 by decide)).mp hcn)
        refine n_ld rfl rfl rfl ?_
        refine n_get (v := .ref 75) rfl (hv_R (a := 84) rfl rfl) ?_
        refine n_ld rfl rfl rfl ?_
        refine n_get (v := .ref 75) rfl (hv_R (a := 84) rfl rfl) ?_
        refine n_get (v := .ref 76) rfl (hv_R (a := 75) rfl rfl) ?_
        refine n_ld rfl rfl rfl ?_
        refine n_ld rfl rfl rfl ?_
        refine n_ld rfl rfl rfl ?_
        refine n_ctr [.ref 75, .ref 76, .int a3, .int a4, .int a5] [] rfl rfl rfl (hc (86, q_86) (List.mem_of_getElem? (i := 0) rfl)) ⟨⟨_, rfl, cmem_ok rfl⟩, ⟨_, rfl, cmem_ok rfl⟩, vK_int _, vK_int _, vK_int _, trivial⟩ rfl rfl (fun vq sq hv hk => ?_)
        obtain ⟨sa10, sk11, sf12, sc13, sz14⟩ := sq
        obtain ⟨k1, k2, k3, k4, k5, k6, k7⟩ := hk
        obtain rfl : sa3 = sa10 := (k1 (wmem_no rfl)).symm
        obtain rfl : sk4 = sk11 := (k2).symm
        obtain rfl : sf5 = sf12 := (k3 (wmem_no rfl)).symm
        obtain rfl : sc6 = sc13 := (k5 (wmem_no rfl)).symm
        obtain rfl : sz7 = sz14 := (k6 (wmem_no rfl)).symm
        cases (show vq = none from hv)
        change Rn _ _ _ _ _ _ _ _ _ _ [] _ _
        refine n_ld rfl rfl rfl ?_
        refine n_get (v := .ref 75) rfl (hv_R (a := 84) rfl rfl) ?_
        refine n_ld rfl rfl rfl ?_
        refine n_get (v := .ref 3) rfl (hv_C (a := 84) (n := 0) rfl rfl rfl) ?_
        refine n_ld rfl rfl rfl ?_
        refine n_ld rfl rfl rfl ?_
        replace h := h _ (i_add (x := a1) (y := a7) rfl rfl)
        refine n_c [.int (a1 + a7), .ref 3, .ref 75] xo_iadd rfl rfl ?_
        refine n_c [.int 3, .int (a1 + a7), .ref 3, .ref 75] (xo_push (.int 3)) rfl rfl ?_
        refine n_ctr [.ref 3, .int (a1 + a7), .int 3] [.ref 75] rfl rfl rfl (hc (42, q_42) (List.mem_of_getElem? (i := 1) rfl)) ⟨⟨_, rfl, cmem_ok rfl⟩, vK_int _, vK_int _, trivial⟩ rfl rfl (fun vq sq hv hk => ?_)
        obtain ⟨sa16, sk17, sf18, sc19, sz20⟩ := sq
        obtain ⟨k1, k2, k3, k4, k5, k6, k7⟩ := hk
        obtain rfl : sa3 = sa16 := (k1 (wmem_no rfl)).symm
        obtain rfl : sk4 = sk17 := (k2).symm
        obtain rfl : sf5 = sf18 := (k3 (wmem_no rfl)).symm
        obtain rfl : sc6 = sc19 := (k5 (wmem_no rfl)).symm
        obtain rfl : sz7 = sz20 := (k6 (wmem_no rfl)).symm
        obtain ⟨vr, rfl, x21, rfl, hl, hu⟩ := hv
        replace h := h x21 hl hu
        change Rn _ _ _ _ _ _ _ _ _ _ [.int x21, .ref 75] _ _
        refine n_ld rfl rfl rfl ?_
        refine n_get (v := .ref 75) rfl (hv_R (a := 84) rfl rfl) ?_
        refine n_get (v := .ref 76) rfl (hv_R (a := 75) rfl rfl) ?_
        refine n_ctr [.ref 75, .int x21, .ref 76] [] rfl rfl rfl (hc (87, q_87) (List.mem_of_getElem? (i := 2) rfl)) ⟨⟨_, rfl, cmem_ok rfl⟩, vK_int _, ⟨_, rfl, cmem_ok rfl⟩, trivial⟩ rfl rfl (fun vq sq hv hk => ?_)
        obtain ⟨sa22, sk23, sf24, sc25, sz26⟩ := sq
        obtain ⟨k1, k2, k3, k4, k5, k6, k7⟩ := hk
        obtain rfl : sa3 = sa22 := (k1 (wmem_no rfl)).symm
        obtain rfl : sk4 = sk23 := (k2).symm
        obtain rfl : sf5 = sf24 := (k3 (wmem_no rfl)).symm
        obtain rfl : sc6 = sc25 := (k5 (wmem_no rfl)).symm
        obtain rfl : sz7 = sz26 := (k6 (wmem_no rfl)).symm
        obtain ⟨vr, rfl, x27, rfl, hl, hu⟩ := hv
        replace h := h x27
        change Rn _ _ _ _ _ _ _ _ _ _ [.int x27] _ _
        refine n_st [.ref 84, .int a1, .int a2, .int a3, .int a4, .int a5, .int a6, .int a7, .int x1, .int sa, .int x9, .int x27, .null, .null, .null, .null, .null, .null, .null] rfl rfl rfl ?_
        refine n_ld rfl rfl rfl ?_
        refine n_get (v := .ref 3) rfl (hv_C (a := 84) (n := 0) rfl rfl rfl) ?_
        refine n_ld rfl rfl rfl ?_
        refine n_brP rfl rfl ⟨fun hcn => ?_, fun hcn => ?_⟩
        · replace h := h.1 ((i_le (x := 0) (y := x27) (show (0 : Int32).toInt = 0 by decide) rfl).mp hcn)
          refine n_ld rfl rfl rfl ?_
          refine n_get (v := .ref 75) rfl (hv_R (a := 84) rfl rfl) ?_
          refine n_ld rfl rfl rfl ?_
          refine n_ld rfl rfl rfl ?_
          refine n_ctr [.ref 75, .int x9, .int x27] [.ref 3] rfl rfl rfl (hc (88, q_88) (List.mem_of_getElem? (i := 3) rfl)) ⟨⟨_, rfl, cmem_ok rfl⟩, vK_int _, vK_int _, trivial⟩ rfl rfl (fun vq sq hv hk => ?_)
          obtain ⟨sa28, sk29, sf30, sc31, sz32⟩ := sq
          obtain ⟨k1, k2, k3, k4, k5, k6, k7⟩ := hk
          obtain rfl : sa3 = sa28 := (k1 (wmem_no rfl)).symm
          obtain rfl : sk4 = sk29 := (k2).symm
          obtain rfl : sf5 = sf30 := (k3 (wmem_no rfl)).symm
          obtain rfl : sc6 = sc31 := (k5 (wmem_no rfl)).symm
          obtain rfl : sz7 = sz32 := (k6 (wmem_no rfl)).symm
          obtain ⟨vr, rfl, x33, rfl, hl, hu⟩ := hv
          replace h := h x33 hl hu
          change Rn _ _ _ _ _ _ _ _ _ _ [.int x33, .ref 3] _ _
          exact k_11_66_3 hd hc r8 h
        · replace h := h.2 (fun q => hcn ((i_le (x := 0) (y := x27) (show (0 : Int32).toInt = 0 by decide) rfl).mpr q))
          refine n_c [.int 9, .ref 3] (xo_push (.int 9)) rfl rfl ?_
          refine n_go rfl ?_
          exact k_11_66_3 hd hc r8 h
theorem kl_11_8_3 {d d0 : Nat} (hd : d = d0 + 4) (hc : ∀ p ∈ s_w11, CTR (yex d) p.1 p.2)  {a1 : Int32} {a2 : Int32} {a3 : Int32} {a4 : Int32} {a5 : Int32} {a6 : Int32} {a7 : Int32} {sa : Int32} {sk : Int32} {sf : Int32} {sc : Int32} {sz : Int32} {Q : Option Value → sW → Prop}  (h : wl_11_8 (fun k => Tt d wgL (wk_11 3 k) (wk_11 3 k)) 3  a1 a2 a3 a4 a5 a6 a7 sa sk sf sc sz Q) : Rn d wgL (((84, 5), 3, [(84, 2, 3), (84, 3, 4), (84, 4, 7), (83, 1, 3), (83, 2, 4), (75, 0, 3), (75, 1, 21), (75, 2, 25)]) : wW) (((84, 5), 3, [(84, 2, 3), (84, 3, 4), (84, 4, 7), (83, 1, 3), (83, 2, 4), (75, 0, 3), (75, 1, 21), (75, 2, 25)]) : wW) xL_1 12 (none) xE_11 (xE_11.drop 8) [.ref 84, .int a1, .int a2, .int a3, .int a4, .int a5, .int a6, .int a7, .null, .null, .null, .null, .null, .null, .null, .null, .null, .null, .null] [] (sa, sk, sf, sc, sz) Q := by
  obtain ⟨I, μ, h0, h1⟩ := h
  have key : ∀ (n : Nat) (a1 : Int32) (a2 : Int32) (a3 : Int32) (a4 : Int32) (a5 : Int32) (a6 : Int32) (a7 : Int32) (sa : Int32) (sk : Int32) (sf : Int32) (sc : Int32) (sz : Int32), μ a1 a2 a3 a4 a5 a6 a7 sa sk sf sc sz = n → I a1 a2 a3 a4 a5 a6 a7 sa sk sf sc sz → Rn d wgL (((84, 5), 3, [(84, 2, 3), (84, 3, 4), (84, 4, 7), (83, 1, 3), (83, 2, 4), (75, 0, 3), (75, 1, 21), (75, 2, 25)]) : wW) (((84, 5), 3, [(84, 2, 3), (84, 3, 4), (84, 4, 7), (83, 1, 3), (83, 2, 4), (75, 0, 3), (75, 1, 21), (75, 2, 25)]) : wW) xL_1 12 (none) xE_11 (xE_11.drop 8) [.ref 84, .int a1, .int a2, .int a3, .int a4, .int a5, .int a6, .int a7, .null, .null, .null, .null, .null, .null, .null, .null, .null, .null, .null] [] (sa, sk, sf, sc, sz) Q := by
    intro n
    induction n using Nat.strongRecOn with
    | ind n ih =>
      intro a1 a2 a3 a4 a5 a6 a7 sa sk sf sc sz e hI
      exact k_11_8_3 hd hc (fun a1' a2' a3' a4' a5' a6' a7' sa' sk' sf' sc' sz' q => ih _ (by rw [← e]; exact q.2) a1' a2' a3' a4' a5' a6' a7' sa' sk' sf' sc' sz' rfl q.1) (h1 a1 a2 a3 a4 a5 a6 a7 sa sk sf sc sz hI)
  exact key _ a1 a2 a3 a4 a5 a6 a7 sa sk sf sc sz rfl h0
set_option maxRecDepth 20000 in
theorem k_11_0_3 {d d0 : Nat} (hd : d = d0 + 4) (hc : ∀ p ∈ s_w11, CTR (yex d) p.1 p.2)  {a1 : Int32} {a2 : Int32} {a3 : Int32} {a4 : Int32} {a5 : Int32} {a6 : Int32} {sa : Int32} {sk : Int32} {sf : Int32} {sc : Int32} {sz : Int32} {Q : Option Value → sW → Prop}  (h : w_11_0 (fun k => Tt d wgL (wk_11 3 k) (wk_11 3 k)) 3  a1 a2 a3 a4 a5 a6 sa sk sf sc sz Q) : Rn d wgL (((84, 5), 3, [(84, 2, 3), (84, 3, 4), (84, 4, 7), (83, 1, 3), (83, 2, 4), (75, 0, 3), (75, 1, 21), (75, 2, 25)]) : wW) (((84, 5), 3, [(84, 2, 3), (84, 3, 4), (84, 4, 7), (83, 1, 3), (83, 2, 4), (75, 0, 3), (75, 1, 21), (75, 2, 25)]) : wW) xL_1 12 (none) xE_11 (xE_11.drop 0) [.ref 84, .int a1, .int a2, .int a3, .int a4, .int a5, .int a6, .null, .null, .null, .null, .null, .null, .null, .null, .null, .null, .null, .null] [] (sa, sk, sf, sc, sz) Q := by
  unfold w_11_0 at h
  refine n_ld rfl rfl rfl ?_
  refine n_c [.ref 84, .ref 84] xo_dup rfl rfl ?_
  refine n_get (v := .int sa) rfl (hv_f (a := 84) rfl rfl (fun _ _ hw => hw.1.1)) ?_
  refine n_c [.int 1, .int sa, .ref 84] (xo_push (.int 1)) rfl rfl ?_
  replace h := h _ (i_add (x := sa) (y := 1) rfl (show (1 : Int32).toInt = 1 by decide))
  refine n_c [.int (sa + 1), .ref 84] xo_iadd rfl rfl ?_
  refine n_put (a := 84) (w1 := (((84, 5), 3, [(84, 2, 3), (84, 3, 4), (84, 4, 7), (83, 1, 3), (83, 2, 4), (75, 0, 3), (75, 1, 21), (75, 2, 25)]) : wW)) (s1 := ((sa + 1), sk, sf, sc, sz)) rfl rfl rfl rfl (vK_int _) rfl rfl rfl (Or.inr (Or.inl (by decide +kernel))) (ws_at (w := (((84, 5), 3, [(84, 2, 3), (84, 3, 4), (84, 4, 7), (83, 1, 3), (83, 2, 4), (75, 0, 3), (75, 1, 21), (75, 2, 25)]) : wW)) (s := (sa, sk, sf, sc, sz)) rfl) ?_
  refine n_c [.int 0] (xo_push (.int 0)) rfl rfl ?_
  refine n_st [.ref 84, .int a1, .int a2, .int a3, .int a4, .int a5, .int a6, .int 0, .null, .null, .null, .null, .null, .null, .null, .null, .null, .null, .null] rfl rfl rfl ?_
  exact kl_11_8_3 hd hc  h
theorem t_11_3 {d : Nat} (hc : ∀ p ∈ s_w11, CTR (yex (d + 4)) p.1 p.2) {a1 : Int32} {a2 : Int32} {a3 : Int32} {a4 : Int32} {a5 : Int32} {a6 : Int32} {sa : Int32} {sk : Int32} {sf : Int32} {sc : Int32} {sz : Int32} {Q : Option Value → sW → Prop} (h : w_11_0 (fun k => Tt (d + 4) wgL (wk_11 3 k) (wk_11 3 k)) 3 a1 a2 a3 a4 a5 a6 sa sk sf sc sz Q) : Tt (d + 5) wgL (((84, 5), 3, [(84, 2, 3), (84, 3, 4), (84, 4, 7), (83, 1, 3), (83, 2, 4), (75, 0, 3), (75, 1, 21), (75, 2, 25)]) : wW) (((84, 5), 3, [(84, 2, 3), (84, 3, 4), (84, 4, 7), (83, 1, 3), (83, 2, 4), (75, 0, 3), (75, 1, 21), (75, 2, 25)]) : wW) 11 [.ref 84, .int a1, .int a2, .int a3, .int a4, .int a5, .int a6] (sa, sk, sf, sc, sz) Q := tt_of (E := xE_11) (L := xL_1) (ml := 12) (ret := none) rfl rfl rfl (k_11_0_3 rfl hc h)
set_option maxRecDepth 20000 in
theorem k_11_87_39 {d d0 : Nat} (hd : d = d0 + 4) (hc : ∀ p ∈ s_w11, CTR (yex d) p.1 p.2)  {a1 : Int32} {a2 : Int32} {a3 : Int32} {a4 : Int32} {a5 : Int32} {a6 : Int32} {a7 : Int32} {sa : Int32} {sk : Int32} {sf : Int32} {sc : Int32} {sz : Int32} {Q : Option Value → sW → Prop}  (h : w_11_87 (fun k => Tt d wgL (wk_11 39 k) (wk_11 39 k)) 39  a1 a2 a3 a4 a5 a6 a7 sa sk sf sc sz Q) : Rn d wgL (((84, 5), 39, [(84, 2, 39), (84, 3, 40), (84, 4, 43), (83, 1, 39), (83, 2, 40), (75, 0, 39), (75, 1, 57), (75, 2, 61)]) : wW) (((84, 5), 39, [(84, 2, 39), (84, 3, 40), (84, 4, 43), (83, 1, 39), (83, 2, 40), (75, 0, 39), (75, 1, 57), (75, 2, 61)]) : wW) xL_1 12 (none) xE_11 (xE_11.drop 87) [.ref 84, .int a1, .int a2, .int a3, .int a4, .int a5, .int a6, .int a7, .null, .null, .null, .null, .null, .null, .null, .null, .null, .null, .null] [] (sa, sk, sf, sc, sz) Q := by
  unfold w_11_87 at h
  refine n_ld rfl rfl rfl ?_
  refine n_c [.ref 84, .ref 84] xo_dup rfl rfl ?_
  refine n_get (v := .int sa) rfl (hv_f (a := 84) rfl rfl (fun _ _ hw => hw.1.1)) ?_
  refine n_c [.int 1, .int sa, .ref 84] (xo_push (.int 1)) rfl rfl ?_
  replace h := h _ (i_add (x := sa) (y := 1) rfl (show (1 : Int32).toInt = 1 by decide))
  refine n_c [.int (sa + 1), .ref 84] xo_iadd rfl rfl ?_
  refine n_put (a := 84) (w1 := (((84, 5), 39, [(84, 2, 39), (84, 3, 40), (84, 4, 43), (83, 1, 39), (83, 2, 40), (75, 0, 39), (75, 1, 57), (75, 2, 61)]) : wW)) (s1 := ((sa + 1), sk, sf, sc, sz)) rfl rfl rfl rfl (vK_int _) rfl rfl rfl (Or.inr (Or.inl (by decide +kernel))) (ws_at (w := (((84, 5), 39, [(84, 2, 39), (84, 3, 40), (84, 4, 43), (83, 1, 39), (83, 2, 40), (75, 0, 39), (75, 1, 57), (75, 2, 61)]) : wW)) (s := (sa, sk, sf, sc, sz)) rfl) ?_
  exact n_ret0 rfl h
set_option maxRecDepth 20000 in
theorem k_11_83_39 {d d0 : Nat} (hd : d = d0 + 4) (hc : ∀ p ∈ s_w11, CTR (yex d) p.1 p.2) {R8 : Int32 → Int32 → Int32 → Int32 → Int32 → Int32 → Int32 → Int32 → Int32 → Int32 → Int32 → Int32 → Prop} {a1 : Int32} {a2 : Int32} {a3 : Int32} {a4 : Int32} {a5 : Int32} {a6 : Int32} {a7 : Int32} {a8 : Int32} {a9 : Int32} {a10 : Int32} {t1 : Int32} {t2 : Int32} {sa : Int32} {sk : Int32} {sf : Int32} {sc : Int32} {sz : Int32} {Q : Option Value → sW → Prop} (r8 : ∀ a1 a2 a3 a4 a5 a6 a7 sa sk sf sc sz, R8 a1 a2 a3 a4 a5 a6 a7 sa sk sf sc sz → Rn d wgL (((84, 5), 39, [(84, 2, 39), (84, 3, 40), (84, 4, 43), (83, 1, 39), (83, 2, 40), (75, 0, 39), (75, 1, 57), (75, 2, 61)]) : wW) (((84, 5), 39, [(84, 2, 39), (84, 3, 40), (84, 4, 43), (83, 1, 39), (83, 2, 40), (75, 0, 39), (75, 1, 57), (75, 2, 61)]) : wW) xL_1 12 (none) xE_11 (xE_11.drop 8) [.ref 84, .int a1, .int a2, .int a3, .int a4, .int a5, .int a6, .int a7, .null, .null, .null, .null, .null, .null, .null, .null, .null, .null, .null] [] (sa, sk, sf, sc, sz) Q) (h : w_11_83 (fun k => Tt d wgL (wk_11 39 k) (wk_11 39 k)) 39 R8 a1 a2 a3 a4 a5 a6 a7 a8 a9 a10 t1 t2 sa sk sf sc sz Q) : Rn d wgL (((84, 5), 39, [(84, 2, 39), (84, 3, 40), (84, 4, 43), (83, 1, 39), (83, 2, 40), (75, 0, 39), (75, 1, 57), (75, 2, 61)]) : wW) (((84, 5), 39, [(84, 2, 39), (84, 3, 40), (84, 4, 43), (83, 1, 39), (83, 2, 40), (75, 0, 39), (75, 1, 57), (75, 2, 61)]) : wW) xL_1 12 (none) xE_11 (xE_11.drop 83) [.ref 84, .int a1, .int a2, .int a3, .int a4, .int a5, .int a6, .int a7, .int a8, .int a9, .int a10, .null, .null, .null, .null, .null, .null, .null, .null] [.int t2, .int t1, .ref 84] (sa, sk, sf, sc, sz) Q := by
  unfold w_11_83 at h
  replace h := h _ (i_add (x := t1) (y := t2) rfl rfl)
  refine n_c [.int (t1 + t2), .ref 84] xo_iadd rfl rfl ?_
  refine n_put (a := 84) (w1 := (((84, 5), 39, [(84, 2, 39), (84, 3, 40), (84, 4, 43), (83, 1, 39), (83, 2, 40), (75, 0, 39), (75, 1, 57), (75, 2, 61)]) : wW)) (s1 := ((t1 + t2), sk, sf, sc, sz)) rfl rfl rfl rfl (vK_int _) rfl rfl rfl (Or.inr (Or.inl (by decide +kernel))) (ws_at (w := (((84, 5), 39, [(84, 2, 39), (84, 3, 40), (84, 4, 43), (83, 1, 39), (83, 2, 40), (75, 0, 39), (75, 1, 57), (75, 2, 61)]) : wW)) (s := (sa, sk, sf, sc, sz)) rfl) ?_
  replace h := h _ (i_add (x := a7) (y := 1) rfl (show (1 : Int32).toInt = 1 by decide))
  refine n_inc [.ref 84, .int a1, .int a2, .int a3, .int a4, .int a5, .int a6, .int (a7 + 1), .int a8, .int a9, .int a10, .null, .null, .null, .null, .null, .null, .null, .null] rfl rfl rfl rfl ?_
  refine n_go rfl ?_
  refine n_fg 8 ?_
  refine n_fg 9 ?_
  refine n_fg 10 ?_
  exact r8 a1 a2 a3 a4 a5 a6 (a7 + 1) (t1 + t2) sk sf sc sz h
set_option maxRecDepth 20000 in
theorem k_11_68_39 {d d0 : Nat} (hd : d = d0 + 4) (hc : ∀ p ∈ s_w11, CTR (yex d) p.1 p.2) {R8 : Int32 → Int32 → Int32 → Int32 → Int32 → Int32 → Int32 → Int32 → Int32 → Int32 → Int32 → Int32 → Prop} {a1 : Int32} {a2 : Int32} {a3 : Int32} {a4 : Int32} {a5 : Int32} {a6 : Int32} {a7 : Int32} {a8 : Int32} {a9 : Int32} {a10 : Int32} {sa : Int32} {sk : Int32} {sf : Int32} {sc : Int32} {sz : Int32} {Q : Option Value → sW → Prop} (r8 : ∀ a1 a2 a3 a4 a5 a6 a7 sa sk sf sc sz, R8 a1 a2 a3 a4 a5 a6 a7 sa sk sf sc sz → Rn d wgL (((84, 5), 39, [(84, 2, 39), (84, 3, 40), (84, 4, 43), (83, 1, 39), (83, 2, 40), (75, 0, 39), (75, 1, 57), (75, 2, 61)]) : wW) (((84, 5), 39, [(84, 2, 39), (84, 3, 40), (84, 4, 43), (83, 1, 39), (83, 2, 40), (75, 0, 39), (75, 1, 57), (75, 2, 61)]) : wW) xL_1 12 (none) xE_11 (xE_11.drop 8) [.ref 84, .int a1, .int a2, .int a3, .int a4, .int a5, .int a6, .int a7, .null, .null, .null, .null, .null, .null, .null, .null, .null, .null, .null] [] (sa, sk, sf, sc, sz) Q) (h : w_11_68 (fun k => Tt d wgL (wk_11 39 k) (wk_11 39 k)) 39 R8 a1 a2 a3 a4 a5 a6 a7 a8 a9 a10 sa sk sf sc sz Q) : Rn d wgL (((84, 5), 39, [(84, 2, 39), (84, 3, 40), (84, 4, 43), (83, 1, 39), (83, 2, 40), (75, 0, 39), (75, 1, 57), (75, 2, 61)]) : wW) (((84, 5), 39, [(84, 2, 39), (84, 3, 40), (84, 4, 43), (83, 1, 39), (83, 2, 40), (75, 0, 39), (75, 1, 57), (75, 2, 61)]) : wW) xL_1 12 (none) xE_11 (xE_11.drop 68) [.ref 84, .int a1, .int a2, .int a3, .int a4, .int a5, .int a6, .int a7, .int a8, .int a9, .int a10, .null, .null, .null, .null, .null, .null, .null, .null] [] (sa, sk, sf, sc, sz) Q := by
  unfold w_11_68 at h
  refine n_ld rfl rfl rfl ?_
  refine n_get (v := .ref 75) rfl (hv_R (a := 84) rfl rfl) ?_
  refine n_ld rfl rfl rfl ?_
  refine n_put (a := 75) (w1 := (((84, 5), 39, [(84, 2, 39), (84, 3, 40), (84, 4, 43), (83, 1, 39), (83, 2, 40), (75, 0, 39), (75, 1, 57), (75, 2, 61)]) : wW)) (s1 := (sa, sk, sf, sc, sz)) rfl rfl rfl rfl (vK_int _) rfl rfl rfl (Or.inr (Or.inl (by decide +kernel))) (ws_no (w := (((84, 5), 39, [(84, 2, 39), (84, 3, 40), (84, 4, 43), (83, 1, 39), (83, 2, 40), (75, 0, 39), (75, 1, 57), (75, 2, 61)]) : wW)) (s := (sa, sk, sf, sc, sz)) (a := 75) (k := 3) rfl) ?_
  refine n_ld rfl rfl rfl ?_
  refine n_c [.ref 84, .ref 84] xo_dup rfl rfl ?_
  refine n_get (v := .int sa) rfl (hv_f (a := 84) rfl rfl (fun _ _ hw => hw.1.1)) ?_
  refine n_ld rfl rfl rfl ?_
  refine n_ld rfl rfl rfl ?_
  refine n_c [.int 1, .int a2, .int a7, .int sa, .ref 84] (xo_push (.int 1)) rfl rfl ?_
  replace h := h _ (i_sub (x := a2) (y := 1) rfl (show (1 : Int32).toInt = 1 by decide))
  refine n_c [.int (a2 - 1), .int a7, .int sa, .ref 84] xo_isub rfl rfl ?_
  refine n_brP rfl rfl ⟨fun hcn => ?_, fun hcn => ?_⟩
  · replace h := h.1 ((i_le (x := (a2 - 1)) (y := a7) rfl rfl).mp hcn)
    refine n_c [.int 0, .int sa, .ref 84] (xo_push (.int 0)) rfl rfl ?_
    exact k_11_83_39 hd hc r8 h
  · replace h := h.2 (fun q => hcn ((i_le (x := (a2 - 1)) (y := a7) rfl rfl).mpr q))
    refine n_c [.int 1, .int sa, .ref 84] (xo_push (.int 1)) rfl rfl ?_
    refine n_go rfl ?_
    exact k_11_83_39 hd hc r8 h
set_option maxRecDepth 20000 in
theorem k_11_66_39 {d d0 : Nat} (hd : d = d0 + 4) (hc : ∀ p ∈ s_w11, CTR (yex d) p.1 p.2) {R8 : Int32 → Int32 → Int32 → Int32 → Int32 → Int32 → Int32 → Int32 → Int32 → Int32 → Int32 → Int32 → Prop} {a1 : Int32} {a2 : Int32} {a3 : Int32} {a4 : Int32} {a5 : Int32} {a6 : Int32} {a7 : Int32} {a8 : Int32} {a9 : Int32} {a10 : Int32} {a11 : Int32} {t1 : Int32} {sa : Int32} {sk : Int32} {sf : Int32} {sc : Int32} {sz : Int32} {Q : Option Value → sW → Prop} (r8 : ∀ a1 a2 a3 a4 a5 a6 a7 sa sk sf sc sz, R8 a1 a2 a3 a4 a5 a6 a7 sa sk sf sc sz → Rn d wgL (((84, 5), 39, [(84, 2, 39), (84, 3, 40), (84, 4, 43), (83, 1, 39), (83, 2, 40), (75, 0, 39), (75, 1, 57), (75, 2, 61)]) : wW) (((84, 5), 39, [(84, 2, 39), (84, 3, 40), (84, 4, 43), (83, 1, 39), (83, 2, 40), (75, 0, 39), (75, 1, 57), (75, 2, 61)]) : wW) xL_1 12 (none) xE_11 (xE_11.drop 8) [.ref 84, .int a1, .int a2, .int a3, .int a4, .int a5, .int a6, .int a7, .null, .null, .null, .null, .null, .null, .null, .null, .null, .null, .null] [] (sa, sk, sf, sc, sz) Q) (h : w_11_66 (fun k => Tt d wgL (wk_11 39 k) (wk_11 39 k)) 39 R8 a1 a2 a3 a4 a5 a6 a7 a8 a9 a10 a11 t1 sa sk sf sc sz Q) : Rn d wgL (((84, 5), 39, [(84, 2, 39), (84, 3, 40), (84, 4, 43), (83, 1, 39), (83, 2, 40), (75, 0, 39), (75, 1, 57), (75, 2, 61)]) : wW) (((84, 5), 39, [(84, 2, 39), (84, 3, 40), (84, 4, 43), (83, 1, 39), (83, 2, 40), (75, 0, 39), (75, 1, 57), (75, 2, 61)]) : wW) xL_1 12 (none) xE_11 (xE_11.drop 66) [.ref 84, .int a1, .int a2, .int a3, .int a4, .int a5, .int a6, .int a7, .int a8, .int a9, .int a10, .int a11, .null, .null, .null, .null, .null, .null, .null] [.int t1, .ref 39] (sa, sk, sf, sc, sz) Q := by
  unfold w_11_66 at h
  refine n_ld rfl rfl rfl ?_
  refine n_tt [.ref 39, .int t1, .int a9] [] rfl rfl rfl rfl (Tt.imp h (fun v6 sq h => ?_))
  obtain ⟨sa1, sk2, sf3, sc4, sz5⟩ := sq
  obtain ⟨rfl, h⟩ := h
  change Rn _ _ _ _ _ _ _ _ _ _ [] _ _
  refine n_fg 11 ?_
  exact k_11_68_39 hd hc r8 h
set_option maxRecDepth 20000 in
theorem k_11_8_39 {d d0 : Nat} (hd : d = d0 + 4) (hc : ∀ p ∈ s_w11, CTR (yex d) p.1 p.2) {R8 : Int32 → Int32 → Int32 → Int32 → Int32 → Int32 → Int32 → Int32 → Int32 → Int32 → Int32 → Int32 → Prop} {a1 : Int32} {a2 : Int32} {a3 : Int32} {a4 : Int32} {a5 : Int32} {a6 : Int32} {a7 : Int32} {sa : Int32} {sk : Int32} {sf : Int32} {sc : Int32} {sz : Int32} {Q : Option Value → sW → Prop} (r8 : ∀ a1 a2 a3 a4 a5 a6 a7 sa sk sf sc sz, R8 a1 a2 a3 a4 a5 a6 a7 sa sk sf sc sz → Rn d wgL (((84, 5), 39, [(84, 2, 39), (84, 3, 40), (84, 4, 43), (83, 1, 39), (83, 2, 40), (75, 0, 39), (75, 1, 57), (75, 2, 61)]) : wW) (((84, 5), 39, [(84, 2, 39), (84, 3, 40), (84, 4, 43), (83, 1, 39), (83, 2, 40), (75, 0, 39), (75, 1, 57), (75, 2, 61)]) : wW) xL_1 12 (none) xE_11 (xE_11.drop 8) [.ref 84, .int a1, .int a2, .int a3, .int a4, .int a5, .int a6, .int a7, .null, .null, .null, .null, .null, .null, .null, .null, .null, .null, .null] [] (sa, sk, sf, sc, sz) Q) (h : w_11_8 (fun k => Tt d wgL (wk_11 39 k) (wk_11 39 k)) 39 R8 a1 a2 a3 a4 a5 a6 a7 sa sk sf sc sz Q) : Rn d wgL (((84, 5), 39, [(84, 2, 39), (84, 3, 40), (84, 4, 43), (83, 1, 39), (83, 2, 40), (75, 0, 39), (75, 1, 57), (75, 2, 61)]) : wW) (((84, 5), 39, [(84, 2, 39), (84, 3, 40), (84, 4, 43), (83, 1, 39), (83, 2, 40), (75, 0, 39), (75, 1, 57), (75, 2, 61)]) : wW) xL_1 12 (none) xE_11 (xE_11.drop 8) [.ref 84, .int a1, .int a2, .int a3, .int a4, .int a5, .int a6, .int a7, .null, .null, .null, .null, .null, .null, .null, .null, .null, .null, .null] [] (sa, sk, sf, sc, sz) Q := by
  unfold w_11_8 at h
  refine n_ld rfl rfl rfl ?_
  refine n_ld rfl rfl rfl ?_
  refine n_brP rfl rfl ⟨fun hcn => ?_, fun hcn => ?_⟩
  · replace h := h.1 ((i_le (x := a2) (y := a7) rfl rfl).mp hcn)
    exact k_11_87_39 hd hc  h
  · replace h := h.2 (fun q => hcn ((i_le (x := a2) (y := a7) rfl rfl).mpr q))
    refine n_ld rfl rfl rfl ?_
    refine n_get (v := .ref 39) rfl (hv_C (a := 84) (n := 0) rfl rfl rfl) ?_
    refine n_get (v := .int sf) rfl (hv_f (a := 39) rfl rfl (fun _ _ hw => hw.1.2.2.1)) ?_
    refine n_brN rfl rfl ⟨fun hcn => ?_, fun hcn => ?_⟩
    · replace h := h.1 (fun q => hcn ((i_eq (x := sf) (y := 0) rfl (show (0 : Int32).toInt = 0 by decide)).mpr q))
      exact k_11_87_39 hd hc  h
    · replace h := h.2 ((i_eq (x := sf) (y := 0) rfl (show (0 : Int32).toInt = 0 by decide)).mp hcn)
      refine n_ld rfl rfl rfl ?_
      refine n_get (v := .ref 75) rfl (hv_R (a := 84) rfl rfl) ?_
      refine n_getI (a := 75) rfl rfl rfl (fun x1 hl hu => ?_)
      replace h := h x1
      refine n_st [.ref 84, .int a1, .int a2, .int a3, .int a4, .int a5, .int a6, .int a7, .int x1, .null, .null, .null, .null, .null, .null, .null, .null, .null, .null] rfl rfl rfl ?_
      refine n_ld rfl rfl rfl ?_
      refine n_get (v := .int sa) rfl (hv_f (a := 84) rfl rfl (fun _ _ hw => hw.1.1)) ?_
      refine n_st [.ref 84, .int a1, .int a2, .int a3, .int a4, .int a5, .int a6, .int a7, .int x1, .int sa, .null, .null, .null, .null, .null, .null, .null, .null, .null] rfl rfl rfl ?_
      refine n_ld rfl rfl rfl ?_
      refine n_ld rfl rfl rfl ?_
      refine n_c [.int 1, .int a6, .ref 84] (xo_push (.int 1)) rfl rfl ?_
      replace h := h _ (i_add (x := a6) (y := 1) rfl (show (1 : Int32).toInt = 1 by decide))
      refine n_c [.int (a6 + 1), .ref 84] xo_iadd rfl rfl ?_
      refine n_tt [.ref 84, .int (a6 + 1)] [] rfl rfl rfl rfl (Tt.imp h (fun v8 sq h => ?_))
      obtain ⟨sa3, sk4, sf5, sc6, sz7⟩ := sq
      obtain ⟨x9, rfl, h⟩ := h
      change Rn _ _ _ _ _ _ _ _ _ _ [.int x9] _ _
      refine n_st [.ref 84, .int a1, .int a2, .int a3, .int a4, .int a5, .int a6, .int a7, .int x1, .int sa, .int x9, .null, .null, .null, .null, .null, .null, .null, .null] rfl rfl rfl ?_
      refine n_ld rfl rfl rfl ?_
      refine n_get (v := .ref 39) rfl (hv_C (a := 84) (n := 0) rfl rfl rfl) ?_
      refine n_get (v := .int sf5) rfl (hv_f (a := 39) rfl rfl (fun _ _ hw => hw.1.2.2.1)) ?_
      refine n_brN rfl rfl ⟨fun hcn => ?_, fun hcn => ?_⟩
      · replace h := h.1 (fun q => hcn ((i_eq (x := sf5) (y := 0) rfl (show (0 : Int32).toInt = 0 by decide)).mpr q))
        exact k_11_68_39 hd hc r8 h
      · replace h := h.2 ((i_eq (x := sf5) (y := 0) rfl (show (0 : Int32).toInt = 0 by decide)).mp hcn)
        refine n_ld rfl rfl rfl ?_
        refine n_get (v := .ref 75) rfl (hv_R (a := 84) rfl rfl) ?_
        refine n_ld rfl rfl rfl ?_
        refine n_get (v := .ref 75) rfl (hv_R (a := 84) rfl rfl) ?_
        refine n_get (v := .ref 76) rfl (hv_R (a := 75) rfl rfl) ?_
        refine n_ld rfl rfl rfl ?_
        refine n_ld rfl rfl rfl ?_
        refine n_ld rfl rfl rfl ?_
        refine n_ctr [.ref 75, .ref 76, .int a3, .int a4, .int a5] [] rfl rfl rfl (hc (86, q_86) (List.mem_of_getElem? (i := 0) rfl)) ⟨⟨_, rfl, cmem_ok rfl⟩, ⟨_, rfl, cmem_ok rfl⟩, vK_int _, vK_int _, vK_int _, trivial⟩ rfl rfl (fun vq sq hv hk => ?_)
        obtain ⟨sa10, sk11, sf12, sc13, sz14⟩ := sq
        obtain ⟨k1, k2, k3, k4, k5, k6, k7⟩ := hk
        obtain rfl : sa3 = sa10 := (k1 (wmem_no rfl)).symm
        obtain rfl : sk4 = sk11 := (k2).symm
        obtain rfl : sf5 = sf12 := (k3 (wmem_no rfl)).symm
        obtain rfl : sc6 = sc13 := (k5 (wmem_no rfl)).symm
        obtain rfl : sz7 = sz14 := (k6 (wmem_no rfl)).symm
        cases (show vq = none from hv)
        change Rn _ _ _ _ _ _ _ _ _ _ [] _ _
        refine n_ld rfl rfl rfl ?_
        refine n_get (v := .ref 75) rfl (hv_R (a := 84) rfl rfl) ?_
        refine n_ld rfl rfl rfl ?_
        refine n_get (v := .ref 39) rfl (hv_C (a := 84) (n := 0) rfl rfl rfl) ?_
        refine n_ld rfl rfl rfl ?_
        refine n_ld rfl rfl rfl ?_
        replace h := h _ (i_add (x := a1) (y := a7) rfl rfl)
        refine n_c [.int (a1 + a7), .ref 39, .ref 75] xo_iadd rfl rfl ?_
        refine n_c [.int 3, .int (a1 + a7), .ref 39, .ref 75] (xo_push (.int 3)) rfl rfl ?_
        refine n_ctr [.ref 39, .int (a1 + a7), .int 3] [.ref 75] rfl rfl rfl (hc (42, q_42) (List.mem_of_getElem? (i := 1) rfl)) ⟨⟨_, rfl, cmem_ok rfl⟩, vK_int _, vK_int _, trivial⟩ rfl rfl (fun vq sq hv hk => ?_)
        obtain ⟨sa16, sk17, sf18, sc19, sz20⟩ := sq
        obtain ⟨k1, k2, k3, k4, k5, k6, k7⟩ := hk
        obtain rfl : sa3 = sa16 := (k1 (wmem_no rfl)).symm
        obtain rfl : sk4 = sk17 := (k2).symm
        obtain rfl : sf5 = sf18 := (k3 (wmem_no rfl)).symm
        obtain rfl : sc6 = sc19 := (k5 (wmem_no rfl)).symm
        obtain rfl : sz7 = sz20 := (k6 (wmem_no rfl)).symm
        obtain ⟨vr, rfl, x21, rfl, hl, hu⟩ := hv
        replace h := h x21 hl hu
        change Rn _ _ _ _ _ _ _ _ _ _ [.int x21, .ref 75] _ _
        refine n_ld rfl rfl rfl ?_
        refine n_get (v := .ref 75) rfl (hv_R (a := 84) rfl rfl) ?_
        refine n_get (v := .ref 76) rfl (hv_R (a := 75) rfl rfl) ?_
        refine n_ctr [.ref 75, .int x21, .ref 76] [] rfl rfl rfl (hc (87, q_87) (List.mem_of_getElem? (i := 2) rfl)) ⟨⟨_, rfl, cmem_ok rfl⟩, vK_int _, ⟨_, rfl, cmem_ok rfl⟩, trivial⟩ rfl rfl (fun vq sq hv hk => ?_)
        obtain ⟨sa22, sk23, sf24, sc25, sz26⟩ := sq
        obtain ⟨k1, k2, k3, k4, k5, k6, k7⟩ := hk
        obtain rfl : sa3 = sa22 := (k1 (wmem_no rfl)).symm
        obtain rfl : sk4 = sk23 := (k2).symm
        obtain rfl : sf5 = sf24 := (k3 (wmem_no rfl)).symm
        obtain rfl : sc6 = sc25 := (k5 (wmem_no rfl)).symm
        obtain rfl : sz7 = sz26 := (k6 (wmem_no rfl)).symm
        obtain ⟨vr, rfl, x27, rfl, hl, hu⟩ := hv
        replace h := h x27
        change Rn _ _ _ _ _ _ _ _ _ _ [.int x27] _ _
        refine n_st [.ref 84, .int a1, .int a2, .int a3, .int a4, .int a5, .int a6, .int a7, .int x1, .int sa, .int x9, .int x27, .null, .null, .null, .null, .null, .null, .null] rfl rfl rfl ?_
        refine n_ld rfl rfl rfl ?_
        refine n_get (v := .ref 39) rfl (hv_C (a := 84) (n := 0) rfl rfl rfl) ?_
        refine n_ld rfl rfl rfl ?_
        refine n_brP rfl rfl ⟨fun hcn => ?_, fun hcn => ?_⟩
        · replace h := h.1 ((i_le (x := 0) (y := x27) (show (0 : Int32).toInt = 0 by decide) rfl).mp hcn)
          refine n_ld rfl rfl rfl ?_
          refine n_get (v := .ref 75) rfl (hv_R (a := 84) rfl rfl) ?_
          refine n_ld rfl rfl rfl ?_
          refine n_ld rfl rfl rfl ?_
          refine n_ctr [.ref 75, .int x9, .int x27] [.ref 39] rfl rfl rfl (hc (88, q_88) (List.mem_of_getElem? (i := 3) rfl)) ⟨⟨_, rfl, cmem_ok rfl⟩, vK_int _, vK_int _, trivial⟩ rfl rfl (fun vq sq hv hk => ?_)
          obtain ⟨sa28, sk29, sf30, sc31, sz32⟩ := sq
          obtain ⟨k1, k2, k3, k4, k5, k6, k7⟩ := hk
          obtain rfl : sa3 = sa28 := (k1 (wmem_no rfl)).symm
          obtain rfl : sk4 = sk29 := (k2).symm
          obtain rfl : sf5 = sf30 := (k3 (wmem_no rfl)).symm
          obtain rfl : sc6 = sc31 := (k5 (wmem_no rfl)).symm
          obtain rfl : sz7 = sz32 := (k6 (wmem_no rfl)).symm
          obtain ⟨vr, rfl, x33, rfl, hl, hu⟩ := hv
          replace h := h x33 hl hu
          change Rn _ _ _ _ _ _ _ _ _ _ [.int x33, .ref 39] _ _
          exact k_11_66_39 hd hc r8 h
        · replace h := h.2 (fun q => hcn ((i_le (x := 0) (y := x27) (show (0 : Int32).toInt = 0 by decide) rfl).mpr q))
          refine n_c [.int 9, .ref 39] (xo_push (.int 9)) rfl rfl ?_
          refine n_go rfl ?_
          exact k_11_66_39 hd hc r8 h
theorem kl_11_8_39 {d d0 : Nat} (hd : d = d0 + 4) (hc : ∀ p ∈ s_w11, CTR (yex d) p.1 p.2)  {a1 : Int32} {a2 : Int32} {a3 : Int32} {a4 : Int32} {a5 : Int32} {a6 : Int32} {a7 : Int32} {sa : Int32} {sk : Int32} {sf : Int32} {sc : Int32} {sz : Int32} {Q : Option Value → sW → Prop}  (h : wl_11_8 (fun k => Tt d wgL (wk_11 39 k) (wk_11 39 k)) 39  a1 a2 a3 a4 a5 a6 a7 sa sk sf sc sz Q) : Rn d wgL (((84, 5), 39, [(84, 2, 39), (84, 3, 40), (84, 4, 43), (83, 1, 39), (83, 2, 40), (75, 0, 39), (75, 1, 57), (75, 2, 61)]) : wW) (((84, 5), 39, [(84, 2, 39), (84, 3, 40), (84, 4, 43), (83, 1, 39), (83, 2, 40), (75, 0, 39), (75, 1, 57), (75, 2, 61)]) : wW) xL_1 12 (none) xE_11 (xE_11.drop 8) [.ref 84, .int a1, .int a2, .int a3, .int a4, .int a5, .int a6, .int a7, .null, .null, .null, .null, .null, .null, .null, .null, .null, .null, .null] [] (sa, sk, sf, sc, sz) Q := by
  obtain ⟨I, μ, h0, h1⟩ := h
  have key : ∀ (n : Nat) (a1 : Int32) (a2 : Int32) (a3 : Int32) (a4 : Int32) (a5 : Int32) (a6 : Int32) (a7 : Int32) (sa : Int32) (sk : Int32) (sf : Int32) (sc : Int32) (sz : Int32), μ a1 a2 a3 a4 a5 a6 a7 sa sk sf sc sz = n → I a1 a2 a3 a4 a5 a6 a7 sa sk sf sc sz → Rn d wgL (((84, 5), 39, [(84, 2, 39), (84, 3, 40), (84, 4, 43), (83, 1, 39), (83, 2, 40), (75, 0, 39), (75, 1, 57), (75, 2, 61)]) : wW) (((84, 5), 39, [(84, 2, 39), (84, 3, 40), (84, 4, 43), (83, 1, 39), (83, 2, 40), (75, 0, 39), (75, 1, 57), (75, 2, 61)]) : wW) xL_1 12 (none) xE_11 (xE_11.drop 8) [.ref 84, .int a1, .int a2, .int a3, .int a4, .int a5, .int a6, .int a7, .null, .null, .null, .null, .null, .null, .null, .null, .null, .null, .null] [] (sa, sk, sf, sc, sz) Q := by
    intro n
    induction n using Nat.strongRecOn with
    | ind n ih =>
      intro a1 a2 a3 a4 a5 a6 a7 sa sk sf sc sz e hI
      exact k_11_8_39 hd hc (fun a1' a2' a3' a4' a5' a6' a7' sa' sk' sf' sc' sz' q => ih _ (by rw [← e]; exact q.2) a1' a2' a3' a4' a5' a6' a7' sa' sk' sf' sc' sz' rfl q.1) (h1 a1 a2 a3 a4 a5 a6 a7 sa sk sf sc sz hI)
  exact key _ a1 a2 a3 a4 a5 a6 a7 sa sk sf sc sz rfl h0
set_option maxRecDepth 20000 in
theorem k_11_0_39 {d d0 : Nat} (hd : d = d0 + 4) (hc : ∀ p ∈ s_w11, CTR (yex d) p.1 p.2)  {a1 : Int32} {a2 : Int32} {a3 : Int32} {a4 : Int32} {a5 : Int32} {a6 : Int32} {sa : Int32} {sk : Int32} {sf : Int32} {sc : Int32} {sz : Int32} {Q : Option Value → sW → Prop}  (h : w_11_0 (fun k => Tt d wgL (wk_11 39 k) (wk_11 39 k)) 39  a1 a2 a3 a4 a5 a6 sa sk sf sc sz Q) : Rn d wgL (((84, 5), 39, [(84, 2, 39), (84, 3, 40), (84, 4, 43), (83, 1, 39), (83, 2, 40), (75, 0, 39), (75, 1, 57), (75, 2, 61)]) : wW) (((84, 5), 39, [(84, 2, 39), (84, 3, 40), (84, 4, 43), (83, 1, 39), (83, 2, 40), (75, 0, 39), (75, 1, 57), (75, 2, 61)]) : wW) xL_1 12 (none) xE_11 (xE_11.drop 0) [.ref 84, .int a1, .int a2, .int a3, .int a4, .int a5, .int a6, .null, .null, .null, .null, .null, .null, .null, .null, .null, .null, .null, .null] [] (sa, sk, sf, sc, sz) Q := by
  unfold w_11_0 at h
  refine n_ld rfl rfl rfl ?_
  refine n_c [.ref 84, .ref 84] xo_dup rfl rfl ?_
  refine n_get (v := .int sa) rfl (hv_f (a := 84) rfl rfl (fun _ _ hw => hw.1.1)) ?_
  refine n_c [.int 1, .int sa, .ref 84] (xo_push (.int 1)) rfl rfl ?_
  replace h := h _ (i_add (x := sa) (y := 1) rfl (show (1 : Int32).toInt = 1 by decide))
  refine n_c [.int (sa + 1), .ref 84] xo_iadd rfl rfl ?_
  refine n_put (a := 84) (w1 := (((84, 5), 39, [(84, 2, 39), (84, 3, 40), (84, 4, 43), (83, 1, 39), (83, 2, 40), (75, 0, 39), (75, 1, 57), (75, 2, 61)]) : wW)) (s1 := ((sa + 1), sk, sf, sc, sz)) rfl rfl rfl rfl (vK_int _) rfl rfl rfl (Or.inr (Or.inl (by decide +kernel))) (ws_at (w := (((84, 5), 39, [(84, 2, 39), (84, 3, 40), (84, 4, 43), (83, 1, 39), (83, 2, 40), (75, 0, 39), (75, 1, 57), (75, 2, 61)]) : wW)) (s := (sa, sk, sf, sc, sz)) rfl) ?_
  refine n_c [.int 0] (xo_push (.int 0)) rfl rfl ?_
  refine n_st [.ref 84, .int a1, .int a2, .int a3, .int a4, .int a5, .int a6, .int 0, .null, .null, .null, .null, .null, .null, .null, .null, .null, .null, .null] rfl rfl rfl ?_
  exact kl_11_8_39 hd hc  h
theorem t_11_39 {d : Nat} (hc : ∀ p ∈ s_w11, CTR (yex (d + 4)) p.1 p.2) {a1 : Int32} {a2 : Int32} {a3 : Int32} {a4 : Int32} {a5 : Int32} {a6 : Int32} {sa : Int32} {sk : Int32} {sf : Int32} {sc : Int32} {sz : Int32} {Q : Option Value → sW → Prop} (h : w_11_0 (fun k => Tt (d + 4) wgL (wk_11 39 k) (wk_11 39 k)) 39 a1 a2 a3 a4 a5 a6 sa sk sf sc sz Q) : Tt (d + 5) wgL (((84, 5), 39, [(84, 2, 39), (84, 3, 40), (84, 4, 43), (83, 1, 39), (83, 2, 40), (75, 0, 39), (75, 1, 57), (75, 2, 61)]) : wW) (((84, 5), 39, [(84, 2, 39), (84, 3, 40), (84, 4, 43), (83, 1, 39), (83, 2, 40), (75, 0, 39), (75, 1, 57), (75, 2, 61)]) : wW) 11 [.ref 84, .int a1, .int a2, .int a3, .int a4, .int a5, .int a6] (sa, sk, sf, sc, sz) Q := tt_of (E := xE_11) (L := xL_1) (ml := 12) (ret := none) rfl rfl rfl (k_11_0_39 rfl hc h)
/-! FeatherBench$Bodies.method -/
def wk_14 (P : Nat) : Nat → wW
  | _ => (((84, 5), P, [(84, 2, P), (84, 3, (P + 1)), (84, 4, (P + 4)), (83, 1, P), (83, 2, (P + 1)), (75, 0, P), (75, 1, (P + 18)), (75, 2, (P + 22))]) : wW)
def s_w14 : List (Nat × cSg) := [(135, q_135), (15, q_15), (13, q_13), (90, q_90), (52, q_52), (41, q_41)]
def w_14_181 (T : Nat → Nat → List Value → sW → (Option Value → sW → Prop) → Prop) (P : Nat)  (a1 : Int32) (a2 : Int32) (a3 : Int32) (a4 : Int32) (a5 : Int32) (a6 : Int32) (a7 : Int32) (a8 : Int32) (a9 : Int32) (a10 : Int32) (a11 : Int32) (a12 : Int32) (t0 : Int32) (sa : Int32) (sk : Int32) (sf : Int32) (sc : Int32) (sz : Int32) (Q : Option Value → sW → Prop) : Prop :=
  Q (some (.int t0)) (sa, sk, sf, sc, sz)
def w_14_126 (T : Nat → Nat → List Value → sW → (Option Value → sW → Prop) → Prop) (P : Nat)  (a1 : Int32) (a2 : Int32) (a3 : Int32) (a4 : Int32) (a5 : Int32) (a6 : Int32) (a7 : Int32) (a8 : Int32) (a9 : Int32) (a10 : Int32) (a11 : Int32) (a12 : Int32) (t1 : Int32) (t2 : Int32) (sa : Int32) (sk : Int32) (sf : Int32) (sc : Int32) (sz : Int32) (Q : Option Value → sW → Prop) : Prop :=
  ∀ x1 : Int32, (-2147483648 ≤ t1.toInt + t2.toInt ∧ t1.toInt + t2.toInt ≤ 2147483647 → x1.toInt = t1.toInt + t2.toInt) → (0 ≤ a11.toInt ∧ a11.toInt ≤ 2147483647) ∧ (∀ sf4 : Int32, (sf4.toInt = 0 → sf.toInt = 0) → ∀ sf9 : Int32, (sf9.toInt = 0 → sf4.toInt = 0) → ∀ x12 : Int32, (-2147483648 ≤ a8.toInt + a6.toInt ∧ a8.toInt + a6.toInt ≤ 2147483647 → x12.toInt = a8.toInt + a6.toInt) → T 0 11 [.ref 84, .int x12, .int a7, .int a4, .int a11, .int a9, .int a2] (x1, sk, sf9, sc, sz) (fun v18 (sa13, sk14, sf15, sc16, sz17) => v18 = none ∧ (∀ x19 : Int32, (0 ≤ x19.toInt ∧ x19.toInt ≤ 5000) → T 0 59 [.ref P, .int 5, .int x19, .int a7, .int a11, .int a9, .int a10] (sa13, sk14, sf15, sc16, sz17) (fun v25 (sa20, sk21, sf22, sc23, sz24) => v25 = none ∧ ((¬ (sf22.toInt = 0) → w_14_181 T P  a1 a2 a3 a4 a5 a6 a7 a8 a9 a10 a11 a12 a1 sa20 sk21 sf22 sc23 sz24 Q) ∧ (sf22.toInt = 0 → ∀ x26 : Int32, (-2147483648 ≤ a8.toInt + a6.toInt ∧ a8.toInt + a6.toInt ≤ 2147483647 → x26.toInt = a8.toInt + a6.toInt) → ∀ x27 : Int32, (-2147483648 ≤ x26.toInt + a7.toInt ∧ x26.toInt + a7.toInt ≤ 2147483647 → x27.toInt = x26.toInt + a7.toInt) → ∀ sf30 : Int32, (sf30.toInt = 0 → sf22.toInt = 0) → ∀ x33 : Int32, w_14_181 T P  a1 a2 a3 a4 a5 a6 a7 a8 a9 a10 a11 a12 x33 sa20 sk21 sf30 sc23 sz24 Q))))))
def w_14_118 (T : Nat → Nat → List Value → sW → (Option Value → sW → Prop) → Prop) (P : Nat)  (a1 : Int32) (a2 : Int32) (a3 : Int32) (a4 : Int32) (a5 : Int32) (a6 : Int32) (a7 : Int32) (a8 : Int32) (a9 : Int32) (a10 : Int32) (a11 : Int32) (a12 : Int32) (sa : Int32) (sk : Int32) (sf : Int32) (sc : Int32) (sz : Int32) (Q : Option Value → sW → Prop) : Prop :=
  (a9.toInt ≤ 0 → w_14_126 T P  a1 a2 a3 a4 a5 a6 a7 a8 a9 a10 a11 a12 sa 0 sa sk sf sc sz Q) ∧ (¬ (a9.toInt ≤ 0) → w_14_126 T P  a1 a2 a3 a4 a5 a6 a7 a8 a9 a10 a11 a12 sa 1 sa sk sf sc sz Q)
def w_14_99 (T : Nat → Nat → List Value → sW → (Option Value → sW → Prop) → Prop) (P : Nat) (R99 : Int32 → Int32 → Int32 → Int32 → Int32 → Int32 → Int32 → Int32 → Int32 → Int32 → Int32 → Int32 → Int32 → Int32 → Int32 → Int32 → Int32 → Prop) (a1 : Int32) (a2 : Int32) (a3 : Int32) (a4 : Int32) (a5 : Int32) (a6 : Int32) (a7 : Int32) (a8 : Int32) (a9 : Int32) (a10 : Int32) (a11 : Int32) (a12 : Int32) (sa : Int32) (sk : Int32) (sf : Int32) (sc : Int32) (sz : Int32) (Q : Option Value → sW → Prop) : Prop :=
  (a9.toInt ≤ a12.toInt → w_14_118 T P  a1 a2 a3 a4 a5 a6 a7 a8 a9 a10 a11 a12 sa sk sf sc sz Q) ∧ (¬ (a9.toInt ≤ a12.toInt) → (¬ (sf.toInt = 0) → w_14_118 T P  a1 a2 a3 a4 a5 a6 a7 a8 a9 a10 a11 a12 sa sk sf sc sz Q) ∧ (sf.toInt = 0 → ∀ x1 : Int32, (-2147483648 ≤ sa.toInt + 1 ∧ sa.toInt + 1 ≤ 2147483647 → x1.toInt = sa.toInt + 1) → T 0 132 [.ref 83, .int x1, .int 1] (sa, sk, sf, sc, sz) (fun v7 (sa2, sk3, sf4, sc5, sz6) => ∃ x8, v7 = some (.int x8) ∧ (∀ x9 : Int32, (-2147483648 ≤ a12.toInt + 1 ∧ a12.toInt + 1 ≤ 2147483647 → x9.toInt = a12.toInt + 1) → R99 a1 a2 a3 a4 a5 a6 a7 a8 a9 a10 a11 x9 x8 sk3 sf4 sc5 sz6))))
def wl_14_99 (T : Nat → Nat → List Value → sW → (Option Value → sW → Prop) → Prop) (P : Nat)  (a1 : Int32) (a2 : Int32) (a3 : Int32) (a4 : Int32) (a5 : Int32) (a6 : Int32) (a7 : Int32) (a8 : Int32) (a9 : Int32) (a10 : Int32) (a11 : Int32) (a12 : Int32) (sa : Int32) (sk : Int32) (sf : Int32) (sc : Int32) (sz : Int32) (Q : Option Value → sW → Prop) : Prop :=
  ∃ (I : Int32 → Int32 → Int32 → Int32 → Int32 → Int32 → Int32 → Int32 → Int32 → Int32 → Int32 → Int32 → Int32 → Int32 → Int32 → Int32 → Int32 → Prop) (μ : Int32 → Int32 → Int32 → Int32 → Int32 → Int32 → Int32 → Int32 → Int32 → Int32 → Int32 → Int32 → Int32 → Int32 → Int32 → Int32 → Int32 → Nat), I a1 a2 a3 a4 a5 a6 a7 a8 a9 a10 a11 a12 sa sk sf sc sz ∧ ∀ (a1 : Int32) (a2 : Int32) (a3 : Int32) (a4 : Int32) (a5 : Int32) (a6 : Int32) (a7 : Int32) (a8 : Int32) (a9 : Int32) (a10 : Int32) (a11 : Int32) (a12 : Int32) (sa : Int32) (sk : Int32) (sf : Int32) (sc : Int32) (sz : Int32), I a1 a2 a3 a4 a5 a6 a7 a8 a9 a10 a11 a12 sa sk sf sc sz → w_14_99 T P (fun a1' a2' a3' a4' a5' a6' a7' a8' a9' a10' a11' a12' sa' sk' sf' sc' sz' => I a1' a2' a3' a4' a5' a6' a7' a8' a9' a10' a11' a12' sa' sk' sf' sc' sz' ∧ μ a1' a2' a3' a4' a5' a6' a7' a8' a9' a10' a11' a12' sa' sk' sf' sc' sz' < μ a1 a2 a3 a4 a5 a6 a7 a8 a9 a10 a11 a12 sa sk sf sc sz) a1 a2 a3 a4 a5 a6 a7 a8 a9 a10 a11 a12 sa sk sf sc sz Q
def w_14_81 (T : Nat → Nat → List Value → sW → (Option Value → sW → Prop) → Prop) (P : Nat)  (a1 : Int32) (a2 : Int32) (a3 : Int32) (a4 : Int32) (a5 : Int32) (a6 : Int32) (a7 : Int32) (a8 : Int32) (a9 : Int32) (sa : Int32) (sk : Int32) (sf : Int32) (sc : Int32) (sz : Int32) (Q : Option Value → sW → Prop) : Prop :=
  T 0 38 [.ref P, .int 4, .int a3] (sa, sk, sf, sc, sz) (fun v6 (sa1, sk2, sf3, sc4, sz5) => v6 = none ∧ (Q (some (.int a1)) (sa1, sk2, sf3, sc4, sz5)))
def w_14_70 (T : Nat → Nat → List Value → sW → (Option Value → sW → Prop) → Prop) (P : Nat)  (a1 : Int32) (a2 : Int32) (a3 : Int32) (a4 : Int32) (a5 : Int32) (a6 : Int32) (a7 : Int32) (a8 : Int32) (t0 : Int32) (sa : Int32) (sk : Int32) (sf : Int32) (sc : Int32) (sz : Int32) (Q : Option Value → sW → Prop) : Prop :=
  (¬ (t0.toInt = a6.toInt) → w_14_81 T P  a1 a2 a3 a4 a5 a6 a7 a8 t0 sa sk sf sc sz Q) ∧ (t0.toInt = a6.toInt → ∀ x1 : Int32, (0 ≤ x1.toInt ∧ x1.toInt ≤ 7) → (x1.toInt = a7.toInt → T 0 92 [.ref 75, .int a1] (sa, sk, sf, sc, sz) (fun v7 (sa2, sk3, sf4, sc5, sz6) => ∃ x8, v7 = some (.int x8) ∧ (wl_14_99 T P  a1 a2 a3 a4 a5 a6 a7 a8 t0 x8 sk3 0 sa2 sk3 sf4 sc5 sz6 Q))) ∧ (¬ (x1.toInt = a7.toInt) → w_14_81 T P  a1 a2 a3 a4 a5 a6 a7 a8 t0 sa sk sf sc sz Q))
def w_14_0 (T : Nat → Nat → List Value → sW → (Option Value → sW → Prop) → Prop) (P : Nat)  (a1 : Int32) (a2 : Int32) (sa : Int32) (sk : Int32) (sf : Int32) (sc : Int32) (sz : Int32) (Q : Option Value → sW → Prop) : Prop :=
  ∀ x1 : Int32, (-2147483648 ≤ sa.toInt + 1 ∧ sa.toInt + 1 ≤ 2147483647 → x1.toInt = sa.toInt + 1) → ∀ x7 : Int32, ∀ x8 : Int32, ∀ x9 : Int32, (0 ≤ x9.toInt ∧ x9.toInt ≤ 5000) → ∀ x15 : Int32, (0 ≤ x15.toInt → ∀ x21 : Int32, -1 ≤ x21.toInt → x21.toInt ≤ 5000 → ∀ x27 : Int32, -1 ≤ x27.toInt → x27.toInt ≤ 5000 → ∀ x33 : Int32, -1 ≤ x33.toInt → x33.toInt ≤ 5000 → ∀ x34 : Int32, (¬ x34.toInt = 0 → 0 ≤ x1.toInt ∧ x1.toInt < 4002) → (¬ (x34.toInt = 91) → w_14_70 T P  a1 a2 sa x7 x15 x21 x27 x33 0 x1 sk sf sc sz Q) ∧ (x34.toInt = 91 → ∀ x35 : Int32, (0 ≤ x35.toInt ∧ x35.toInt ≤ 7) → w_14_70 T P  a1 a2 sa x7 x15 x21 x27 x33 x35 x1 sk sf sc sz Q)) ∧ (¬ (0 ≤ x15.toInt) → T 0 38 [.ref P, .int 2, .int sa] (x1, sk, sf, sc, sz) (fun v41 (sa36, sk37, sf38, sc39, sz40) => v41 = none ∧ (Q (some (.int a1)) (sa36, sk37, sf38, sc39, sz40))))
set_option maxRecDepth 20000 in
theorem k_14_181_3 {d d0 : Nat} (hd : d = d0 + 4) (hc : ∀ p ∈ s_w14, CTR (yex d) p.1 p.2)  {a1 : Int32} {a2 : Int32} {a3 : Int32} {a4 : Int32} {a5 : Int32} {a6 : Int32} {a7 : Int32} {a8 : Int32} {a9 : Int32} {a10 : Int32} {a11 : Int32} {a12 : Int32} {t0 : Int32} {sa : Int32} {sk : Int32} {sf : Int32} {sc : Int32} {sz : Int32} {Q : Option Value → sW → Prop}  (h : w_14_181 (fun k => Tt d wgL (wk_14 3 k) (wk_14 3 k)) 3  a1 a2 a3 a4 a5 a6 a7 a8 a9 a10 a11 a12 t0 sa sk sf sc sz Q) : Rn d wgL (((84, 5), 3, [(84, 2, 3), (84, 3, 4), (84, 4, 7), (83, 1, 3), (83, 2, 4), (75, 0, 3), (75, 1, 21), (75, 2, 25)]) : wW) (((84, 5), 3, [(84, 2, 3), (84, 3, 4), (84, 4, 7), (83, 1, 3), (83, 2, 4), (75, 0, 3), (75, 1, 21), (75, 2, 25)]) : wW) xL_1 13 (some .int) xE_14 (xE_14.drop 181) [.ref 84, .int a1, .int a2, .int a3, .int a4, .int a5, .int a6, .int a7, .int a8, .int a9, .int a10, .int a11, .int a12, .null, .null, .null] [.int t0] (sa, sk, sf, sc, sz) Q := by
  unfold w_14_181 at h
  exact n_retI rfl h
set_option maxRecDepth 20000 in
theorem k_14_126_3 {d d0 : Nat} (hd : d = d0 + 4) (hc : ∀ p ∈ s_w14, CTR (yex d) p.1 p.2)  {a1 : Int32} {a2 : Int32} {a3 : Int32} {a4 : Int32} {a5 : Int32} {a6 : Int32} {a7 : Int32} {a8 : Int32} {a9 : Int32} {a10 : Int32} {a11 : Int32} {a12 : Int32} {t1 : Int32} {t2 : Int32} {sa : Int32} {sk : Int32} {sf : Int32} {sc : Int32} {sz : Int32} {Q : Option Value → sW → Prop}  (h : w_14_126 (fun k => Tt d wgL (wk_14 3 k) (wk_14 3 k)) 3  a1 a2 a3 a4 a5 a6 a7 a8 a9 a10 a11 a12 t1 t2 sa sk sf sc sz Q) : Rn d wgL (((84, 5), 3, [(84, 2, 3), (84, 3, 4), (84, 4, 7), (83, 1, 3), (83, 2, 4), (75, 0, 3), (75, 1, 21), (75, 2, 25)]) : wW) (((84, 5), 3, [(84, 2, 3), (84, 3, 4), (84, 4, 7), (83, 1, 3), (83, 2, 4), (75, 0, 3), (75, 1, 21), (75, 2, 25)]) : wW) xL_1 13 (some .int) xE_14 (xE_14.drop 126) [.ref 84, .int a1, .int a2, .int a3, .int a4, .int a5, .int a6, .int a7, .int a8, .int a9, .int a10, .int a11, .int a12, .null, .null, .null] [.int t2, .int t1, .ref 84] (sa, sk, sf, sc, sz) Q := by
  unfold w_14_126 at h
  replace h := h _ (i_add (x := t1) (y := t2) rfl rfl)
  refine n_c [.int (t1 + t2), .ref 84] xo_iadd rfl rfl ?_
  refine n_put (a := 84) (w1 := (((84, 5), 3, [(84, 2, 3), (84, 3, 4), (84, 4, 7), (83, 1, 3), (83, 2, 4), (75, 0, 3), (75, 1, 21), (75, 2, 25)]) : wW)) (s1 := ((t1 + t2), sk, sf, sc, sz)) rfl rfl rfl rfl (vK_int _) rfl rfl rfl (Or.inr (Or.inl (by decide +kernel))) (ws_at (w := (((84, 5), 3, [(84, 2, 3), (84, 3, 4), (84, 4, 7), (83, 1, 3), (83, 2, 4), (75, 0, 3), (75, 1, 21), (75, 2, 25)]) : wW)) (s := (sa, sk, sf, sc, sz)) rfl) ?_
  refine n_ld rfl rfl rfl ?_
  refine n_get (v := .ref 83) rfl (hv_R (a := 84) rfl rfl) ?_
  refine n_ld rfl rfl rfl ?_
  refine n_ld rfl rfl rfl ?_
  refine n_get (v := .ref 3) rfl (hv_C (a := 84) (n := 0) rfl rfl rfl) ?_
  refine n_get (v := .int sk) rfl (hv_f (a := 3) rfl rfl (fun _ _ hw => hw.1.2.1)) ?_
  refine n_ctr [.ref 83, .int a11, .int sk] [] rfl rfl rfl (hc (135, q_135) (List.mem_of_getElem? (i := 0) rfl)) ⟨⟨_, rfl, cmem_ok rfl⟩, ⟨_, rfl, h.1.1, h.1.2⟩, vK_int _, trivial⟩ rfl rfl (fun vq sq hv hk => ?_)
  replace h := h.2
  obtain ⟨sa2, sk3, sf4, sc5, sz6⟩ := sq
  obtain ⟨k1, k2, k3, k4, k5, k6, k7⟩ := hk
  obtain rfl : (t1 + t2) = sa2 := (k1 (wmem_no rfl)).symm
  obtain rfl : sk = sk3 := (k2).symm
  replace h := h sf4 (k4 (wmem_no rfl))
  obtain rfl : sc = sc5 := (k5 (wmem_no rfl)).symm
  obtain rfl : sz = sz6 := (k6 (wmem_no rfl)).symm
  cases (show vq = none from hv)
  change Rn _ _ _ _ _ _ _ _ _ _ [] _ _
  refine n_ld rfl rfl rfl ?_
  refine n_ld rfl rfl rfl ?_
  refine n_ld rfl rfl rfl ?_
  refine n_ld rfl rfl rfl ?_
  refine n_ld rfl rfl rfl ?_
  refine n_ctr [.ref 84, .int a8, .int a4, .int a11, .int a9] [] rfl rfl rfl (hc (15, q_15) (List.mem_of_getElem? (i := 1) rfl)) ⟨⟨_, rfl, cmem_ok rfl⟩, vK_int _, vK_int _, vK_int _, vK_int _, trivial⟩ rfl rfl (fun vq sq hv hk => ?_)
  obtain ⟨sa7, sk8, sf9, sc10, sz11⟩ := sq
  obtain ⟨k1, k2, k3, k4, k5, k6, k7⟩ := hk
  obtain rfl : (t1 + t2) = sa7 := (k1 (wmem_no rfl)).symm
  obtain rfl : sk = sk8 := (k2).symm
  replace h := h sf9 (k4 (wmem_no rfl))
  obtain rfl : sc = sc10 := (k5 (wmem_no rfl)).symm
  obtain rfl : sz = sz11 := (k6 (wmem_no rfl)).symm
  cases (show vq = none from hv)
  change Rn _ _ _ _ _ _ _ _ _ _ [] _ _
  refine n_ld rfl rfl rfl ?_
  refine n_ld rfl rfl rfl ?_
  refine n_ld rfl rfl rfl ?_
  replace h := h _ (i_add (x := a8) (y := a6) rfl rfl)
  refine n_c [.int (a8 + a6), .ref 84] xo_iadd rfl rfl ?_
  refine n_ld rfl rfl rfl ?_
  refine n_ld rfl rfl rfl ?_
  refine n_ld rfl rfl rfl ?_
  refine n_ld rfl rfl rfl ?_
  refine n_ld rfl rfl rfl ?_
  refine n_tt [.ref 84, .int (a8 + a6), .int a7, .int a4, .int a11, .int a9, .int a2] [] rfl rfl rfl rfl (Tt.imp h (fun v18 sq h => ?_))
  obtain ⟨sa13, sk14, sf15, sc16, sz17⟩ := sq
  obtain ⟨rfl, h⟩ := h
  change Rn _ _ _ _ _ _ _ _ _ _ [] _ _
  refine n_ld rfl rfl rfl ?_
  refine n_get (v := .ref 3) rfl (hv_C (a := 84) (n := 0) rfl rfl rfl) ?_
  refine n_c [.int 5, .ref 3] (xo_push (.int 5)) rfl rfl ?_
  refine n_ld rfl rfl rfl ?_
  refine n_get (v := .ref 4) rfl (hv_C (a := 84) (n := 1) rfl rfl rfl) ?_
  refine n_get (v := .ref 13) rfl (hv_R (a := 4) rfl rfl) ?_
  refine n_ld rfl rfl rfl ?_
  refine n_row a3 [.int 5, .ref 3] (a := 13) hd rfl rfl rfl rfl (fun x19 g1 g2 g3 => ?_)
  replace h := h x19 g1
  refine n_ld rfl rfl rfl ?_
  refine n_ld rfl rfl rfl ?_
  refine n_ld rfl rfl rfl ?_
  refine n_ld rfl rfl rfl ?_
  refine n_tt [.ref 3, .int 5, .int x19, .int a7, .int a11, .int a9, .int a10] [] rfl rfl rfl rfl (Tt.imp h (fun v25 sq h => ?_))
  obtain ⟨sa20, sk21, sf22, sc23, sz24⟩ := sq
  obtain ⟨rfl, h⟩ := h
  change Rn _ _ _ _ _ _ _ _ _ _ [] _ _
  refine n_ld rfl rfl rfl ?_
  refine n_get (v := .ref 3) rfl (hv_C (a := 84) (n := 0) rfl rfl rfl) ?_
  refine n_get (v := .int sf22) rfl (hv_f (a := 3) rfl rfl (fun _ _ hw => hw.1.2.2.1)) ?_
  refine n_brN rfl rfl ⟨fun hcn => ?_, fun hcn => ?_⟩
  · replace h := h.1 (fun q => hcn ((i_eq (x := sf22) (y := 0) rfl (show (0 : Int32).toInt = 0 by decide)).mpr q))
    refine n_ld rfl rfl rfl ?_
    exact k_14_181_3 hd hc  h
  · replace h := h.2 ((i_eq (x := sf22) (y := 0) rfl (show (0 : Int32).toInt = 0 by decide)).mp hcn)
    refine n_ld rfl rfl rfl ?_
    refine n_ld rfl rfl rfl ?_
    refine n_ld rfl rfl rfl ?_
    replace h := h _ (i_add (x := a8) (y := a6) rfl rfl)
    refine n_c [.int (a8 + a6), .ref 84] xo_iadd rfl rfl ?_
    refine n_ld rfl rfl rfl ?_
    replace h := h _ (i_add (x := (a8 + a6)) (y := a7) rfl rfl)
    refine n_c [.int ((a8 + a6) + a7), .ref 84] xo_iadd rfl rfl ?_
    refine n_ld rfl rfl rfl ?_
    refine n_ld rfl rfl rfl ?_
    refine n_ld rfl rfl rfl ?_
    refine n_ld rfl rfl rfl ?_
    refine n_ctr [.ref 84, .int ((a8 + a6) + a7), .int a4, .int a11, .int a9, .int a3] [] rfl rfl rfl (hc (13, q_13) (List.mem_of_getElem? (i := 2) rfl)) ⟨⟨_, rfl, cmem_ok rfl⟩, vK_int _, vK_int _, vK_int _, vK_int _, vK_int _, trivial⟩ rfl rfl (fun vq sq hv hk => ?_)
    obtain ⟨sa28, sk29, sf30, sc31, sz32⟩ := sq
    obtain ⟨k1, k2, k3, k4, k5, k6, k7⟩ := hk
    obtain rfl : sa20 = sa28 := (k1 (wmem_no rfl)).symm
    obtain rfl : sk21 = sk29 := (k2).symm
    replace h := h sf30 (k4 (wmem_no rfl))
    obtain rfl : sc23 = sc31 := (k5 (wmem_no rfl)).symm
    obtain rfl : sz24 = sz32 := (k6 (wmem_no rfl)).symm
    obtain ⟨vr, rfl, x33, rfl, hl, hu⟩ := hv
    replace h := h x33
    change Rn _ _ _ _ _ _ _ _ _ _ [.int x33] _ _
    refine n_go rfl ?_
    exact k_14_181_3 hd hc  h
set_option maxRecDepth 20000 in
theorem k_14_118_3 {d d0 : Nat} (hd : d = d0 + 4) (hc : ∀ p ∈ s_w14, CTR (yex d) p.1 p.2)  {a1 : Int32} {a2 : Int32} {a3 : Int32} {a4 : Int32} {a5 : Int32} {a6 : Int32} {a7 : Int32} {a8 : Int32} {a9 : Int32} {a10 : Int32} {a11 : Int32} {a12 : Int32} {sa : Int32} {sk : Int32} {sf : Int32} {sc : Int32} {sz : Int32} {Q : Option Value → sW → Prop}  (h : w_14_118 (fun k => Tt d wgL (wk_14 3 k) (wk_14 3 k)) 3  a1 a2 a3 a4 a5 a6 a7 a8 a9 a10 a11 a12 sa sk sf sc sz Q) : Rn d wgL (((84, 5), 3, [(84, 2, 3), (84, 3, 4), (84, 4, 7), (83, 1, 3), (83, 2, 4), (75, 0, 3), (75, 1, 21), (75, 2, 25)]) : wW) (((84, 5), 3, [(84, 2, 3), (84, 3, 4), (84, 4, 7), (83, 1, 3), (83, 2, 4), (75, 0, 3), (75, 1, 21), (75, 2, 25)]) : wW) xL_1 13 (some .int) xE_14 (xE_14.drop 118) [.ref 84, .int a1, .int a2, .int a3, .int a4, .int a5, .int a6, .int a7, .int a8, .int a9, .int a10, .int a11, .int a12, .null, .null, .null] [] (sa, sk, sf, sc, sz) Q := by
  unfold w_14_118 at h
  refine n_ld rfl rfl rfl ?_
  refine n_c [.ref 84, .ref 84] xo_dup rfl rfl ?_
  refine n_get (v := .int sa) rfl (hv_f (a := 84) rfl rfl (fun _ _ hw => hw.1.1)) ?_
  refine n_ld rfl rfl rfl ?_
  refine n_brP rfl rfl ⟨fun hcn => ?_, fun hcn => ?_⟩
  · replace h := h.1 ((i_le (x := a9) (y := 0) rfl (show (0 : Int32).toInt = 0 by decide)).mp hcn)
    refine n_c [.int 0, .int sa, .ref 84] (xo_push (.int 0)) rfl rfl ?_
    exact k_14_126_3 hd hc  h
  · replace h := h.2 (fun q => hcn ((i_le (x := a9) (y := 0) rfl (show (0 : Int32).toInt = 0 by decide)).mpr q))
    refine n_c [.int 1, .int sa, .ref 84] (xo_push (.int 1)) rfl rfl ?_
    refine n_go rfl ?_
    exact k_14_126_3 hd hc  h
set_option maxRecDepth 20000 in
theorem k_14_99_3 {d d0 : Nat} (hd : d = d0 + 4) (hc : ∀ p ∈ s_w14, CTR (yex d) p.1 p.2) {R99 : Int32 → Int32 → Int32 → Int32 → Int32 → Int32 → Int32 → Int32 → Int32 → Int32 → Int32 → Int32 → Int32 → Int32 → Int32 → Int32 → Int32 → Prop} {a1 : Int32} {a2 : Int32} {a3 : Int32} {a4 : Int32} {a5 : Int32} {a6 : Int32} {a7 : Int32} {a8 : Int32} {a9 : Int32} {a10 : Int32} {a11 : Int32} {a12 : Int32} {sa : Int32} {sk : Int32} {sf : Int32} {sc : Int32} {sz : Int32} {Q : Option Value → sW → Prop} (r99 : ∀ a1 a2 a3 a4 a5 a6 a7 a8 a9 a10 a11 a12 sa sk sf sc sz, R99 a1 a2 a3 a4 a5 a6 a7 a8 a9 a10 a11 a12 sa sk sf sc sz → Rn d wgL (((84, 5), 3, [(84, 2, 3), (84, 3, 4), (84, 4, 7), (83, 1, 3), (83, 2, 4), (75, 0, 3), (75, 1, 21), (75, 2, 25)]) : wW) (((84, 5), 3, [(84, 2, 3), (84, 3, 4), (84, 4, 7), (83, 1, 3), (83, 2, 4), (75, 0, 3), (75, 1, 21), (75, 2, 25)]) : wW) xL_1 13 (some .int) xE_14 (xE_14.drop 99) [.ref 84, .int a1, .int a2, .int a3, .int a4, .int a5, .int a6, .int a7, .int a8, .int a9, .int a10, .int a11, .int a12, .null, .null, .null] [] (sa, sk, sf, sc, sz) Q) (h : w_14_99 (fun k => Tt d wgL (wk_14 3 k) (wk_14 3 k)) 3 R99 a1 a2 a3 a4 a5 a6 a7 a8 a9 a10 a11 a12 sa sk sf sc sz Q) : Rn d wgL (((84, 5), 3, [(84, 2, 3), (84, 3, 4), (84, 4, 7), (83, 1, 3), (83, 2, 4), (75, 0, 3), (75, 1, 21), (75, 2, 25)]) : wW) (((84, 5), 3, [(84, 2, 3), (84, 3, 4), (84, 4, 7), (83, 1, 3), (83, 2, 4), (75, 0, 3), (75, 1, 21), (75, 2, 25)]) : wW) xL_1 13 (some .int) xE_14 (xE_14.drop 99) [.ref 84, .int a1, .int a2, .int a3, .int a4, .int a5, .int a6, .int a7, .int a8, .int a9, .int a10, .int a11, .int a12, .null, .null, .null] [] (sa, sk, sf, sc, sz) Q := by
  unfold w_14_99 at h
  refine n_ld rfl rfl rfl ?_
  refine n_ld rfl rfl rfl ?_
  refine n_brP rfl rfl ⟨fun hcn => ?_, fun hcn => ?_⟩
  · replace h := h.1 ((i_le (x := a9) (y := a12) rfl rfl).mp hcn)
    exact k_14_118_3 hd hc  h
  · replace h := h.2 (fun q => hcn ((i_le (x := a9) (y := a12) rfl rfl).mpr q))
    refine n_ld rfl rfl rfl ?_
    refine n_get (v := .ref 3) rfl (hv_C (a := 84) (n := 0) rfl rfl rfl) ?_
    refine n_get (v := .int sf) rfl (hv_f (a := 3) rfl rfl (fun _ _ hw => hw.1.2.2.1)) ?_
    refine n_brN rfl rfl ⟨fun hcn => ?_, fun hcn => ?_⟩
    · replace h := h.1 (fun q => hcn ((i_eq (x := sf) (y := 0) rfl (show (0 : Int32).toInt = 0 by decide)).mpr q))
      exact k_14_118_3 hd hc  h
    · replace h := h.2 ((i_eq (x := sf) (y := 0) rfl (show (0 : Int32).toInt = 0 by decide)).mp hcn)
      refine n_ld rfl rfl rfl ?_
      refine n_ld rfl rfl rfl ?_
      refine n_get (v := .ref 83) rfl (hv_R (a := 84) rfl rfl) ?_
      refine n_ld rfl rfl rfl ?_
      refine n_get (v := .int sa) rfl (hv_f (a := 84) rfl rfl (fun _ _ hw => hw.1.1)) ?_
      refine n_c [.int 1, .int sa, .ref 83, .ref 84] (xo_push (.int 1)) rfl rfl ?_
      replace h := h _ (i_add (x := sa) (y := 1) rfl (show (1 : Int32).toInt = 1 by decide))
      refine n_c [.int (sa + 1), .ref 83, .ref 84] xo_iadd rfl rfl ?_
      refine n_c [.int 1, .int (sa + 1), .ref 83, .ref 84] (xo_push (.int 1)) rfl rfl ?_
      refine n_tt [.ref 83, .int (sa + 1), .int 1] [.ref 84] rfl rfl rfl rfl (Tt.imp h (fun v7 sq h => ?_))
      obtain ⟨sa2, sk3, sf4, sc5, sz6⟩ := sq
      obtain ⟨x8, rfl, h⟩ := h
      change Rn _ _ _ _ _ _ _ _ _ _ [.int x8, .ref 84] _ _
      refine n_put (a := 84) (w1 := (((84, 5), 3, [(84, 2, 3), (84, 3, 4), (84, 4, 7), (83, 1, 3), (83, 2, 4), (75, 0, 3), (75, 1, 21), (75, 2, 25)]) : wW)) (s1 := (x8, sk3, sf4, sc5, sz6)) rfl rfl rfl rfl (vK_int _) rfl rfl rfl (Or.inr (Or.inl (by decide +kernel))) (ws_at (w := (((84, 5), 3, [(84, 2, 3), (84, 3, 4), (84, 4, 7), (83, 1, 3), (83, 2, 4), (75, 0, 3), (75, 1, 21), (75, 2, 25)]) : wW)) (s := (sa2, sk3, sf4, sc5, sz6)) rfl) ?_
      replace h := h _ (i_add (x := a12) (y := 1) rfl (show (1 : Int32).toInt = 1 by decide))
      refine n_inc [.ref 84, .int a1, .int a2, .int a3, .int a4, .int a5, .int a6, .int a7, .int a8, .int a9, .int a10, .int a11, .int (a12 + 1), .null, .null, .null] rfl rfl rfl rfl ?_
      refine n_go rfl ?_
      exact r99 a1 a2 a3 a4 a5 a6 a7 a8 a9 a10 a11 (a12 + 1) x8 sk3 sf4 sc5 sz6 h
theorem kl_14_99_3 {d d0 : Nat} (hd : d = d0 + 4) (hc : ∀ p ∈ s_w14, CTR (yex d) p.1 p.2)  {a1 : Int32} {a2 : Int32} {a3 : Int32} {a4 : Int32} {a5 : Int32} {a6 : Int32} {a7 : Int32} {a8 : Int32} {a9 : Int32} {a10 : Int32} {a11 : Int32} {a12 : Int32} {sa : Int32} {sk : Int32} {sf : Int32} {sc : Int32} {sz : Int32} {Q : Option Value → sW → Prop}  (h : wl_14_99 (fun k => Tt d wgL (wk_14 3 k) (wk_14 3 k)) 3  a1 a2 a3 a4 a5 a6 a7 a8 a9 a10 a11 a12 sa sk sf sc sz Q) : Rn d wgL (((84, 5), 3, [(84, 2, 3), (84, 3, 4), (84, 4, 7), (83, 1, 3), (83, 2, 4), (75, 0, 3), (75, 1, 21), (75, 2, 25)]) : wW) (((84, 5), 3, [(84, 2, 3), (84, 3, 4), (84, 4, 7), (83, 1, 3), (83, 2, 4), (75, 0, 3), (75, 1, 21), (75, 2, 25)]) : wW) xL_1 13 (some .int) xE_14 (xE_14.drop 99) [.ref 84, .int a1, .int a2, .int a3, .int a4, .int a5, .int a6, .int a7, .int a8, .int a9, .int a10, .int a11, .int a12, .null, .null, .null] [] (sa, sk, sf, sc, sz) Q := by
  obtain ⟨I, μ, h0, h1⟩ := h
  have key : ∀ (n : Nat) (a1 : Int32) (a2 : Int32) (a3 : Int32) (a4 : Int32) (a5 : Int32) (a6 : Int32) (a7 : Int32) (a8 : Int32) (a9 : Int32) (a10 : Int32) (a11 : Int32) (a12 : Int32) (sa : Int32) (sk : Int32) (sf : Int32) (sc : Int32) (sz : Int32), μ a1 a2 a3 a4 a5 a6 a7 a8 a9 a10 a11 a12 sa sk sf sc sz = n → I a1 a2 a3 a4 a5 a6 a7 a8 a9 a10 a11 a12 sa sk sf sc sz → Rn d wgL (((84, 5), 3, [(84, 2, 3), (84, 3, 4), (84, 4, 7), (83, 1, 3), (83, 2, 4), (75, 0, 3), (75, 1, 21), (75, 2, 25)]) : wW) (((84, 5), 3, [(84, 2, 3), (84, 3, 4), (84, 4, 7), (83, 1, 3), (83, 2, 4), (75, 0, 3), (75, 1, 21), (75, 2, 25)]) : wW) xL_1 13 (some .int) xE_14 (xE_14.drop 99) [.ref 84, .int a1, .int a2, .int a3, .int a4, .int a5, .int a6, .int a7, .int a8, .int a9, .int a10, .int a11, .int a12, .null, .null, .null] [] (sa, sk, sf, sc, sz) Q := by
    intro n
    induction n using Nat.strongRecOn with
    | ind n ih =>
      intro a1 a2 a3 a4 a5 a6 a7 a8 a9 a10 a11 a12 sa sk sf sc sz e hI
      exact k_14_99_3 hd hc (fun a1' a2' a3' a4' a5' a6' a7' a8' a9' a10' a11' a12' sa' sk' sf' sc' sz' q => ih _ (by rw [← e]; exact q.2) a1' a2' a3' a4' a5' a6' a7' a8' a9' a10' a11' a12' sa' sk' sf' sc' sz' rfl q.1) (h1 a1 a2 a3 a4 a5 a6 a7 a8 a9 a10 a11 a12 sa sk sf sc sz hI)
  exact key _ a1 a2 a3 a4 a5 a6 a7 a8 a9 a10 a11 a12 sa sk sf sc sz rfl h0
set_option maxRecDepth 20000 in
theorem k_14_81_3 {d d0 : Nat} (hd : d = d0 + 4) (hc : ∀ p ∈ s_w14, CTR (yex d) p.1 p.2)  {a1 : Int32} {a2 : Int32} {a3 : Int32} {a4 : Int32} {a5 : Int32} {a6 : Int32} {a7 : Int32} {a8 : Int32} {a9 : Int32} {sa : Int32} {sk : Int32} {sf : Int32} {sc : Int32} {sz : Int32} {Q : Option Value → sW → Prop}  (h : w_14_81 (fun k => Tt d wgL (wk_14 3 k) (wk_14 3 k)) 3  a1 a2 a3 a4 a5 a6 a7 a8 a9 sa sk sf sc sz Q) : Rn d wgL (((84, 5), 3, [(84, 2, 3), (84, 3, 4), (84, 4, 7), (83, 1, 3), (83, 2, 4), (75, 0, 3), (75, 1, 21), (75, 2, 25)]) : wW) (((84, 5), 3, [(84, 2, 3), (84, 3, 4), (84, 4, 7), (83, 1, 3), (83, 2, 4), (75, 0, 3), (75, 1, 21), (75, 2, 25)]) : wW) xL_1 13 (some .int) xE_14 (xE_14.drop 81) [.ref 84, .int a1, .int a2, .int a3, .int a4, .int a5, .int a6, .int a7, .int a8, .int a9, .null, .null, .null, .null, .null, .null] [] (sa, sk, sf, sc, sz) Q := by
  unfold w_14_81 at h
  refine n_ld rfl rfl rfl ?_
  refine n_get (v := .ref 3) rfl (hv_C (a := 84) (n := 0) rfl rfl rfl) ?_
  refine n_c [.int 4, .ref 3] (xo_push (.int 4)) rfl rfl ?_
  refine n_ld rfl rfl rfl ?_
  refine n_tt [.ref 3, .int 4, .int a3] [] rfl rfl rfl rfl (Tt.imp h (fun v6 sq h => ?_))
  obtain ⟨sa1, sk2, sf3, sc4, sz5⟩ := sq
  obtain ⟨rfl, h⟩ := h
  change Rn _ _ _ _ _ _ _ _ _ _ [] _ _
  refine n_ld rfl rfl rfl ?_
  exact n_retI rfl h
set_option maxRecDepth 20000 in
theorem k_14_70_3 {d d0 : Nat} (hd : d = d0 + 4) (hc : ∀ p ∈ s_w14, CTR (yex d) p.1 p.2)  {a1 : Int32} {a2 : Int32} {a3 : Int32} {a4 : Int32} {a5 : Int32} {a6 : Int32} {a7 : Int32} {a8 : Int32} {t0 : Int32} {sa : Int32} {sk : Int32} {sf : Int32} {sc : Int32} {sz : Int32} {Q : Option Value → sW → Prop}  (h : w_14_70 (fun k => Tt d wgL (wk_14 3 k) (wk_14 3 k)) 3  a1 a2 a3 a4 a5 a6 a7 a8 t0 sa sk sf sc sz Q) : Rn d wgL (((84, 5), 3, [(84, 2, 3), (84, 3, 4), (84, 4, 7), (83, 1, 3), (83, 2, 4), (75, 0, 3), (75, 1, 21), (75, 2, 25)]) : wW) (((84, 5), 3, [(84, 2, 3), (84, 3, 4), (84, 4, 7), (83, 1, 3), (83, 2, 4), (75, 0, 3), (75, 1, 21), (75, 2, 25)]) : wW) xL_1 13 (some .int) xE_14 (xE_14.drop 70) [.ref 84, .int a1, .int a2, .int a3, .int a4, .int a5, .int a6, .int a7, .int a8, .null, .null, .null, .null, .null, .null, .null] [.int t0] (sa, sk, sf, sc, sz) Q := by
  unfold w_14_70 at h
  refine n_st [.ref 84, .int a1, .int a2, .int a3, .int a4, .int a5, .int a6, .int a7, .int a8, .int t0, .null, .null, .null, .null, .null, .null] rfl rfl rfl ?_
  refine n_ld rfl rfl rfl ?_
  refine n_ld rfl rfl rfl ?_
  refine n_brN rfl rfl ⟨fun hcn => ?_, fun hcn => ?_⟩
  · replace h := h.1 (fun q => hcn ((i_eq (x := t0) (y := a6) rfl rfl).mpr q))
    exact k_14_81_3 hd hc  h
  · replace h := h.2 ((i_eq (x := t0) (y := a6) rfl rfl).mp hcn)
    refine n_ld rfl rfl rfl ?_
    refine n_get (v := .ref 4) rfl (hv_C (a := 84) (n := 1) rfl rfl rfl) ?_
    refine n_get (v := .ref 15) rfl (hv_R (a := 4) rfl rfl) ?_
    refine n_ld rfl rfl rfl ?_
    refine n_row a3 [] (a := 15) hd rfl rfl rfl rfl (fun x1 g1 g2 g3 => ?_)
    replace h := h x1 g1
    refine n_ld rfl rfl rfl ?_
    refine n_brP rfl rfl ⟨fun hcn => ?_, fun hcn => ?_⟩
    · replace h := h.1 ((i_eq (x := x1) (y := a7) rfl rfl).mp hcn)
      refine n_ld rfl rfl rfl ?_
      refine n_get (v := .ref 75) rfl (hv_R (a := 84) rfl rfl) ?_
      refine n_ld rfl rfl rfl ?_
      refine n_tt [.ref 75, .int a1] [] rfl rfl rfl rfl (Tt.imp h (fun v7 sq h => ?_))
      obtain ⟨sa2, sk3, sf4, sc5, sz6⟩ := sq
      obtain ⟨x8, rfl, h⟩ := h
      change Rn _ _ _ _ _ _ _ _ _ _ [.int x8] _ _
      refine n_st [.ref 84, .int a1, .int a2, .int a3, .int a4, .int a5, .int a6, .int a7, .int a8, .int t0, .int x8, .null, .null, .null, .null, .null] rfl rfl rfl ?_
      refine n_ld rfl rfl rfl ?_
      refine n_get (v := .ref 3) rfl (hv_C (a := 84) (n := 0) rfl rfl rfl) ?_
      refine n_get (v := .int sk3) rfl (hv_f (a := 3) rfl rfl (fun _ _ hw => hw.1.2.1)) ?_
      refine n_st [.ref 84, .int a1, .int a2, .int a3, .int a4, .int a5, .int a6, .int a7, .int a8, .int t0, .int x8, .int sk3, .null, .null, .null, .null] rfl rfl rfl ?_
      refine n_c [.int 0] (xo_push (.int 0)) rfl rfl ?_
      refine n_st [.ref 84, .int a1, .int a2, .int a3, .int a4, .int a5, .int a6, .int a7, .int a8, .int t0, .int x8, .int sk3, .int 0, .null, .null, .null] rfl rfl rfl ?_
      exact kl_14_99_3 hd hc  h
    · replace h := h.2 (fun q => hcn ((i_eq (x := x1) (y := a7) rfl rfl).mpr q))
      exact k_14_81_3 hd hc  h
set_option maxRecDepth 20000 in
theorem k_14_0_3 {d d0 : Nat} (hd : d = d0 + 4) (hc : ∀ p ∈ s_w14, CTR (yex d) p.1 p.2)  {a1 : Int32} {a2 : Int32} {sa : Int32} {sk : Int32} {sf : Int32} {sc : Int32} {sz : Int32} {Q : Option Value → sW → Prop}  (h : w_14_0 (fun k => Tt d wgL (wk_14 3 k) (wk_14 3 k)) 3  a1 a2 sa sk sf sc sz Q) : Rn d wgL (((84, 5), 3, [(84, 2, 3), (84, 3, 4), (84, 4, 7), (83, 1, 3), (83, 2, 4), (75, 0, 3), (75, 1, 21), (75, 2, 25)]) : wW) (((84, 5), 3, [(84, 2, 3), (84, 3, 4), (84, 4, 7), (83, 1, 3), (83, 2, 4), (75, 0, 3), (75, 1, 21), (75, 2, 25)]) : wW) xL_1 13 (some .int) xE_14 (xE_14.drop 0) [.ref 84, .int a1, .int a2, .null, .null, .null, .null, .null, .null, .null, .null, .null, .null, .null, .null, .null] [] (sa, sk, sf, sc, sz) Q := by
  unfold w_14_0 at h
  refine n_ld rfl rfl rfl ?_
  refine n_get (v := .int sa) rfl (hv_f (a := 84) rfl rfl (fun _ _ hw => hw.1.1)) ?_
  refine n_st [.ref 84, .int a1, .int a2, .int sa, .null, .null, .null, .null, .null, .null, .null, .null, .null, .null, .null, .null] rfl rfl rfl ?_
  refine n_ld rfl rfl rfl ?_
  refine n_c [.ref 84, .ref 84] xo_dup rfl rfl ?_
  refine n_get (v := .int sa) rfl (hv_f (a := 84) rfl rfl (fun _ _ hw => hw.1.1)) ?_
  refine n_c [.int 1, .int sa, .ref 84] (xo_push (.int 1)) rfl rfl ?_
  replace h := h _ (i_add (x := sa) (y := 1) rfl (show (1 : Int32).toInt = 1 by decide))
  refine n_c [.int (sa + 1), .ref 84] xo_iadd rfl rfl ?_
  refine n_put (a := 84) (w1 := (((84, 5), 3, [(84, 2, 3), (84, 3, 4), (84, 4, 7), (83, 1, 3), (83, 2, 4), (75, 0, 3), (75, 1, 21), (75, 2, 25)]) : wW)) (s1 := ((sa + 1), sk, sf, sc, sz)) rfl rfl rfl rfl (vK_int _) rfl rfl rfl (Or.inr (Or.inl (by decide +kernel))) (ws_at (w := (((84, 5), 3, [(84, 2, 3), (84, 3, 4), (84, 4, 7), (83, 1, 3), (83, 2, 4), (75, 0, 3), (75, 1, 21), (75, 2, 25)]) : wW)) (s := (sa, sk, sf, sc, sz)) rfl) ?_
  refine n_ld rfl rfl rfl ?_
  refine n_get (v := .ref 75) rfl (hv_R (a := 84) rfl rfl) ?_
  refine n_ld rfl rfl rfl ?_
  refine n_ctr [.ref 75, .int a1] [] rfl rfl rfl (hc (90, q_90) (List.mem_of_getElem? (i := 3) rfl)) ⟨⟨_, rfl, cmem_ok rfl⟩, vK_int _, trivial⟩ rfl rfl (fun vq sq hv hk => ?_)
  obtain ⟨sa2, sk3, sf4, sc5, sz6⟩ := sq
  obtain ⟨k1, k2, k3, k4, k5, k6, k7⟩ := hk
  obtain rfl : (sa + 1) = sa2 := (k1 (wmem_no rfl)).symm
  obtain rfl : sk = sk3 := (k2).symm
  obtain rfl : sf = sf4 := (k3 (wmem_no rfl)).symm
  obtain rfl : sc = sc5 := (k5 (wmem_no rfl)).symm
  obtain rfl : sz = sz6 := (k6 (wmem_no rfl)).symm
  obtain ⟨vr, rfl, x7, rfl, hl, hu⟩ := hv
  replace h := h x7
  change Rn _ _ _ _ _ _ _ _ _ _ [.int x7] _ _
  refine n_st [.ref 84, .int a1, .int a2, .int sa, .int x7, .null, .null, .null, .null, .null, .null, .null, .null, .null, .null, .null] rfl rfl rfl ?_
  refine n_ld rfl rfl rfl ?_
  refine n_get (v := .ref 3) rfl (hv_C (a := 84) (n := 0) rfl rfl rfl) ?_
  refine n_ld rfl rfl rfl ?_
  refine n_get (v := .ref 3) rfl (hv_C (a := 84) (n := 0) rfl rfl rfl) ?_
  refine n_get (v := .ref 21) rfl (hv_R (a := 3) rfl rfl) ?_
  refine n_ld rfl rfl rfl ?_
  refine n_row x7 [.ref 3] (a := 21) hd rfl rfl rfl rfl (fun x8 g1 g2 g3 => ?_)
  replace h := h x8 
  refine n_ld rfl rfl rfl ?_
  refine n_get (v := .ref 4) rfl (hv_C (a := 84) (n := 1) rfl rfl rfl) ?_
  refine n_get (v := .ref 13) rfl (hv_R (a := 4) rfl rfl) ?_
  refine n_ld rfl rfl rfl ?_
  refine n_row sa [.int x8, .ref 3] (a := 13) hd rfl rfl rfl rfl (fun x9 g1 g2 g3 => ?_)
  replace h := h x9 g1
  refine n_ctr [.ref 3, .int x8, .int x9] [] rfl rfl rfl (hc (52, q_52) (List.mem_of_getElem? (i := 4) rfl)) ⟨⟨_, rfl, cmem_ok rfl⟩, vK_int _, vK_int _, trivial⟩ rfl rfl (fun vq sq hv hk => ?_)
  obtain ⟨sa10, sk11, sf12, sc13, sz14⟩ := sq
  obtain ⟨k1, k2, k3, k4, k5, k6, k7⟩ := hk
  obtain rfl : (sa + 1) = sa10 := (k1 (wmem_no rfl)).symm
  obtain rfl : sk = sk11 := (k2).symm
  obtain rfl : sf = sf12 := (k3 (wmem_no rfl)).symm
  obtain rfl : sc = sc13 := (k5 (wmem_no rfl)).symm
  obtain rfl : sz = sz14 := (k6 (wmem_no rfl)).symm
  obtain ⟨vr, rfl, x15, rfl, hl, hu⟩ := hv
  replace h := h x15
  change Rn _ _ _ _ _ _ _ _ _ _ [.int x15] _ _
  refine n_st [.ref 84, .int a1, .int a2, .int sa, .int x7, .int x15, .null, .null, .null, .null, .null, .null, .null, .null, .null, .null] rfl rfl rfl ?_
  refine n_ld rfl rfl rfl ?_
  refine n_brP rfl rfl ⟨fun hcn => ?_, fun hcn => ?_⟩
  · replace h := h.1 ((i_le (x := 0) (y := x15) (show (0 : Int32).toInt = 0 by decide) rfl).mp hcn)
    refine n_ld rfl rfl rfl ?_
    refine n_get (v := .ref 3) rfl (hv_C (a := 84) (n := 0) rfl rfl rfl) ?_
    refine n_ld rfl rfl rfl ?_
    refine n_c [.int 3, .int x15, .ref 3] (xo_push (.int 3)) rfl rfl ?_
    refine n_ctr [.ref 3, .int x15, .int 3] [] rfl rfl rfl (hc (41, q_41) (List.mem_of_getElem? (i := 5) rfl)) ⟨⟨_, rfl, cmem_ok rfl⟩, vK_int _, vK_int _, trivial⟩ rfl rfl (fun vq sq hv hk => ?_)
    obtain ⟨sa16, sk17, sf18, sc19, sz20⟩ := sq
    obtain ⟨k1, k2, k3, k4, k5, k6, k7⟩ := hk
    obtain rfl : (sa + 1) = sa16 := (k1 (wmem_no rfl)).symm
    obtain rfl : sk = sk17 := (k2).symm
    obtain rfl : sf = sf18 := (k3 (wmem_no rfl)).symm
    obtain rfl : sc = sc19 := (k5 (wmem_no rfl)).symm
    obtain rfl : sz = sz20 := (k6 (wmem_no rfl)).symm
    obtain ⟨vr, rfl, x21, rfl, hl, hu⟩ := hv
    replace h := h x21 hl hu
    change Rn _ _ _ _ _ _ _ _ _ _ [.int x21] _ _
    refine n_st [.ref 84, .int a1, .int a2, .int sa, .int x7, .int x15, .int x21, .null, .null, .null, .null, .null, .null, .null, .null, .null] rfl rfl rfl ?_
    refine n_ld rfl rfl rfl ?_
    refine n_get (v := .ref 3) rfl (hv_C (a := 84) (n := 0) rfl rfl rfl) ?_
    refine n_ld rfl rfl rfl ?_
    refine n_c [.int 4, .int x15, .ref 3] (xo_push (.int 4)) rfl rfl ?_
    refine n_ctr [.ref 3, .int x15, .int 4] [] rfl rfl rfl (hc (41, q_41) (List.mem_of_getElem? (i := 5) rfl)) ⟨⟨_, rfl, cmem_ok rfl⟩, vK_int _, vK_int _, trivial⟩ rfl rfl (fun vq sq hv hk => ?_)
    obtain ⟨sa22, sk23, sf24, sc25, sz26⟩ := sq
    obtain ⟨k1, k2, k3, k4, k5, k6, k7⟩ := hk
    obtain rfl : (sa + 1) = sa22 := (k1 (wmem_no rfl)).symm
    obtain rfl : sk = sk23 := (k2).symm
    obtain rfl : sf = sf24 := (k3 (wmem_no rfl)).symm
    obtain rfl : sc = sc25 := (k5 (wmem_no rfl)).symm
    obtain rfl : sz = sz26 := (k6 (wmem_no rfl)).symm
    obtain ⟨vr, rfl, x27, rfl, hl, hu⟩ := hv
    replace h := h x27 hl hu
    change Rn _ _ _ _ _ _ _ _ _ _ [.int x27] _ _
    refine n_st [.ref 84, .int a1, .int a2, .int sa, .int x7, .int x15, .int x21, .int x27, .null, .null, .null, .null, .null, .null, .null, .null] rfl rfl rfl ?_
    refine n_ld rfl rfl rfl ?_
    refine n_get (v := .ref 3) rfl (hv_C (a := 84) (n := 0) rfl rfl rfl) ?_
    refine n_ld rfl rfl rfl ?_
    refine n_c [.int 2, .int x15, .ref 3] (xo_push (.int 2)) rfl rfl ?_
    refine n_ctr [.ref 3, .int x15, .int 2] [] rfl rfl rfl (hc (41, q_41) (List.mem_of_getElem? (i := 5) rfl)) ⟨⟨_, rfl, cmem_ok rfl⟩, vK_int _, vK_int _, trivial⟩ rfl rfl (fun vq sq hv hk => ?_)
    obtain ⟨sa28, sk29, sf30, sc31, sz32⟩ := sq
    obtain ⟨k1, k2, k3, k4, k5, k6, k7⟩ := hk
    obtain rfl : (sa + 1) = sa28 := (k1 (wmem_no rfl)).symm
    obtain rfl : sk = sk29 := (k2).symm
    obtain rfl : sf = sf30 := (k3 (wmem_no rfl)).symm
    obtain rfl : sc = sc31 := (k5 (wmem_no rfl)).symm
    obtain rfl : sz = sz32 := (k6 (wmem_no rfl)).symm
    obtain ⟨vr, rfl, x33, rfl, hl, hu⟩ := hv
    replace h := h x33 hl hu
    change Rn _ _ _ _ _ _ _ _ _ _ [.int x33] _ _
    refine n_st [.ref 84, .int a1, .int a2, .int sa, .int x7, .int x15, .int x21, .int x27, .int x33, .null, .null, .null, .null, .null, .null, .null] rfl rfl rfl ?_
    refine n_ld rfl rfl rfl ?_
    refine n_get (v := .ref 7) rfl (hv_C (a := 84) (n := 2) rfl rfl rfl) ?_
    refine n_ld rfl rfl rfl ?_
    refine n_get (v := .int (sa + 1)) rfl (hv_f (a := 84) rfl rfl (fun _ _ hw => hw.1.1)) ?_
    refine n_row (sa + 1) [] (a := 7) hd rfl rfl rfl rfl (fun x34 g1 g2 g3 => ?_)
    replace h := h x34 g2
    refine n_c [.int 91, .int x34] (xo_push (.int 91)) rfl rfl ?_
    refine n_brN rfl rfl ⟨fun hcn => ?_, fun hcn => ?_⟩
    · replace h := h.1 (fun q => hcn ((i_eq (x := x34) (y := 91) rfl (show (91 : Int32).toInt = 91 by decide)).mpr q))
      refine n_c [.int 0] (xo_push (.int 0)) rfl rfl ?_
      exact k_14_70_3 hd hc  h
    · replace h := h.2 ((i_eq (x := x34) (y := 91) rfl (show (91 : Int32).toInt = 91 by decide)).mp hcn)
      refine n_ld rfl rfl rfl ?_
      refine n_get (v := .ref 4) rfl (hv_C (a := 84) (n := 1) rfl rfl rfl) ?_
      refine n_get (v := .ref 15) rfl (hv_R (a := 4) rfl rfl) ?_
      refine n_ld rfl rfl rfl ?_
      refine n_get (v := .int (sa + 1)) rfl (hv_f (a := 84) rfl rfl (fun _ _ hw => hw.1.1)) ?_
      refine n_row (sa + 1) [] (a := 15) hd rfl rfl rfl rfl (fun x35 g1 g2 g3 => ?_)
      replace h := h x35 g1
      refine n_go rfl ?_
      exact k_14_70_3 hd hc  h
  · replace h := h.2 (fun q => hcn ((i_le (x := 0) (y := x15) (show (0 : Int32).toInt = 0 by decide) rfl).mpr q))
    refine n_ld rfl rfl rfl ?_
    refine n_get (v := .ref 3) rfl (hv_C (a := 84) (n := 0) rfl rfl rfl) ?_
    refine n_c [.int 2, .ref 3] (xo_push (.int 2)) rfl rfl ?_
    refine n_ld rfl rfl rfl ?_
    refine n_tt [.ref 3, .int 2, .int sa] [] rfl rfl rfl rfl (Tt.imp h (fun v41 sq h => ?_))
    obtain ⟨sa36, sk37, sf38, sc39, sz40⟩ := sq
    obtain ⟨rfl, h⟩ := h
    change Rn _ _ _ _ _ _ _ _ _ _ [] _ _
    refine n_ld rfl rfl rfl ?_
    exact n_retI rfl h
theorem t_14_3 {d : Nat} (hc : ∀ p ∈ s_w14, CTR (yex (d + 4)) p.1 p.2) {a1 : Int32} {a2 : Int32} {sa : Int32} {sk : Int32} {sf : Int32} {sc : Int32} {sz : Int32} {Q : Option Value → sW → Prop} (h : w_14_0 (fun k => Tt (d + 4) wgL (wk_14 3 k) (wk_14 3 k)) 3 a1 a2 sa sk sf sc sz Q) : Tt (d + 5) wgL (((84, 5), 3, [(84, 2, 3), (84, 3, 4), (84, 4, 7), (83, 1, 3), (83, 2, 4), (75, 0, 3), (75, 1, 21), (75, 2, 25)]) : wW) (((84, 5), 3, [(84, 2, 3), (84, 3, 4), (84, 4, 7), (83, 1, 3), (83, 2, 4), (75, 0, 3), (75, 1, 21), (75, 2, 25)]) : wW) 14 [.ref 84, .int a1, .int a2] (sa, sk, sf, sc, sz) Q := tt_of (E := xE_14) (L := xL_1) (ml := 13) (ret := some .int) rfl rfl rfl (k_14_0_3 rfl hc h)
set_option maxRecDepth 20000 in
theorem k_14_181_39 {d d0 : Nat} (hd : d = d0 + 4) (hc : ∀ p ∈ s_w14, CTR (yex d) p.1 p.2)  {a1 : Int32} {a2 : Int32} {a3 : Int32} {a4 : Int32} {a5 : Int32} {a6 : Int32} {a7 : Int32} {a8 : Int32} {a9 : Int32} {a10 : Int32} {a11 : Int32} {a12 : Int32} {t0 : Int32} {sa : Int32} {sk : Int32} {sf : Int32} {sc : Int32} {sz : Int32} {Q : Option Value → sW → Prop}  (h : w_14_181 (fun k => Tt d wgL (wk_14 39 k) (wk_14 39 k)) 39  a1 a2 a3 a4 a5 a6 a7 a8 a9 a10 a11 a12 t0 sa sk sf sc sz Q) : Rn d wgL (((84, 5), 39, [(84, 2, 39), (84, 3, 40), (84, 4, 43), (83, 1, 39), (83, 2, 40), (75, 0, 39), (75, 1, 57), (75, 2, 61)]) : wW) (((84, 5), 39, [(84, 2, 39), (84, 3, 40), (84, 4, 43), (83, 1, 39), (83, 2, 40), (75, 0, 39), (75, 1, 57), (75, 2, 61)]) : wW) xL_1 13 (some .int) xE_14 (xE_14.drop 181) [.ref 84, .int a1, .int a2, .int a3, .int a4, .int a5, .int a6, .int a7, .int a8, .int a9, .int a10, .int a11, .int a12, .null, .null, .null] [.int t0] (sa, sk, sf, sc, sz) Q := by
  unfold w_14_181 at h
  exact n_retI rfl h
set_option maxRecDepth 20000 in
theorem k_14_126_39 {d d0 : Nat} (hd : d = d0 + 4) (hc : ∀ p ∈ s_w14, CTR (yex d) p.1 p.2)  {a1 : Int32} {a2 : Int32} {a3 : Int32} {a4 : Int32} {a5 : Int32} {a6 : Int32} {a7 : Int32} {a8 : Int32} {a9 : Int32} {a10 : Int32} {a11 : Int32} {a12 : Int32} {t1 : Int32} {t2 : Int32} {sa : Int32} {sk : Int32} {sf : Int32} {sc : Int32} {sz : Int32} {Q : Option Value → sW → Prop}  (h : w_14_126 (fun k => Tt d wgL (wk_14 39 k) (wk_14 39 k)) 39  a1 a2 a3 a4 a5 a6 a7 a8 a9 a10 a11 a12 t1 t2 sa sk sf sc sz Q) : Rn d wgL (((84, 5), 39, [(84, 2, 39), (84, 3, 40), (84, 4, 43), (83, 1, 39), (83, 2, 40), (75, 0, 39), (75, 1, 57), (75, 2, 61)]) : wW) (((84, 5), 39, [(84, 2, 39), (84, 3, 40), (84, 4, 43), (83, 1, 39), (83, 2, 40), (75, 0, 39), (75, 1, 57), (75, 2, 61)]) : wW) xL_1 13 (some .int) xE_14 (xE_14.drop 126) [.ref 84, .int a1, .int a2, .int a3, .int a4, .int a5, .int a6, .int a7, .int a8, .int a9, .int a10, .int a11, .int a12, .null, .null, .null] [.int t2, .int t1, .ref 84] (sa, sk, sf, sc, sz) Q := by
  unfold w_14_126 at h
  replace h := h _ (i_add (x := t1) (y := t2) rfl rfl)
  refine n_c [.int (t1 + t2), .ref 84] xo_iadd rfl rfl ?_
  refine n_put (a := 84) (w1 := (((84, 5), 39, [(84, 2, 39), (84, 3, 40), (84, 4, 43), (83, 1, 39), (83, 2, 40), (75, 0, 39), (75, 1, 57), (75, 2, 61)]) : wW)) (s1 := ((t1 + t2), sk, sf, sc, sz)) rfl rfl rfl rfl (vK_int _) rfl rfl rfl (Or.inr (Or.inl (by decide +kernel))) (ws_at (w := (((84, 5), 39, [(84, 2, 39), (84, 3, 40), (84, 4, 43), (83, 1, 39), (83, 2, 40), (75, 0, 39), (75, 1, 57), (75, 2, 61)]) : wW)) (s := (sa, sk, sf, sc, sz)) rfl) ?_
  refine n_ld rfl rfl rfl ?_
  refine n_get (v := .ref 83) rfl (hv_R (a := 84) rfl rfl) ?_
  refine n_ld rfl rfl rfl ?_
  refine n_ld rfl rfl rfl ?_
  refine n_get (v := .ref 39) rfl (hv_C (a := 84) (n := 0) rfl rfl rfl) ?_
  refine n_get (v := .int sk) rfl (hv_f (a := 39) rfl rfl (fun _ _ hw => hw.1.2.1)) ?_
  refine n_ctr [.ref 83, .int a11, .int sk] [] rfl rfl rfl (hc (135, q_135) (List.mem_of_getElem? (i := 0) rfl)) ⟨⟨_, rfl, cmem_ok rfl⟩, ⟨_, rfl, h.1.1, h.1.2⟩, vK_int _, trivial⟩ rfl rfl (fun vq sq hv hk => ?_)
  replace h := h.2
  obtain ⟨sa2, sk3, sf4, sc5, sz6⟩ := sq
  obtain ⟨k1, k2, k3, k4, k5, k6, k7⟩ := hk
  obtain rfl : (t1 + t2) = sa2 := (k1 (wmem_no rfl)).symm
  obtain rfl : sk = sk3 := (k2).symm
  replace h := h sf4 (k4 (wmem_no rfl))
  obtain rfl : sc = sc5 := (k5 (wmem_no rfl)).symm
  obtain rfl : sz = sz6 := (k6 (wmem_no rfl)).symm
  cases (show vq = none from hv)
  change Rn _ _ _ _ _ _ _ _ _ _ [] _ _
  refine n_ld rfl rfl rfl ?_
  refine n_ld rfl rfl rfl ?_
  refine n_ld rfl rfl rfl ?_
  refine n_ld rfl rfl rfl ?_
  refine n_ld rfl rfl rfl ?_
  refine n_ctr [.ref 84, .int a8, .int a4, .int a11, .int a9] [] rfl rfl rfl (hc (15, q_15) (List.mem_of_getElem? (i := 1) rfl)) ⟨⟨_, rfl, cmem_ok rfl⟩, vK_int _, vK_int _, vK_int _, vK_int _, trivial⟩ rfl rfl (fun vq sq hv hk => ?_)
  obtain ⟨sa7, sk8, sf9, sc10, sz11⟩ := sq
  obtain ⟨k1, k2, k3, k4, k5, k6, k7⟩ := hk
  obtain rfl : (t1 + t2) = sa7 := (k1 (wmem_no rfl)).symm
  obtain rfl : sk = sk8 := (k2).symm
  replace h := h sf9 (k4 (wmem_no rfl))
  obtain rfl : sc = sc10 := (k5 (wmem_no rfl)).symm
  obtain rfl : sz = sz11 := (k6 (wmem_no rfl)).symm
  cases (show vq = none from hv)
  change Rn _ _ _ _ _ _ _ _ _ _ [] _ _
  refine n_ld rfl rfl rfl ?_
  refine n_ld rfl rfl rfl ?_
  refine n_ld rfl rfl rfl ?_
  replace h := h _ (i_add (x := a8) (y := a6) rfl rfl)
  refine n_c [.int (a8 + a6), .ref 84] xo_iadd rfl rfl ?_
  refine n_ld rfl rfl rfl ?_
  refine n_ld rfl rfl rfl ?_
  refine n_ld rfl rfl rfl ?_
  refine n_ld rfl rfl rfl ?_
  refine n_ld rfl rfl rfl ?_
  refine n_tt [.ref 84, .int (a8 + a6), .int a7, .int a4, .int a11, .int a9, .int a2] [] rfl rfl rfl rfl (Tt.imp h (fun v18 sq h => ?_))
  obtain ⟨sa13, sk14, sf15, sc16, sz17⟩ := sq
  obtain ⟨rfl, h⟩ := h
  change Rn _ _ _ _ _ _ _ _ _ _ [] _ _
  refine n_ld rfl rfl rfl ?_
  refine n_get (v := .ref 39) rfl (hv_C (a := 84) (n := 0) rfl rfl rfl) ?_
  refine n_c [.int 5, .ref 39] (xo_push (.int 5)) rfl rfl ?_
  refine n_ld rfl rfl rfl ?_
  refine n_get (v := .ref 40) rfl (hv_C (a := 84) (n := 1) rfl rfl rfl) ?_
  refine n_get (v := .ref 49) rfl (hv_R (a := 40) rfl rfl) ?_
  refine n_ld rfl rfl rfl ?_
  refine n_row a3 [.int 5, .ref 39] (a := 49) hd rfl rfl rfl rfl (fun x19 g1 g2 g3 => ?_)
  replace h := h x19 g1
  refine n_ld rfl rfl rfl ?_
  refine n_ld rfl rfl rfl ?_
  refine n_ld rfl rfl rfl ?_
  refine n_ld rfl rfl rfl ?_
  refine n_tt [.ref 39, .int 5, .int x19, .int a7, .int a11, .int a9, .int a10] [] rfl rfl rfl rfl (Tt.imp h (fun v25 sq h => ?_))
  obtain ⟨sa20, sk21, sf22, sc23, sz24⟩ := sq
  obtain ⟨rfl, h⟩ := h
  change Rn _ _ _ _ _ _ _ _ _ _ [] _ _
  refine n_ld rfl rfl rfl ?_
  refine n_get (v := .ref 39) rfl (hv_C (a := 84) (n := 0) rfl rfl rfl) ?_
  refine n_get (v := .int sf22) rfl (hv_f (a := 39) rfl rfl (fun _ _ hw => hw.1.2.2.1)) ?_
  refine n_brN rfl rfl ⟨fun hcn => ?_, fun hcn => ?_⟩
  · replace h := h.1 (fun q => hcn ((i_eq (x := sf22) (y := 0) rfl (show (0 : Int32).toInt = 0 by decide)).mpr q))
    refine n_ld rfl rfl rfl ?_
    exact k_14_181_39 hd hc  h
  · replace h := h.2 ((i_eq (x := sf22) (y := 0) rfl (show (0 : Int32).toInt = 0 by decide)).mp hcn)
    refine n_ld rfl rfl rfl ?_
    refine n_ld rfl rfl rfl ?_
    refine n_ld rfl rfl rfl ?_
    replace h := h _ (i_add (x := a8) (y := a6) rfl rfl)
    refine n_c [.int (a8 + a6), .ref 84] xo_iadd rfl rfl ?_
    refine n_ld rfl rfl rfl ?_
    replace h := h _ (i_add (x := (a8 + a6)) (y := a7) rfl rfl)
    refine n_c [.int ((a8 + a6) + a7), .ref 84] xo_iadd rfl rfl ?_
    refine n_ld rfl rfl rfl ?_
    refine n_ld rfl rfl rfl ?_
    refine n_ld rfl rfl rfl ?_
    refine n_ld rfl rfl rfl ?_
    refine n_ctr [.ref 84, .int ((a8 + a6) + a7), .int a4, .int a11, .int a9, .int a3] [] rfl rfl rfl (hc (13, q_13) (List.mem_of_getElem? (i := 2) rfl)) ⟨⟨_, rfl, cmem_ok rfl⟩, vK_int _, vK_int _, vK_int _, vK_int _, vK_int _, trivial⟩ rfl rfl (fun vq sq hv hk => ?_)
    obtain ⟨sa28, sk29, sf30, sc31, sz32⟩ := sq
    obtain ⟨k1, k2, k3, k4, k5, k6, k7⟩ := hk
    obtain rfl : sa20 = sa28 := (k1 (wmem_no rfl)).symm
    obtain rfl : sk21 = sk29 := (k2).symm
    replace h := h sf30 (k4 (wmem_no rfl))
    obtain rfl : sc23 = sc31 := (k5 (wmem_no rfl)).symm
    obtain rfl : sz24 = sz32 := (k6 (wmem_no rfl)).symm
    obtain ⟨vr, rfl, x33, rfl, hl, hu⟩ := hv
    replace h := h x33
    change Rn _ _ _ _ _ _ _ _ _ _ [.int x33] _ _
    refine n_go rfl ?_
    exact k_14_181_39 hd hc  h
set_option maxRecDepth 20000 in
theorem k_14_118_39 {d d0 : Nat} (hd : d = d0 + 4) (hc : ∀ p ∈ s_w14, CTR (yex d) p.1 p.2)  {a1 : Int32} {a2 : Int32} {a3 : Int32} {a4 : Int32} {a5 : Int32} {a6 : Int32} {a7 : Int32} {a8 : Int32} {a9 : Int32} {a10 : Int32} {a11 : Int32} {a12 : Int32} {sa : Int32} {sk : Int32} {sf : Int32} {sc : Int32} {sz : Int32} {Q : Option Value → sW → Prop}  (h : w_14_118 (fun k => Tt d wgL (wk_14 39 k) (wk_14 39 k)) 39  a1 a2 a3 a4 a5 a6 a7 a8 a9 a10 a11 a12 sa sk sf sc sz Q) : Rn d wgL (((84, 5), 39, [(84, 2, 39), (84, 3, 40), (84, 4, 43), (83, 1, 39), (83, 2, 40), (75, 0, 39), (75, 1, 57), (75, 2, 61)]) : wW) (((84, 5), 39, [(84, 2, 39), (84, 3, 40), (84, 4, 43), (83, 1, 39), (83, 2, 40), (75, 0, 39), (75, 1, 57), (75, 2, 61)]) : wW) xL_1 13 (some .int) xE_14 (xE_14.drop 118) [.ref 84, .int a1, .int a2, .int a3, .int a4, .int a5, .int a6, .int a7, .int a8, .int a9, .int a10, .int a11, .int a12, .null, .null, .null] [] (sa, sk, sf, sc, sz) Q := by
  unfold w_14_118 at h
  refine n_ld rfl rfl rfl ?_
  refine n_c [.ref 84, .ref 84] xo_dup rfl rfl ?_
  refine n_get (v := .int sa) rfl (hv_f (a := 84) rfl rfl (fun _ _ hw => hw.1.1)) ?_
  refine n_ld rfl rfl rfl ?_
  refine n_brP rfl rfl ⟨fun hcn => ?_, fun hcn => ?_⟩
  · replace h := h.1 ((i_le (x := a9) (y := 0) rfl (show (0 : Int32).toInt = 0 by decide)).mp hcn)
    refine n_c [.int 0, .int sa, .ref 84] (xo_push (.int 0)) rfl rfl ?_
    exact k_14_126_39 hd hc  h
  · replace h := h.2 (fun q => hcn ((i_le (x := a9) (y := 0) rfl (show (0 : Int32).toInt = 0 by decide)).mpr q))
    refine n_c [.int 1, .int sa, .ref 84] (xo_push (.int 1)) rfl rfl ?_
    refine n_go rfl ?_
    exact k_14_126_39 hd hc  h
set_option maxRecDepth 20000 in
theorem k_14_99_39 {d d0 : Nat} (hd : d = d0 + 4) (hc : ∀ p ∈ s_w14, CTR (yex d) p.1 p.2) {R99 : Int32 → Int32 → Int32 → Int32 → Int32 → Int32 → Int32 → Int32 → Int32 → Int32 → Int32 → Int32 → Int32 → Int32 → Int32 → Int32 → Int32 → Prop} {a1 : Int32} {a2 : Int32} {a3 : Int32} {a4 : Int32} {a5 : Int32} {a6 : Int32} {a7 : Int32} {a8 : Int32} {a9 : Int32} {a10 : Int32} {a11 : Int32} {a12 : Int32} {sa : Int32} {sk : Int32} {sf : Int32} {sc : Int32} {sz : Int32} {Q : Option Value → sW → Prop} (r99 : ∀ a1 a2 a3 a4 a5 a6 a7 a8 a9 a10 a11 a12 sa sk sf sc sz, R99 a1 a2 a3 a4 a5 a6 a7 a8 a9 a10 a11 a12 sa sk sf sc sz → Rn d wgL (((84, 5), 39, [(84, 2, 39), (84, 3, 40), (84, 4, 43), (83, 1, 39), (83, 2, 40), (75, 0, 39), (75, 1, 57), (75, 2, 61)]) : wW) (((84, 5), 39, [(84, 2, 39), (84, 3, 40), (84, 4, 43), (83, 1, 39), (83, 2, 40), (75, 0, 39), (75, 1, 57), (75, 2, 61)]) : wW) xL_1 13 (some .int) xE_14 (xE_14.drop 99) [.ref 84, .int a1, .int a2, .int a3, .int a4, .int a5, .int a6, .int a7, .int a8, .int a9, .int a10, .int a11, .int a12, .null, .null, .null] [] (sa, sk, sf, sc, sz) Q) (h : w_14_99 (fun k => Tt d wgL (wk_14 39 k) (wk_14 39 k)) 39 R99 a1 a2 a3 a4 a5 a6 a7 a8 a9 a10 a11 a12 sa sk sf sc sz Q) : Rn d wgL (((84, 5), 39, [(84, 2, 39), (84, 3, 40), (84, 4, 43), (83, 1, 39), (83, 2, 40), (75, 0, 39), (75, 1, 57), (75, 2, 61)]) : wW) (((84, 5), 39, [(84, 2, 39), (84, 3, 40), (84, 4, 43), (83, 1, 39), (83, 2, 40), (75, 0, 39), (75, 1, 57), (75, 2, 61)]) : wW) xL_1 13 (some .int) xE_14 (xE_14.drop 99) [.ref 84, .int a1, .int a2, .int a3, .int a4, .int a5, .int a6, .int a7, .int a8, .int a9, .int a10, .int a11, .int a12, .null, .null, .null] [] (sa, sk, sf, sc, sz) Q := by
  unfold w_14_99 at h
  refine n_ld rfl rfl rfl ?_
  refine n_ld rfl rfl rfl ?_
  refine n_brP rfl rfl ⟨fun hcn => ?_, fun hcn => ?_⟩
  · replace h := h.1 ((i_le (x := a9) (y := a12) rfl rfl).mp hcn)
    exact k_14_118_39 hd hc  h
  · replace h := h.2 (fun q => hcn ((i_le (x := a9) (y := a12) rfl rfl).mpr q))
    refine n_ld rfl rfl rfl ?_
    refine n_get (v := .ref 39) rfl (hv_C (a := 84) (n := 0) rfl rfl rfl) ?_
    refine n_get (v := .int sf) rfl (hv_f (a := 39) rfl rfl (fun _ _ hw => hw.1.2.2.1)) ?_
    refine n_brN rfl rfl ⟨fun hcn => ?_, fun hcn => ?_⟩
    · replace h := h.1 (fun q => hcn ((i_eq (x := sf) (y := 0) rfl (show (0 : Int32).toInt = 0 by decide)).mpr q))
      exact k_14_118_39 hd hc  h
    · replace h := h.2 ((i_eq (x := sf) (y := 0) rfl (show (0 : Int32).toInt = 0 by decide)).mp hcn)
      refine n_ld rfl rfl rfl ?_
      refine n_ld rfl rfl rfl ?_
      refine n_get (v := .ref 83) rfl (hv_R (a := 84) rfl rfl) ?_
      refine n_ld rfl rfl rfl ?_
      refine n_get (v := .int sa) rfl (hv_f (a := 84) rfl rfl (fun _ _ hw => hw.1.1)) ?_
      refine n_c [.int 1, .int sa, .ref 83, .ref 84] (xo_push (.int 1)) rfl rfl ?_
      replace h := h _ (i_add (x := sa) (y := 1) rfl (show (1 : Int32).toInt = 1 by decide))
      refine n_c [.int (sa + 1), .ref 83, .ref 84] xo_iadd rfl rfl ?_
      refine n_c [.int 1, .int (sa + 1), .ref 83, .ref 84] (xo_push (.int 1)) rfl rfl ?_
      refine n_tt [.ref 83, .int (sa + 1), .int 1] [.ref 84] rfl rfl rfl rfl (Tt.imp h (fun v7 sq h => ?_))
      obtain ⟨sa2, sk3, sf4, sc5, sz6⟩ := sq
      obtain ⟨x8, rfl, h⟩ := h
      change Rn _ _ _ _ _ _ _ _ _ _ [.int x8, .ref 84] _ _
      refine n_put (a := 84) (w1 := (((84, 5), 39, [(84, 2, 39), (84, 3, 40), (84, 4, 43), (83, 1, 39), (83, 2, 40), (75, 0, 39), (75, 1, 57), (75, 2, 61)]) : wW)) (s1 := (x8, sk3, sf4, sc5, sz6)) rfl rfl rfl rfl (vK_int _) rfl rfl rfl (Or.inr (Or.inl (by decide +kernel))) (ws_at (w := (((84, 5), 39, [(84, 2, 39), (84, 3, 40), (84, 4, 43), (83, 1, 39), (83, 2, 40), (75, 0, 39), (75, 1, 57), (75, 2, 61)]) : wW)) (s := (sa2, sk3, sf4, sc5, sz6)) rfl) ?_
      replace h := h _ (i_add (x := a12) (y := 1) rfl (show (1 : Int32).toInt = 1 by decide))
      refine n_inc [.ref 84, .int a1, .int a2, .int a3, .int a4, .int a5, .int a6, .int a7, .int a8, .int a9, .int a10, .int a11, .int (a12 + 1), .null, .null, .null] rfl rfl rfl rfl ?_
      refine n_go rfl ?_
      exact r99 a1 a2 a3 a4 a5 a6 a7 a8 a9 a10 a11 (a12 + 1) x8 sk3 sf4 sc5 sz6 h
theorem kl_14_99_39 {d d0 : Nat} (hd : d = d0 + 4) (hc : ∀ p ∈ s_w14, CTR (yex d) p.1 p.2)  {a1 : Int32} {a2 : Int32} {a3 : Int32} {a4 : Int32} {a5 : Int32} {a6 : Int32} {a7 : Int32} {a8 : Int32} {a9 : Int32} {a10 : Int32} {a11 : Int32} {a12 : Int32} {sa : Int32} {sk : Int32} {sf : Int32} {sc : Int32} {sz : Int32} {Q : Option Value → sW → Prop}  (h : wl_14_99 (fun k => Tt d wgL (wk_14 39 k) (wk_14 39 k)) 39  a1 a2 a3 a4 a5 a6 a7 a8 a9 a10 a11 a12 sa sk sf sc sz Q) : Rn d wgL (((84, 5), 39, [(84, 2, 39), (84, 3, 40), (84, 4, 43), (83, 1, 39), (83, 2, 40), (75, 0, 39), (75, 1, 57), (75, 2, 61)]) : wW) (((84, 5), 39, [(84, 2, 39), (84, 3, 40), (84, 4, 43), (83, 1, 39), (83, 2, 40), (75, 0, 39), (75, 1, 57), (75, 2, 61)]) : wW) xL_1 13 (some .int) xE_14 (xE_14.drop 99) [.ref 84, .int a1, .int a2, .int a3, .int a4, .int a5, .int a6, .int a7, .int a8, .int a9, .int a10, .int a11, .int a12, .null, .null, .null] [] (sa, sk, sf, sc, sz) Q := by
  obtain ⟨I, μ, h0, h1⟩ := h
  have key : ∀ (n : Nat) (a1 : Int32) (a2 : Int32) (a3 : Int32) (a4 : Int32) (a5 : Int32) (a6 : Int32) (a7 : Int32) (a8 : Int32) (a9 : Int32) (a10 : Int32) (a11 : Int32) (a12 : Int32) (sa : Int32) (sk : Int32) (sf : Int32) (sc : Int32) (sz : Int32), μ a1 a2 a3 a4 a5 a6 a7 a8 a9 a10 a11 a12 sa sk sf sc sz = n → I a1 a2 a3 a4 a5 a6 a7 a8 a9 a10 a11 a12 sa sk sf sc sz → Rn d wgL (((84, 5), 39, [(84, 2, 39), (84, 3, 40), (84, 4, 43), (83, 1, 39), (83, 2, 40), (75, 0, 39), (75, 1, 57), (75, 2, 61)]) : wW) (((84, 5), 39, [(84, 2, 39), (84, 3, 40), (84, 4, 43), (83, 1, 39), (83, 2, 40), (75, 0, 39), (75, 1, 57), (75, 2, 61)]) : wW) xL_1 13 (some .int) xE_14 (xE_14.drop 99) [.ref 84, .int a1, .int a2, .int a3, .int a4, .int a5, .int a6, .int a7, .int a8, .int a9, .int a10, .int a11, .int a12, .null, .null, .null] [] (sa, sk, sf, sc, sz) Q := by
    intro n
    induction n using Nat.strongRecOn with
    | ind n ih =>
      intro a1 a2 a3 a4 a5 a6 a7 a8 a9 a10 a11 a12 sa sk sf sc sz e hI
      exact k_14_99_39 hd hc (fun a1' a2' a3' a4' a5' a6' a7' a8' a9' a10' a11' a12' sa' sk' sf' sc' sz' q => ih _ (by rw [← e]; exact q.2) a1' a2' a3' a4' a5' a6' a7' a8' a9' a10' a11' a12' sa' sk' sf' sc' sz' rfl q.1) (h1 a1 a2 a3 a4 a5 a6 a7 a8 a9 a10 a11 a12 sa sk sf sc sz hI)
  exact key _ a1 a2 a3 a4 a5 a6 a7 a8 a9 a10 a11 a12 sa sk sf sc sz rfl h0
set_option maxRecDepth 20000 in
theorem k_14_81_39 {d d0 : Nat} (hd : d = d0 + 4) (hc : ∀ p ∈ s_w14, CTR (yex d) p.1 p.2)  {a1 : Int32} {a2 : Int32} {a3 : Int32} {a4 : Int32} {a5 : Int32} {a6 : Int32} {a7 : Int32} {a8 : Int32} {a9 : Int32} {sa : Int32} {sk : Int32} {sf : Int32} {sc : Int32} {sz : Int32} {Q : Option Value → sW → Prop}  (h : w_14_81 (fun k => Tt d wgL (wk_14 39 k) (wk_14 39 k)) 39  a1 a2 a3 a4 a5 a6 a7 a8 a9 sa sk sf sc sz Q) : Rn d wgL (((84, 5), 39, [(84, 2, 39), (84, 3, 40), (84, 4, 43), (83, 1, 39), (83, 2, 40), (75, 0, 39), (75, 1, 57), (75, 2, 61)]) : wW) (((84, 5), 39, [(84, 2, 39), (84, 3, 40), (84, 4, 43), (83, 1, 39), (83, 2, 40), (75, 0, 39), (75, 1, 57), (75, 2, 61)]) : wW) xL_1 13 (some .int) xE_14 (xE_14.drop 81) [.ref 84, .int a1, .int a2, .int a3, .int a4, .int a5, .int a6, .int a7, .int a8, .int a9, .null, .null, .null, .null, .null, .null] [] (sa, sk, sf, sc, sz) Q := by
  unfold w_14_81 at h
  refine n_ld rfl rfl rfl ?_
  refine n_get (v := .ref 39) rfl (hv_C (a := 84) (n := 0) rfl rfl rfl) ?_
  refine n_c [.int 4, .ref 39] (xo_push (.int 4)) rfl rfl ?_
  refine n_ld rfl rfl rfl ?_
  refine n_tt [.ref 39, .int 4, .int a3] [] rfl rfl rfl rfl (Tt.imp h (fun v6 sq h => ?_))
  obtain ⟨sa1, sk2, sf3, sc4, sz5⟩ := sq
  obtain ⟨rfl, h⟩ := h
  change Rn _ _ _ _ _ _ _ _ _ _ [] _ _
  refine n_ld rfl rfl rfl ?_
  exact n_retI rfl h
set_option maxRecDepth 20000 in
theorem k_14_70_39 {d d0 : Nat} (hd : d = d0 + 4) (hc : ∀ p ∈ s_w14, CTR (yex d) p.1 p.2)  {a1 : Int32} {a2 : Int32} {a3 : Int32} {a4 : Int32} {a5 : Int32} {a6 : Int32} {a7 : Int32} {a8 : Int32} {t0 : Int32} {sa : Int32} {sk : Int32} {sf : Int32} {sc : Int32} {sz : Int32} {Q : Option Value → sW → Prop}  (h : w_14_70 (fun k => Tt d wgL (wk_14 39 k) (wk_14 39 k)) 39  a1 a2 a3 a4 a5 a6 a7 a8 t0 sa sk sf sc sz Q) : Rn d wgL (((84, 5), 39, [(84, 2, 39), (84, 3, 40), (84, 4, 43), (83, 1, 39), (83, 2, 40), (75, 0, 39), (75, 1, 57), (75, 2, 61)]) : wW) (((84, 5), 39, [(84, 2, 39), (84, 3, 40), (84, 4, 43), (83, 1, 39), (83, 2, 40), (75, 0, 39), (75, 1, 57), (75, 2, 61)]) : wW) xL_1 13 (some .int) xE_14 (xE_14.drop 70) [.ref 84, .int a1, .int a2, .int a3, .int a4, .int a5, .int a6, .int a7, .int a8, .null, .null, .null, .null, .null, .null, .null] [.int t0] (sa, sk, sf, sc, sz) Q := by
  unfold w_14_70 at h
  refine n_st [.ref 84, .int a1, .int a2, .int a3, .int a4, .int a5, .int a6, .int a7, .int a8, .int t0, .null, .null, .null, .null, .null, .null] rfl rfl rfl ?_
  refine n_ld rfl rfl rfl ?_
  refine n_ld rfl rfl rfl ?_
  refine n_brN rfl rfl ⟨fun hcn => ?_, fun hcn => ?_⟩
  · replace h := h.1 (fun q => hcn ((i_eq (x := t0) (y := a6) rfl rfl).mpr q))
    exact k_14_81_39 hd hc  h
  · replace h := h.2 ((i_eq (x := t0) (y := a6) rfl rfl).mp hcn)
    refine n_ld rfl rfl rfl ?_
    refine n_get (v := .ref 40) rfl (hv_C (a := 84) (n := 1) rfl rfl rfl) ?_
    refine n_get (v := .ref 51) rfl (hv_R (a := 40) rfl rfl) ?_
    refine n_ld rfl rfl rfl ?_
    refine n_row a3 [] (a := 51) hd rfl rfl rfl rfl (fun x1 g1 g2 g3 => ?_)
    replace h := h x1 g1
    refine n_ld rfl rfl rfl ?_
    refine n_brP rfl rfl ⟨fun hcn => ?_, fun hcn => ?_⟩
    · replace h := h.1 ((i_eq (x := x1) (y := a7) rfl rfl).mp hcn)
      refine n_ld rfl rfl rfl ?_
      refine n_get (v := .ref 75) rfl (hv_R (a := 84) rfl rfl) ?_
      refine n_ld rfl rfl rfl ?_
      refine n_tt [.ref 75, .int a1] [] rfl rfl rfl rfl (Tt.imp h (fun v7 sq h => ?_))
      obtain ⟨sa2, sk3, sf4, sc5, sz6⟩ := sq
      obtain ⟨x8, rfl, h⟩ := h
      change Rn _ _ _ _ _ _ _ _ _ _ [.int x8] _ _
      refine n_st [.ref 84, .int a1, .int a2, .int a3, .int a4, .int a5, .int a6, .int a7, .int a8, .int t0, .int x8, .null, .null, .null, .null, .null] rfl rfl rfl ?_
      refine n_ld rfl rfl rfl ?_
      refine n_get (v := .ref 39) rfl (hv_C (a := 84) (n := 0) rfl rfl rfl) ?_
      refine n_get (v := .int sk3) rfl (hv_f (a := 39) rfl rfl (fun _ _ hw => hw.1.2.1)) ?_
      refine n_st [.ref 84, .int a1, .int a2, .int a3, .int a4, .int a5, .int a6, .int a7, .int a8, .int t0, .int x8, .int sk3, .null, .null, .null, .null] rfl rfl rfl ?_
      refine n_c [.int 0] (xo_push (.int 0)) rfl rfl ?_
      refine n_st [.ref 84, .int a1, .int a2, .int a3, .int a4, .int a5, .int a6, .int a7, .int a8, .int t0, .int x8, .int sk3, .int 0, .null, .null, .null] rfl rfl rfl ?_
      exact kl_14_99_39 hd hc  h
    · replace h := h.2 (fun q => hcn ((i_eq (x := x1) (y := a7) rfl rfl).mpr q))
      exact k_14_81_39 hd hc  h
set_option maxRecDepth 20000 in
theorem k_14_0_39 {d d0 : Nat} (hd : d = d0 + 4) (hc : ∀ p ∈ s_w14, CTR (yex d) p.1 p.2)  {a1 : Int32} {a2 : Int32} {sa : Int32} {sk : Int32} {sf : Int32} {sc : Int32} {sz : Int32} {Q : Option Value → sW → Prop}  (h : w_14_0 (fun k => Tt d wgL (wk_14 39 k) (wk_14 39 k)) 39  a1 a2 sa sk sf sc sz Q) : Rn d wgL (((84, 5), 39, [(84, 2, 39), (84, 3, 40), (84, 4, 43), (83, 1, 39), (83, 2, 40), (75, 0, 39), (75, 1, 57), (75, 2, 61)]) : wW) (((84, 5), 39, [(84, 2, 39), (84, 3, 40), (84, 4, 43), (83, 1, 39), (83, 2, 40), (75, 0, 39), (75, 1, 57), (75, 2, 61)]) : wW) xL_1 13 (some .int) xE_14 (xE_14.drop 0) [.ref 84, .int a1, .int a2, .null, .null, .null, .null, .null, .null, .null, .null, .null, .null, .null, .null, .null] [] (sa, sk, sf, sc, sz) Q := by
  unfold w_14_0 at h
  refine n_ld rfl rfl rfl ?_
  refine n_get (v := .int sa) rfl (hv_f (a := 84) rfl rfl (fun _ _ hw => hw.1.1)) ?_
  refine n_st [.ref 84, .int a1, .int a2, .int sa, .null, .null, .null, .null, .null, .null, .null, .null, .null, .null, .null, .null] rfl rfl rfl ?_
  refine n_ld rfl rfl rfl ?_
  refine n_c [.ref 84, .ref 84] xo_dup rfl rfl ?_
  refine n_get (v := .int sa) rfl (hv_f (a := 84) rfl rfl (fun _ _ hw => hw.1.1)) ?_
  refine n_c [.int 1, .int sa, .ref 84] (xo_push (.int 1)) rfl rfl ?_
  replace h := h _ (i_add (x := sa) (y := 1) rfl (show (1 : Int32).toInt = 1 by decide))
  refine n_c [.int (sa + 1), .ref 84] xo_iadd rfl rfl ?_
  refine n_put (a := 84) (w1 := (((84, 5), 39, [(84, 2, 39), (84, 3, 40), (84, 4, 43), (83, 1, 39), (83, 2, 40), (75, 0, 39), (75, 1, 57), (75, 2, 61)]) : wW)) (s1 := ((sa + 1), sk, sf, sc, sz)) rfl rfl rfl rfl (vK_int _) rfl rfl rfl (Or.inr (Or.inl (by decide +kernel))) (ws_at (w := (((84, 5), 39, [(84, 2, 39), (84, 3, 40), (84, 4, 43), (83, 1, 39), (83, 2, 40), (75, 0, 39), (75, 1, 57), (75, 2, 61)]) : wW)) (s := (sa, sk, sf, sc, sz)) rfl) ?_
  refine n_ld rfl rfl rfl ?_
  refine n_get (v := .ref 75) rfl (hv_R (a := 84) rfl rfl) ?_
  refine n_ld rfl rfl rfl ?_
  refine n_ctr [.ref 75, .int a1] [] rfl rfl rfl (hc (90, q_90) (List.mem_of_getElem? (i := 3) rfl)) ⟨⟨_, rfl, cmem_ok rfl⟩, vK_int _, trivial⟩ rfl rfl (fun vq sq hv hk => ?_)
  obtain ⟨sa2, sk3, sf4, sc5, sz6⟩ := sq
  obtain ⟨k1, k2, k3, k4, k5, k6, k7⟩ := hk
  obtain rfl : (sa + 1) = sa2 := (k1 (wmem_no rfl)).symm
  obtain rfl : sk = sk3 := (k2).symm
  obtain rfl : sf = sf4 := (k3 (wmem_no rfl)).symm
  obtain rfl : sc = sc5 := (k5 (wmem_no rfl)).symm
  obtain rfl : sz = sz6 := (k6 (wmem_no rfl)).symm
  obtain ⟨vr, rfl, x7, rfl, hl, hu⟩ := hv
  replace h := h x7
  change Rn _ _ _ _ _ _ _ _ _ _ [.int x7] _ _
  refine n_st [.ref 84, .int a1, .int a2, .int sa, .int x7, .null, .null, .null, .null, .null, .null, .null, .null, .null, .null, .null] rfl rfl rfl ?_
  refine n_ld rfl rfl rfl ?_
  refine n_get (v := .ref 39) rfl (hv_C (a := 84) (n := 0) rfl rfl rfl) ?_
  refine n_ld rfl rfl rfl ?_
  refine n_get (v := .ref 39) rfl (hv_C (a := 84) (n := 0) rfl rfl rfl) ?_
  refine n_get (v := .ref 57) rfl (hv_R (a := 39) rfl rfl) ?_
  refine n_ld rfl rfl rfl ?_
  refine n_row x7 [.ref 39] (a := 57) hd rfl rfl rfl rfl (fun x8 g1 g2 g3 => ?_)
  replace h := h x8 
  refine n_ld rfl rfl rfl ?_
  refine n_get (v := .ref 40) rfl (hv_C (a := 84) (n := 1) rfl rfl rfl) ?_
  refine n_get (v := .ref 49) rfl (hv_R (a := 40) rfl rfl) ?_
  refine n_ld rfl rfl rfl ?_
  refine n_row sa [.int x8, .ref 39] (a := 49) hd rfl rfl rfl rfl (fun x9 g1 g2 g3 => ?_)
  replace h := h x9 g1
  refine n_ctr [.ref 39, .int x8, .int x9] [] rfl rfl rfl (hc (52, q_52) (List.mem_of_getElem? (i := 4) rfl)) ⟨⟨_, rfl, cmem_ok rfl⟩, vK_int _, vK_int _, trivial⟩ rfl rfl (fun vq sq hv hk => ?_)
  obtain ⟨sa10, sk11, sf12, sc13, sz14⟩ := sq
  obtain ⟨k1, k2, k3, k4, k5, k6, k7⟩ := hk
  obtain rfl : (sa + 1) = sa10 := (k1 (wmem_no rfl)).symm
  obtain rfl : sk = sk11 := (k2).symm
  obtain rfl : sf = sf12 := (k3 (wmem_no rfl)).symm
  obtain rfl : sc = sc13 := (k5 (wmem_no rfl)).symm
  obtain rfl : sz = sz14 := (k6 (wmem_no rfl)).symm
  obtain ⟨vr, rfl, x15, rfl, hl, hu⟩ := hv
  replace h := h x15
  change Rn _ _ _ _ _ _ _ _ _ _ [.int x15] _ _
  refine n_st [.ref 84, .int a1, .int a2, .int sa, .int x7, .int x15, .null, .null, .null, .null, .null, .null, .null, .null, .null, .null] rfl rfl rfl ?_
  refine n_ld rfl rfl rfl ?_
  refine n_brP rfl rfl ⟨fun hcn => ?_, fun hcn => ?_⟩
  · replace h := h.1 ((i_le (x := 0) (y := x15) (show (0 : Int32).toInt = 0 by decide) rfl).mp hcn)
    refine n_ld rfl rfl rfl ?_
    refine n_get (v := .ref 39) rfl (hv_C (a := 84) (n := 0) rfl rfl rfl) ?_
    refine n_ld rfl rfl rfl ?_
    refine n_c [.int 3, .int x15, .ref 39] (xo_push (.int 3)) rfl rfl ?_
    refine n_ctr [.ref 39, .int x15, .int 3] [] rfl rfl rfl (hc (41, q_41) (List.mem_of_getElem? (i := 5) rfl)) ⟨⟨_, rfl, cmem_ok rfl⟩, vK_int _, vK_int _, trivial⟩ rfl rfl (fun vq sq hv hk => ?_)
    obtain ⟨sa16, sk17, sf18, sc19, sz20⟩ := sq
    obtain ⟨k1, k2, k3, k4, k5, k6, k7⟩ := hk
    obtain rfl : (sa + 1) = sa16 := (k1 (wmem_no rfl)).symm
    obtain rfl : sk = sk17 := (k2).symm
    obtain rfl : sf = sf18 := (k3 (wmem_no rfl)).symm
    obtain rfl : sc = sc19 := (k5 (wmem_no rfl)).symm
    obtain rfl : sz = sz20 := (k6 (wmem_no rfl)).symm
    obtain ⟨vr, rfl, x21, rfl, hl, hu⟩ := hv
    replace h := h x21 hl hu
    change Rn _ _ _ _ _ _ _ _ _ _ [.int x21] _ _
    refine n_st [.ref 84, .int a1, .int a2, .int sa, .int x7, .int x15, .int x21, .null, .null, .null, .null, .null, .null, .null, .null, .null] rfl rfl rfl ?_
    refine n_ld rfl rfl rfl ?_
    refine n_get (v := .ref 39) rfl (hv_C (a := 84) (n := 0) rfl rfl rfl) ?_
    refine n_ld rfl rfl rfl ?_
    refine n_c [.int 4, .int x15, .ref 39] (xo_push (.int 4)) rfl rfl ?_
    refine n_ctr [.ref 39, .int x15, .int 4] [] rfl rfl rfl (hc (41, q_41) (List.mem_of_getElem? (i := 5) rfl)) ⟨⟨_, rfl, cmem_ok rfl⟩, vK_int _, vK_int _, trivial⟩ rfl rfl (fun vq sq hv hk => ?_)
    obtain ⟨sa22, sk23, sf24, sc25, sz26⟩ := sq
    obtain ⟨k1, k2, k3, k4, k5, k6, k7⟩ := hk
    obtain rfl : (sa + 1) = sa22 := (k1 (wmem_no rfl)).symm
    obtain rfl : sk = sk23 := (k2).symm
    obtain rfl : sf = sf24 := (k3 (wmem_no rfl)).symm
    obtain rfl : sc = sc25 := (k5 (wmem_no rfl)).symm
    obtain rfl : sz = sz26 := (k6 (wmem_no rfl)).symm
    obtain ⟨vr, rfl, x27, rfl, hl, hu⟩ := hv
    replace h := h x27 hl hu
    change Rn _ _ _ _ _ _ _ _ _ _ [.int x27] _ _
    refine n_st [.ref 84, .int a1, .int a2, .int sa, .int x7, .int x15, .int x21, .int x27, .null, .null, .null, .null, .null, .null, .null, .null] rfl rfl rfl ?_
    refine n_ld rfl rfl rfl ?_
    refine n_get (v := .ref 39) rfl (hv_C (a := 84) (n := 0) rfl rfl rfl) ?_
    refine n_ld rfl rfl rfl ?_
    refine n_c [.int 2, .int x15, .ref 39] (xo_push (.int 2)) rfl rfl ?_
    refine n_ctr [.ref 39, .int x15, .int 2] [] rfl rfl rfl (hc (41, q_41) (List.mem_of_getElem? (i := 5) rfl)) ⟨⟨_, rfl, cmem_ok rfl⟩, vK_int _, vK_int _, trivial⟩ rfl rfl (fun vq sq hv hk => ?_)
    obtain ⟨sa28, sk29, sf30, sc31, sz32⟩ := sq
    obtain ⟨k1, k2, k3, k4, k5, k6, k7⟩ := hk
    obtain rfl : (sa + 1) = sa28 := (k1 (wmem_no rfl)).symm
    obtain rfl : sk = sk29 := (k2).symm
    obtain rfl : sf = sf30 := (k3 (wmem_no rfl)).symm
    obtain rfl : sc = sc31 := (k5 (wmem_no rfl)).symm
    obtain rfl : sz = sz32 := (k6 (wmem_no rfl)).symm
    obtain ⟨vr, rfl, x33, rfl, hl, hu⟩ := hv
    replace h := h x33 hl hu
    change Rn _ _ _ _ _ _ _ _ _ _ [.int x33] _ _
    refine n_st [.ref 84, .int a1, .int a2, .int sa, .int x7, .int x15, .int x21, .int x27, .int x33, .null, .null, .null, .null, .null, .null, .null] rfl rfl rfl ?_
    refine n_ld rfl rfl rfl ?_
    refine n_get (v := .ref 43) rfl (hv_C (a := 84) (n := 2) rfl rfl rfl) ?_
    refine n_ld rfl rfl rfl ?_
    refine n_get (v := .int (sa + 1)) rfl (hv_f (a := 84) rfl rfl (fun _ _ hw => hw.1.1)) ?_
    refine n_row (sa + 1) [] (a := 43) hd rfl rfl rfl rfl (fun x34 g1 g2 g3 => ?_)
    replace h := h x34 g2
    refine n_c [.int 91, .int x34] (xo_push (.int 91)) rfl rfl ?_
    refine n_brN rfl rfl ⟨fun hcn => ?_, fun hcn => ?_⟩
    · replace h := h.1 (fun q => hcn ((i_eq (x := x34) (y := 91) rfl (show (91 : Int32).toInt = 91 by decide)).mpr q))
      refine n_c [.int 0] (xo_push (.int 0)) rfl rfl ?_
      exact k_14_70_39 hd hc  h
    · replace h := h.2 ((i_eq (x := x34) (y := 91) rfl (show (91 : Int32).toInt = 91 by decide)).mp hcn)
      refine n_ld rfl rfl rfl ?_
      refine n_get (v := .ref 40) rfl (hv_C (a := 84) (n := 1) rfl rfl rfl) ?_
      refine n_get (v := .ref 51) rfl (hv_R (a := 40) rfl rfl) ?_
      refine n_ld rfl rfl rfl ?_
      refine n_get (v := .int (sa + 1)) rfl (hv_f (a := 84) rfl rfl (fun _ _ hw => hw.1.1)) ?_
      refine n_row (sa + 1) [] (a := 51) hd rfl rfl rfl rfl (fun x35 g1 g2 g3 => ?_)
      replace h := h x35 g1
      refine n_go rfl ?_
      exact k_14_70_39 hd hc  h
  · replace h := h.2 (fun q => hcn ((i_le (x := 0) (y := x15) (show (0 : Int32).toInt = 0 by decide) rfl).mpr q))
    refine n_ld rfl rfl rfl ?_
    refine n_get (v := .ref 39) rfl (hv_C (a := 84) (n := 0) rfl rfl rfl) ?_
    refine n_c [.int 2, .ref 39] (xo_push (.int 2)) rfl rfl ?_
    refine n_ld rfl rfl rfl ?_
    refine n_tt [.ref 39, .int 2, .int sa] [] rfl rfl rfl rfl (Tt.imp h (fun v41 sq h => ?_))
    obtain ⟨sa36, sk37, sf38, sc39, sz40⟩ := sq
    obtain ⟨rfl, h⟩ := h
    change Rn _ _ _ _ _ _ _ _ _ _ [] _ _
    refine n_ld rfl rfl rfl ?_
    exact n_retI rfl h
theorem t_14_39 {d : Nat} (hc : ∀ p ∈ s_w14, CTR (yex (d + 4)) p.1 p.2) {a1 : Int32} {a2 : Int32} {sa : Int32} {sk : Int32} {sf : Int32} {sc : Int32} {sz : Int32} {Q : Option Value → sW → Prop} (h : w_14_0 (fun k => Tt (d + 4) wgL (wk_14 39 k) (wk_14 39 k)) 39 a1 a2 sa sk sf sc sz Q) : Tt (d + 5) wgL (((84, 5), 39, [(84, 2, 39), (84, 3, 40), (84, 4, 43), (83, 1, 39), (83, 2, 40), (75, 0, 39), (75, 1, 57), (75, 2, 61)]) : wW) (((84, 5), 39, [(84, 2, 39), (84, 3, 40), (84, 4, 43), (83, 1, 39), (83, 2, 40), (75, 0, 39), (75, 1, 57), (75, 2, 61)]) : wW) 14 [.ref 84, .int a1, .int a2] (sa, sk, sf, sc, sz) Q := tt_of (E := xE_14) (L := xL_1) (ml := 13) (ret := some .int) rfl rfl rfl (k_14_0_39 rfl hc h)
/-! FeatherBench$Bodies.behindPoint -/
def wk_8 (P : Nat) : Nat → wW
  | _ => (((84, 5), P, [(84, 2, P), (84, 3, (P + 1)), (84, 4, (P + 4)), (83, 1, P), (83, 2, (P + 1)), (75, 0, P), (75, 1, (P + 18)), (75, 2, (P + 22))]) : wW)
def s_w8 : List (Nat × cSg) := [(49, q_49), (135, q_135), (90, q_90), (88, q_88)]
def w_8_106 (T : Nat → Nat → List Value → sW → (Option Value → sW → Prop) → Prop) (P : Nat)  (a1 : Int32) (a2 : Int32) (a3 : Int32) (a4 : Int32) (a5 : Int32) (sa : Int32) (sk : Int32) (sf : Int32) (sc : Int32) (sz : Int32) (Q : Option Value → sW → Prop) : Prop :=
  ∀ x1 : Int32, (0 ≤ x1.toInt ∧ x1.toInt ≤ 5000) → T 0 59 [.ref P, .int 6, .int a5, .int x1, .int 0, .int 0, .int 0] (sa, sk, sf, sc, sz) (fun v7 (sa2, sk3, sf4, sc5, sz6) => v7 = none ∧ (Q (some (.int a5)) (sa2, sk3, sf4, sc5, sz6)))
def w_8_39 (T : Nat → Nat → List Value → sW → (Option Value → sW → Prop) → Prop) (P : Nat)  (a1 : Int32) (a2 : Int32) (a3 : Int32) (a4 : Int32) (t0 : Int32) (sa : Int32) (sk : Int32) (sf : Int32) (sc : Int32) (sz : Int32) (Q : Option Value → sW → Prop) : Prop :=
  Q (some (.int t0)) (sa, sk, sf, sc, sz)
def w_8_30 (T : Nat → Nat → List Value → sW → (Option Value → sW → Prop) → Prop) (P : Nat)  (a1 : Int32) (a2 : Int32) (a3 : Int32) (a4 : Int32) (sa : Int32) (sk : Int32) (sf : Int32) (sc : Int32) (sz : Int32) (Q : Option Value → sW → Prop) : Prop :=
  T 0 14 [.ref 84, .int a1, .int a2] (sa, sk, sf, sc, sz) (fun v6 (sa1, sk2, sf3, sc4, sz5) => ∃ x7, v6 = some (.int x7) ∧ (w_8_39 T P  a1 a2 a3 a4 x7 sa1 sk2 sf3 sc4 sz5 Q))
def w_8_0 (T : Nat → Nat → List Value → sW → (Option Value → sW → Prop) → Prop) (P : Nat)  (a1 : Int32) (a2 : Int32) (sa : Int32) (sk : Int32) (sf : Int32) (sc : Int32) (sz : Int32) (Q : Option Value → sW → Prop) : Prop :=
  ∀ x1 : Int32, (-2147483648 ≤ sa.toInt + 1 ∧ sa.toInt + 1 ≤ 2147483647 → x1.toInt = sa.toInt + 1) → ∀ x2 : Int32, (¬ x2.toInt = 0 → 0 ≤ x1.toInt ∧ x1.toInt < 4002) → (x2.toInt = 40 → ∀ x3 : Int32, ∀ x9 : Int32, 0 ≤ x9.toInt → x9.toInt ≤ 1 → (x9.toInt = 0 → ∀ x10 : Int32, (-2147483648 ≤ x1.toInt + 1 ∧ x1.toInt + 1 ≤ 2147483647 → x10.toInt = x1.toInt + 1) → T 0 132 [.ref 83, .int x10, .int 1] (x1, sk, sf, sc, sz) (fun v16 (sa11, sk12, sf13, sc14, sz15) => ∃ x17, v16 = some (.int x17) ∧ (∀ x18 : Int32, (-2147483648 ≤ x17.toInt + 1 ∧ x17.toInt + 1 ≤ 2147483647 → x18.toInt = x17.toInt + 1) → (0 ≤ sk.toInt ∧ sk.toInt ≤ 2147483647) ∧ (∀ sf21 : Int32, (sf21.toInt = 0 → sf13.toInt = 0) → (¬ (sf21.toInt = 0) → w_8_106 T P  a1 a2 sa x10 sk x18 sk12 sf21 sc14 sz15 Q) ∧ (sf21.toInt = 0 → ∀ x24 : Int32, ∀ x30 : Int32, 0 ≤ x30.toInt → x30.toInt ≤ 1 → (x30.toInt = 0 → w_8_106 T P  a1 a2 sa x10 sk x18 sk12 sf21 sc14 sz15 Q) ∧ (¬ (x30.toInt = 0) → ∀ x36 : Int32, ∀ x42 : Int32, 0 ≤ x42.toInt → x42.toInt ≤ 9 → T 0 38 [.ref P, .int x42, .int x10] (x18, sk12, sf21, sc14, sz15) (fun v48 (sa43, sk44, sf45, sc46, sz47) => v48 = none ∧ (w_8_106 T P  a1 a2 sa x10 sk sa43 sk44 sf45 sc46 sz47 Q)))))))) ∧ (¬ (x9.toInt = 0) → T 0 38 [.ref P, .int 6, .int sa] (x1, sk, sf, sc, sz) (fun v54 (sa49, sk50, sf51, sc52, sz53) => v54 = none ∧ (Q (some (.int a1)) (sa49, sk50, sf51, sc52, sz53))))) ∧ (¬ (x2.toInt = 40) → ∀ x55 : Int32, (-2147483648 ≤ x1.toInt + 1 ∧ x1.toInt + 1 ≤ 2147483647 → x55.toInt = x1.toInt + 1) → ∀ x56 : Int32, (¬ x56.toInt = 0 → 0 ≤ x55.toInt ∧ x55.toInt < 4002) → (x56.toInt = 40 → w_8_30 T P  a1 a2 sa x56 x1 sk sf sc sz Q) ∧ (¬ (x56.toInt = 40) → (¬ (x56.toInt = 91) → T 0 12 [.ref 84, .int a1, .int sa] (x1, sk, sf, sc, sz) (fun v62 (sa57, sk58, sf59, sc60, sz61) => ∃ x63, v62 = some (.int x63) ∧ (w_8_39 T P  a1 a2 sa x56 x63 sa57 sk58 sf59 sc60 sz61 Q))) ∧ (x56.toInt = 91 → w_8_30 T P  a1 a2 sa x56 x1 sk sf sc sz Q)))
set_option maxRecDepth 20000 in
theorem k_8_106_3 {d d0 : Nat} (hd : d = d0 + 4) (hc : ∀ p ∈ s_w8, CTR (yex d) p.1 p.2)  {a1 : Int32} {a2 : Int32} {a3 : Int32} {a4 : Int32} {a5 : Int32} {sa : Int32} {sk : Int32} {sf : Int32} {sc : Int32} {sz : Int32} {Q : Option Value → sW → Prop}  (h : w_8_106 (fun k => Tt d wgL (wk_8 3 k) (wk_8 3 k)) 3  a1 a2 a3 a4 a5 sa sk sf sc sz Q) : Rn d wgL (((84, 5), 3, [(84, 2, 3), (84, 3, 4), (84, 4, 7), (83, 1, 3), (83, 2, 4), (75, 0, 3), (75, 1, 21), (75, 2, 25)]) : wW) (((84, 5), 3, [(84, 2, 3), (84, 3, 4), (84, 4, 7), (83, 1, 3), (83, 2, 4), (75, 0, 3), (75, 1, 21), (75, 2, 25)]) : wW) xL_1 6 (some .int) xE_8 (xE_8.drop 106) [.ref 84, .int a1, .int a2, .int a3, .int a4, .int a5, .null, .null, .null] [] (sa, sk, sf, sc, sz) Q := by
  unfold w_8_106 at h
  refine n_ld rfl rfl rfl ?_
  refine n_get (v := .ref 3) rfl (hv_C (a := 84) (n := 0) rfl rfl rfl) ?_
  refine n_c [.int 6, .ref 3] (xo_push (.int 6)) rfl rfl ?_
  refine n_ld rfl rfl rfl ?_
  refine n_ld rfl rfl rfl ?_
  refine n_get (v := .ref 4) rfl (hv_C (a := 84) (n := 1) rfl rfl rfl) ?_
  refine n_get (v := .ref 9) rfl (hv_R (a := 4) rfl rfl) ?_
  refine n_ld rfl rfl rfl ?_
  refine n_row a3 [.int a5, .int 6, .ref 3] (a := 9) hd rfl rfl rfl rfl (fun x1 g1 g2 g3 => ?_)
  replace h := h x1 g1
  refine n_c [.int 0, .int x1, .int a5, .int 6, .ref 3] (xo_push (.int 0)) rfl rfl ?_
  refine n_c [.int 0, .int 0, .int x1, .int a5, .int 6, .ref 3] (xo_push (.int 0)) rfl rfl ?_
  refine n_c [.int 0, .int 0, .int 0, .int x1, .int a5, .int 6, .ref 3] (xo_push (.int 0)) rfl rfl ?_
  refine n_tt [.ref 3, .int 6, .int a5, .int x1, .int 0, .int 0, .int 0] [] rfl rfl rfl rfl (Tt.imp h (fun v7 sq h => ?_))
  obtain ⟨sa2, sk3, sf4, sc5, sz6⟩ := sq
  obtain ⟨rfl, h⟩ := h
  change Rn _ _ _ _ _ _ _ _ _ _ [] _ _
  refine n_ld rfl rfl rfl ?_
  exact n_retI rfl h
set_option maxRecDepth 20000 in
theorem k_8_39_3 {d d0 : Nat} (hd : d = d0 + 4) (hc : ∀ p ∈ s_w8, CTR (yex d) p.1 p.2)  {a1 : Int32} {a2 : Int32} {a3 : Int32} {a4 : Int32} {t0 : Int32} {sa : Int32} {sk : Int32} {sf : Int32} {sc : Int32} {sz : Int32} {Q : Option Value → sW → Prop}  (h : w_8_39 (fun k => Tt d wgL (wk_8 3 k) (wk_8 3 k)) 3  a1 a2 a3 a4 t0 sa sk sf sc sz Q) : Rn d wgL (((84, 5), 3, [(84, 2, 3), (84, 3, 4), (84, 4, 7), (83, 1, 3), (83, 2, 4), (75, 0, 3), (75, 1, 21), (75, 2, 25)]) : wW) (((84, 5), 3, [(84, 2, 3), (84, 3, 4), (84, 4, 7), (83, 1, 3), (83, 2, 4), (75, 0, 3), (75, 1, 21), (75, 2, 25)]) : wW) xL_1 6 (some .int) xE_8 (xE_8.drop 39) [.ref 84, .int a1, .int a2, .int a3, .int a4, .null, .null, .null, .null] [.int t0] (sa, sk, sf, sc, sz) Q := by
  unfold w_8_39 at h
  exact n_retI rfl h
set_option maxRecDepth 20000 in
theorem k_8_30_3 {d d0 : Nat} (hd : d = d0 + 4) (hc : ∀ p ∈ s_w8, CTR (yex d) p.1 p.2)  {a1 : Int32} {a2 : Int32} {a3 : Int32} {a4 : Int32} {sa : Int32} {sk : Int32} {sf : Int32} {sc : Int32} {sz : Int32} {Q : Option Value → sW → Prop}  (h : w_8_30 (fun k => Tt d wgL (wk_8 3 k) (wk_8 3 k)) 3  a1 a2 a3 a4 sa sk sf sc sz Q) : Rn d wgL (((84, 5), 3, [(84, 2, 3), (84, 3, 4), (84, 4, 7), (83, 1, 3), (83, 2, 4), (75, 0, 3), (75, 1, 21), (75, 2, 25)]) : wW) (((84, 5), 3, [(84, 2, 3), (84, 3, 4), (84, 4, 7), (83, 1, 3), (83, 2, 4), (75, 0, 3), (75, 1, 21), (75, 2, 25)]) : wW) xL_1 6 (some .int) xE_8 (xE_8.drop 30) [.ref 84, .int a1, .int a2, .int a3, .int a4, .null, .null, .null, .null] [] (sa, sk, sf, sc, sz) Q := by
  unfold w_8_30 at h
  refine n_ld rfl rfl rfl ?_
  refine n_ld rfl rfl rfl ?_
  refine n_ld rfl rfl rfl ?_
  refine n_tt [.ref 84, .int a1, .int a2] [] rfl rfl rfl rfl (Tt.imp h (fun v6 sq h => ?_))
  obtain ⟨sa1, sk2, sf3, sc4, sz5⟩ := sq
  obtain ⟨x7, rfl, h⟩ := h
  change Rn _ _ _ _ _ _ _ _ _ _ [.int x7] _ _
  refine n_go rfl ?_
  exact k_8_39_3 hd hc  h
set_option maxRecDepth 20000 in
theorem k_8_0_3 {d d0 : Nat} (hd : d = d0 + 4) (hc : ∀ p ∈ s_w8, CTR (yex d) p.1 p.2)  {a1 : Int32} {a2 : Int32} {sa : Int32} {sk : Int32} {sf : Int32} {sc : Int32} {sz : Int32} {Q : Option Value → sW → Prop}  (h : w_8_0 (fun k => Tt d wgL (wk_8 3 k) (wk_8 3 k)) 3  a1 a2 sa sk sf sc sz Q) : Rn d wgL (((84, 5), 3, [(84, 2, 3), (84, 3, 4), (84, 4, 7), (83, 1, 3), (83, 2, 4), (75, 0, 3), (75, 1, 21), (75, 2, 25)]) : wW) (((84, 5), 3, [(84, 2, 3), (84, 3, 4), (84, 4, 7), (83, 1, 3), (83, 2, 4), (75, 0, 3), (75, 1, 21), (75, 2, 25)]) : wW) xL_1 6 (some .int) xE_8 (xE_8.drop 0) [.ref 84, .int a1, .int a2, .null, .null, .null, .null, .null, .null] [] (sa, sk, sf, sc, sz) Q := by
  unfold w_8_0 at h
  refine n_ld rfl rfl rfl ?_
  refine n_get (v := .int sa) rfl (hv_f (a := 84) rfl rfl (fun _ _ hw => hw.1.1)) ?_
  refine n_st [.ref 84, .int a1, .int a2, .int sa, .null, .null, .null, .null, .null] rfl rfl rfl ?_
  refine n_ld rfl rfl rfl ?_
  refine n_c [.ref 84, .ref 84] xo_dup rfl rfl ?_
  refine n_get (v := .int sa) rfl (hv_f (a := 84) rfl rfl (fun _ _ hw => hw.1.1)) ?_
  refine n_c [.int 1, .int sa, .ref 84] (xo_push (.int 1)) rfl rfl ?_
  replace h := h _ (i_add (x := sa) (y := 1) rfl (show (1 : Int32).toInt = 1 by decide))
  refine n_c [.int (sa + 1), .ref 84] xo_iadd rfl rfl ?_
  refine n_put (a := 84) (w1 := (((84, 5), 3, [(84, 2, 3), (84, 3, 4), (84, 4, 7), (83, 1, 3), (83, 2, 4), (75, 0, 3), (75, 1, 21), (75, 2, 25)]) : wW)) (s1 := ((sa + 1), sk, sf, sc, sz)) rfl rfl rfl rfl (vK_int _) rfl rfl rfl (Or.inr (Or.inl (by decide +kernel))) (ws_at (w := (((84, 5), 3, [(84, 2, 3), (84, 3, 4), (84, 4, 7), (83, 1, 3), (83, 2, 4), (75, 0, 3), (75, 1, 21), (75, 2, 25)]) : wW)) (s := (sa, sk, sf, sc, sz)) rfl) ?_
  refine n_ld rfl rfl rfl ?_
  refine n_get (v := .ref 7) rfl (hv_C (a := 84) (n := 2) rfl rfl rfl) ?_
  refine n_ld rfl rfl rfl ?_
  refine n_get (v := .int (sa + 1)) rfl (hv_f (a := 84) rfl rfl (fun _ _ hw => hw.1.1)) ?_
  refine n_row (sa + 1) [] (a := 7) hd rfl rfl rfl rfl (fun x2 g1 g2 g3 => ?_)
  replace h := h x2 g2
  refine n_c [.int 40, .int x2] (xo_push (.int 40)) rfl rfl ?_
  refine n_brP rfl rfl ⟨fun hcn => ?_, fun hcn => ?_⟩
  · replace h := h.1 ((i_eq (x := x2) (y := 40) rfl (show (40 : Int32).toInt = 40 by decide)).mp hcn)
    refine n_ld rfl rfl rfl ?_
    refine n_get (v := .ref 3) rfl (hv_C (a := 84) (n := 0) rfl rfl rfl) ?_
    refine n_ld rfl rfl rfl ?_
    refine n_get (v := .ref 3) rfl (hv_C (a := 84) (n := 0) rfl rfl rfl) ?_
    refine n_get (v := .ref 21) rfl (hv_R (a := 3) rfl rfl) ?_
    refine n_ld rfl rfl rfl ?_
    refine n_row a1 [.ref 3] (a := 21) hd rfl rfl rfl rfl (fun x3 g1 g2 g3 => ?_)
    replace h := h x3 
    refine n_ctr [.ref 3, .int x3] [] rfl rfl rfl (hc (49, q_49) (List.mem_of_getElem? (i := 0) rfl)) ⟨⟨_, rfl, cmem_ok rfl⟩, vK_int _, trivial⟩ rfl rfl (fun vq sq hv hk => ?_)
    obtain ⟨sa4, sk5, sf6, sc7, sz8⟩ := sq
    obtain ⟨k1, k2, k3, k4, k5, k6, k7⟩ := hk
    obtain rfl : (sa + 1) = sa4 := (k1 (wmem_no rfl)).symm
    obtain rfl : sk = sk5 := (k2).symm
    obtain rfl : sf = sf6 := (k3 (wmem_no rfl)).symm
    obtain rfl : sc = sc7 := (k5 (wmem_no rfl)).symm
    obtain rfl : sz = sz8 := (k6 (wmem_no rfl)).symm
    obtain ⟨vr, rfl, x9, rfl, hl, hu⟩ := hv
    replace h := h x9 hl hu
    change Rn _ _ _ _ _ _ _ _ _ _ [.int x9] _ _
    refine n_brP rfl rfl ⟨fun hcn => ?_, fun hcn => ?_⟩
    · replace h := h.1 ((i_eq (x := x9) (y := 0) rfl (show (0 : Int32).toInt = 0 by decide)).mp hcn)
      refine n_ld rfl rfl rfl ?_
      refine n_get (v := .int (sa + 1)) rfl (hv_f (a := 84) rfl rfl (fun _ _ hw => hw.1.1)) ?_
      refine n_c [.int 1, .int (sa + 1)] (xo_push (.int 1)) rfl rfl ?_
      replace h := h _ (i_add (x := (sa + 1)) (y := 1) rfl (show (1 : Int32).toInt = 1 by decide))
      refine n_c [.int ((sa + 1) + 1)] xo_iadd rfl rfl ?_
      refine n_st [.ref 84, .int a1, .int a2, .int sa, .int ((sa + 1) + 1), .null, .null, .null, .null] rfl rfl rfl ?_
      refine n_ld rfl rfl rfl ?_
      refine n_get (v := .ref 3) rfl (hv_C (a := 84) (n := 0) rfl rfl rfl) ?_
      refine n_get (v := .int sk) rfl (hv_f (a := 3) rfl rfl (fun _ _ hw => hw.1.2.1)) ?_
      refine n_st [.ref 84, .int a1, .int a2, .int sa, .int ((sa + 1) + 1), .int sk, .null, .null, .null] rfl rfl rfl ?_
      refine n_ld rfl rfl rfl ?_
      refine n_ld rfl rfl rfl ?_
      refine n_get (v := .ref 83) rfl (hv_R (a := 84) rfl rfl) ?_
      refine n_ld rfl rfl rfl ?_
      refine n_c [.int 1, .int ((sa + 1) + 1), .ref 83, .ref 84] (xo_push (.int 1)) rfl rfl ?_
      refine n_tt [.ref 83, .int ((sa + 1) + 1), .int 1] [.ref 84] rfl rfl rfl rfl (Tt.imp h (fun v16 sq h => ?_))
      obtain ⟨sa11, sk12, sf13, sc14, sz15⟩ := sq
      obtain ⟨x17, rfl, h⟩ := h
      change Rn _ _ _ _ _ _ _ _ _ _ [.int x17, .ref 84] _ _
      refine n_c [.int 1, .int x17, .ref 84] (xo_push (.int 1)) rfl rfl ?_
      replace h := h _ (i_add (x := x17) (y := 1) rfl (show (1 : Int32).toInt = 1 by decide))
      refine n_c [.int (x17 + 1), .ref 84] xo_iadd rfl rfl ?_
      refine n_put (a := 84) (w1 := (((84, 5), 3, [(84, 2, 3), (84, 3, 4), (84, 4, 7), (83, 1, 3), (83, 2, 4), (75, 0, 3), (75, 1, 21), (75, 2, 25)]) : wW)) (s1 := ((x17 + 1), sk12, sf13, sc14, sz15)) rfl rfl rfl rfl (vK_int _) rfl rfl rfl (Or.inr (Or.inl (by decide +kernel))) (ws_at (w := (((84, 5), 3, [(84, 2, 3), (84, 3, 4), (84, 4, 7), (83, 1, 3), (83, 2, 4), (75, 0, 3), (75, 1, 21), (75, 2, 25)]) : wW)) (s := (sa11, sk12, sf13, sc14, sz15)) rfl) ?_
      refine n_ld rfl rfl rfl ?_
      refine n_get (v := .ref 83) rfl (hv_R (a := 84) rfl rfl) ?_
      refine n_ld rfl rfl rfl ?_
      refine n_ld rfl rfl rfl ?_
      refine n_get (v := .ref 3) rfl (hv_C (a := 84) (n := 0) rfl rfl rfl) ?_
      refine n_get (v := .int sk12) rfl (hv_f (a := 3) rfl rfl (fun _ _ hw => hw.1.2.1)) ?_
      refine n_ctr [.ref 83, .int sk, .int sk12] [] rfl rfl rfl (hc (135, q_135) (List.mem_of_getElem? (i := 1) rfl)) ⟨⟨_, rfl, cmem_ok rfl⟩, ⟨_, rfl, h.1.1, h.1.2⟩, vK_int _, trivial⟩ rfl rfl (fun vq sq hv hk => ?_)
      replace h := h.2
      obtain ⟨sa19, sk20, sf21, sc22, sz23⟩ := sq
      obtain ⟨k1, k2, k3, k4, k5, k6, k7⟩ := hk
      obtain rfl : (x17 + 1) = sa19 := (k1 (wmem_no rfl)).symm
      obtain rfl : sk12 = sk20 := (k2).symm
      replace h := h sf21 (k4 (wmem_no rfl))
      obtain rfl : sc14 = sc22 := (k5 (wmem_no rfl)).symm
      obtain rfl : sz15 = sz23 := (k6 (wmem_no rfl)).symm
      cases (show vq = none from hv)
      change Rn _ _ _ _ _ _ _ _ _ _ [] _ _
      refine n_ld rfl rfl rfl ?_
      refine n_get (v := .ref 3) rfl (hv_C (a := 84) (n := 0) rfl rfl rfl) ?_
      refine n_get (v := .int sf21) rfl (hv_f (a := 3) rfl rfl (fun _ _ hw => hw.1.2.2.1)) ?_
      refine n_brN rfl rfl ⟨fun hcn => ?_, fun hcn => ?_⟩
      · replace h := h.1 (fun q => hcn ((i_eq (x := sf21) (y := 0) rfl (show (0 : Int32).toInt = 0 by decide)).mpr q))
        exact k_8_106_3 hd hc  h
      · replace h := h.2 ((i_eq (x := sf21) (y := 0) rfl (show (0 : Int32).toInt = 0 by decide)).mp hcn)
        refine n_ld rfl rfl rfl ?_
        refine n_get (v := .ref 3) rfl (hv_C (a := 84) (n := 0) rfl rfl rfl) ?_
        refine n_ld rfl rfl rfl ?_
        refine n_get (v := .ref 3) rfl (hv_C (a := 84) (n := 0) rfl rfl rfl) ?_
        refine n_get (v := .ref 21) rfl (hv_R (a := 3) rfl rfl) ?_
        refine n_ld rfl rfl rfl ?_
        refine n_row sk [.ref 3] (a := 21) hd rfl rfl rfl rfl (fun x24 g1 g2 g3 => ?_)
        replace h := h x24 
        refine n_ctr [.ref 3, .int x24] [] rfl rfl rfl (hc (49, q_49) (List.mem_of_getElem? (i := 0) rfl)) ⟨⟨_, rfl, cmem_ok rfl⟩, vK_int _, trivial⟩ rfl rfl (fun vq sq hv hk => ?_)
        obtain ⟨sa25, sk26, sf27, sc28, sz29⟩ := sq
        obtain ⟨k1, k2, k3, k4, k5, k6, k7⟩ := hk
        obtain rfl : (x17 + 1) = sa25 := (k1 (wmem_no rfl)).symm
        obtain rfl : sk12 = sk26 := (k2).symm
        obtain rfl : sf21 = sf27 := (k3 (wmem_no rfl)).symm
        obtain rfl : sc14 = sc28 := (k5 (wmem_no rfl)).symm
        obtain rfl : sz15 = sz29 := (k6 (wmem_no rfl)).symm
        obtain ⟨vr, rfl, x30, rfl, hl, hu⟩ := hv
        replace h := h x30 hl hu
        change Rn _ _ _ _ _ _ _ _ _ _ [.int x30] _ _
        refine n_brP rfl rfl ⟨fun hcn => ?_, fun hcn => ?_⟩
        · replace h := h.1 ((i_eq (x := x30) (y := 0) rfl (show (0 : Int32).toInt = 0 by decide)).mp hcn)
          exact k_8_106_3 hd hc  h
        · replace h := h.2 (fun q => hcn ((i_eq (x := x30) (y := 0) rfl (show (0 : Int32).toInt = 0 by decide)).mpr q))
          refine n_ld rfl rfl rfl ?_
          refine n_get (v := .ref 3) rfl (hv_C (a := 84) (n := 0) rfl rfl rfl) ?_
          refine n_ld rfl rfl rfl ?_
          refine n_get (v := .ref 75) rfl (hv_R (a := 84) rfl rfl) ?_
          refine n_ld rfl rfl rfl ?_
          refine n_ld rfl rfl rfl ?_
          refine n_get (v := .ref 75) rfl (hv_R (a := 84) rfl rfl) ?_
          refine n_ld rfl rfl rfl ?_
          refine n_ctr [.ref 75, .int a1] [.int sk, .ref 75, .ref 3] rfl rfl rfl (hc (90, q_90) (List.mem_of_getElem? (i := 2) rfl)) ⟨⟨_, rfl, cmem_ok rfl⟩, vK_int _, trivial⟩ rfl rfl (fun vq sq hv hk => ?_)
          obtain ⟨sa31, sk32, sf33, sc34, sz35⟩ := sq
          obtain ⟨k1, k2, k3, k4, k5, k6, k7⟩ := hk
          obtain rfl : (x17 + 1) = sa31 := (k1 (wmem_no rfl)).symm
          obtain rfl : sk12 = sk32 := (k2).symm
          obtain rfl : sf21 = sf33 := (k3 (wmem_no rfl)).symm
          obtain rfl : sc14 = sc34 := (k5 (wmem_no rfl)).symm
          obtain rfl : sz15 = sz35 := (k6 (wmem_no rfl)).symm
          obtain ⟨vr, rfl, x36, rfl, hl, hu⟩ := hv
          replace h := h x36
          change Rn _ _ _ _ _ _ _ _ _ _ [.int x36, .int sk, .ref 75, .ref 3] _ _
          refine n_ctr [.ref 75, .int sk, .int x36] [.ref 3] rfl rfl rfl (hc (88, q_88) (List.mem_of_getElem? (i := 3) rfl)) ⟨⟨_, rfl, cmem_ok rfl⟩, vK_int _, vK_int _, trivial⟩ rfl rfl (fun vq sq hv hk => ?_)
          obtain ⟨sa37, sk38, sf39, sc40, sz41⟩ := sq
          obtain ⟨k1, k2, k3, k4, k5, k6, k7⟩ := hk
          obtain rfl : (x17 + 1) = sa37 := (k1 (wmem_no rfl)).symm
          obtain rfl : sk12 = sk38 := (k2).symm
          obtain rfl : sf21 = sf39 := (k3 (wmem_no rfl)).symm
          obtain rfl : sc14 = sc40 := (k5 (wmem_no rfl)).symm
          obtain rfl : sz15 = sz41 := (k6 (wmem_no rfl)).symm
          obtain ⟨vr, rfl, x42, rfl, hl, hu⟩ := hv
          replace h := h x42 hl hu
          change Rn _ _ _ _ _ _ _ _ _ _ [.int x42, .ref 3] _ _
          refine n_ld rfl rfl rfl ?_
          refine n_tt [.ref 3, .int x42, .int ((sa + 1) + 1)] [] rfl rfl rfl rfl (Tt.imp h (fun v48 sq h => ?_))
          obtain ⟨sa43, sk44, sf45, sc46, sz47⟩ := sq
          obtain ⟨rfl, h⟩ := h
          change Rn _ _ _ _ _ _ _ _ _ _ [] _ _
          exact k_8_106_3 hd hc  h
    · replace h := h.2 (fun q => hcn ((i_eq (x := x9) (y := 0) rfl (show (0 : Int32).toInt = 0 by decide)).mpr q))
      refine n_ld rfl rfl rfl ?_
      refine n_get (v := .ref 3) rfl (hv_C (a := 84) (n := 0) rfl rfl rfl) ?_
      refine n_c [.int 6, .ref 3] (xo_push (.int 6)) rfl rfl ?_
      refine n_ld rfl rfl rfl ?_
      refine n_tt [.ref 3, .int 6, .int sa] [] rfl rfl rfl rfl (Tt.imp h (fun v54 sq h => ?_))
      obtain ⟨sa49, sk50, sf51, sc52, sz53⟩ := sq
      obtain ⟨rfl, h⟩ := h
      change Rn _ _ _ _ _ _ _ _ _ _ [] _ _
      refine n_ld rfl rfl rfl ?_
      exact n_retI rfl h
  · replace h := h.2 (fun q => hcn ((i_eq (x := x2) (y := 40) rfl (show (40 : Int32).toInt = 40 by decide)).mpr q))
    refine n_ld rfl rfl rfl ?_
    refine n_get (v := .ref 7) rfl (hv_C (a := 84) (n := 2) rfl rfl rfl) ?_
    refine n_ld rfl rfl rfl ?_
    refine n_get (v := .int (sa + 1)) rfl (hv_f (a := 84) rfl rfl (fun _ _ hw => hw.1.1)) ?_
    refine n_c [.int 1, .int (sa + 1), .ref 7] (xo_push (.int 1)) rfl rfl ?_
    replace h := h _ (i_add (x := (sa + 1)) (y := 1) rfl (show (1 : Int32).toInt = 1 by decide))
    refine n_c [.int ((sa + 1) + 1), .ref 7] xo_iadd rfl rfl ?_
    refine n_row ((sa + 1) + 1) [] (a := 7) hd rfl rfl rfl rfl (fun x56 g1 g2 g3 => ?_)
    replace h := h x56 g2
    refine n_st [.ref 84, .int a1, .int a2, .int sa, .int x56, .null, .null, .null, .null] rfl rfl rfl ?_
    refine n_ld rfl rfl rfl ?_
    refine n_c [.int 40, .int x56] (xo_push (.int 40)) rfl rfl ?_
    refine n_brP rfl rfl ⟨fun hcn => ?_, fun hcn => ?_⟩
    · replace h := h.1 ((i_eq (x := x56) (y := 40) rfl (show (40 : Int32).toInt = 40 by decide)).mp hcn)
      exact k_8_30_3 hd hc  h
    · replace h := h.2 (fun q => hcn ((i_eq (x := x56) (y := 40) rfl (show (40 : Int32).toInt = 40 by decide)).mpr q))
      refine n_ld rfl rfl rfl ?_
      refine n_c [.int 91, .int x56] (xo_push (.int 91)) rfl rfl ?_
      refine n_brN rfl rfl ⟨fun hcn => ?_, fun hcn => ?_⟩
      · replace h := h.1 (fun q => hcn ((i_eq (x := x56) (y := 91) rfl (show (91 : Int32).toInt = 91 by decide)).mpr q))
        refine n_ld rfl rfl rfl ?_
        refine n_ld rfl rfl rfl ?_
        refine n_ld rfl rfl rfl ?_
        refine n_tt [.ref 84, .int a1, .int sa] [] rfl rfl rfl rfl (Tt.imp h (fun v62 sq h => ?_))
        obtain ⟨sa57, sk58, sf59, sc60, sz61⟩ := sq
        obtain ⟨x63, rfl, h⟩ := h
        change Rn _ _ _ _ _ _ _ _ _ _ [.int x63] _ _
        exact k_8_39_3 hd hc  h
      · replace h := h.2 ((i_eq (x := x56) (y := 91) rfl (show (91 : Int32).toInt = 91 by decide)).mp hcn)
        exact k_8_30_3 hd hc  h
theorem t_8_3 {d : Nat} (hc : ∀ p ∈ s_w8, CTR (yex (d + 4)) p.1 p.2) {a1 : Int32} {a2 : Int32} {sa : Int32} {sk : Int32} {sf : Int32} {sc : Int32} {sz : Int32} {Q : Option Value → sW → Prop} (h : w_8_0 (fun k => Tt (d + 4) wgL (wk_8 3 k) (wk_8 3 k)) 3 a1 a2 sa sk sf sc sz Q) : Tt (d + 5) wgL (((84, 5), 3, [(84, 2, 3), (84, 3, 4), (84, 4, 7), (83, 1, 3), (83, 2, 4), (75, 0, 3), (75, 1, 21), (75, 2, 25)]) : wW) (((84, 5), 3, [(84, 2, 3), (84, 3, 4), (84, 4, 7), (83, 1, 3), (83, 2, 4), (75, 0, 3), (75, 1, 21), (75, 2, 25)]) : wW) 8 [.ref 84, .int a1, .int a2] (sa, sk, sf, sc, sz) Q := tt_of (E := xE_8) (L := xL_1) (ml := 6) (ret := some .int) rfl rfl rfl (k_8_0_3 rfl hc h)
set_option maxRecDepth 20000 in
theorem k_8_106_39 {d d0 : Nat} (hd : d = d0 + 4) (hc : ∀ p ∈ s_w8, CTR (yex d) p.1 p.2)  {a1 : Int32} {a2 : Int32} {a3 : Int32} {a4 : Int32} {a5 : Int32} {sa : Int32} {sk : Int32} {sf : Int32} {sc : Int32} {sz : Int32} {Q : Option Value → sW → Prop}  (h : w_8_106 (fun k => Tt d wgL (wk_8 39 k) (wk_8 39 k)) 39  a1 a2 a3 a4 a5 sa sk sf sc sz Q) : Rn d wgL (((84, 5), 39, [(84, 2, 39), (84, 3, 40), (84, 4, 43), (83, 1, 39), (83, 2, 40), (75, 0, 39), (75, 1, 57), (75, 2, 61)]) : wW) (((84, 5), 39, [(84, 2, 39), (84, 3, 40), (84, 4, 43), (83, 1, 39), (83, 2, 40), (75, 0, 39), (75, 1, 57), (75, 2, 61)]) : wW) xL_1 6 (some .int) xE_8 (xE_8.drop 106) [.ref 84, .int a1, .int a2, .int a3, .int a4, .int a5, .null, .null, .null] [] (sa, sk, sf, sc, sz) Q := by
  unfold w_8_106 at h
  refine n_ld rfl rfl rfl ?_
  refine n_get (v := .ref 39) rfl (hv_C (a := 84) (n := 0) rfl rfl rfl) ?_
  refine n_c [.int 6, .ref 39] (xo_push (.int 6)) rfl rfl ?_
  refine n_ld rfl rfl rfl ?_
  refine n_ld rfl rfl rfl ?_
  refine n_get (v := .ref 40) rfl (hv_C (a := 84) (n := 1) rfl rfl rfl) ?_
  refine n_get (v := .ref 45) rfl (hv_R (a := 40) rfl rfl) ?_
  refine n_ld rfl rfl rfl ?_
  refine n_row a3 [.int a5, .int 6, .ref 39] (a := 45) hd rfl rfl rfl rfl (fun x1 g1 g2 g3 => ?_)
  replace h := h x1 g1
  refine n_c [.int 0, .int x1, .int a5, .int 6, .ref 39] (xo_push (.int 0)) rfl rfl ?_
  refine n_c [.int 0, .int 0, .int x1, .int a5, .int 6, .ref 39] (xo_push (.int 0)) rfl rfl ?_
  refine n_c [.int 0, .int 0, .int 0, .int x1, .int a5, .int 6, .ref 39] (xo_push (.int 0)) rfl rfl ?_
  refine n_tt [.ref 39, .int 6, .int a5, .int x1, .int 0, .int 0, .int 0] [] rfl rfl rfl rfl (Tt.imp h (fun v7 sq h => ?_))
  obtain ⟨sa2, sk3, sf4, sc5, sz6⟩ := sq
  obtain ⟨rfl, h⟩ := h
  change Rn _ _ _ _ _ _ _ _ _ _ [] _ _
  refine n_ld rfl rfl rfl ?_
  exact n_retI rfl h
set_option maxRecDepth 20000 in
theorem k_8_39_39 {d d0 : Nat} (hd : d = d0 + 4) (hc : ∀ p ∈ s_w8, CTR (yex d) p.1 p.2)  {a1 : Int32} {a2 : Int32} {a3 : Int32} {a4 : Int32} {t0 : Int32} {sa : Int32} {sk : Int32} {sf : Int32} {sc : Int32} {sz : Int32} {Q : Option Value → sW → Prop}  (h : w_8_39 (fun k => Tt d wgL (wk_8 39 k) (wk_8 39 k)) 39  a1 a2 a3 a4 t0 sa sk sf sc sz Q) : Rn d wgL (((84, 5), 39, [(84, 2, 39), (84, 3, 40), (84, 4, 43), (83, 1, 39), (83, 2, 40), (75, 0, 39), (75, 1, 57), (75, 2, 61)]) : wW) (((84, 5), 39, [(84, 2, 39), (84, 3, 40), (84, 4, 43), (83, 1, 39), (83, 2, 40), (75, 0, 39), (75, 1, 57), (75, 2, 61)]) : wW) xL_1 6 (some .int) xE_8 (xE_8.drop 39) [.ref 84, .int a1, .int a2, .int a3, .int a4, .null, .null, .null, .null] [.int t0] (sa, sk, sf, sc, sz) Q := by
  unfold w_8_39 at h
  exact n_retI rfl h
set_option maxRecDepth 20000 in
theorem k_8_30_39 {d d0 : Nat} (hd : d = d0 + 4) (hc : ∀ p ∈ s_w8, CTR (yex d) p.1 p.2)  {a1 : Int32} {a2 : Int32} {a3 : Int32} {a4 : Int32} {sa : Int32} {sk : Int32} {sf : Int32} {sc : Int32} {sz : Int32} {Q : Option Value → sW → Prop}  (h : w_8_30 (fun k => Tt d wgL (wk_8 39 k) (wk_8 39 k)) 39  a1 a2 a3 a4 sa sk sf sc sz Q) : Rn d wgL (((84, 5), 39, [(84, 2, 39), (84, 3, 40), (84, 4, 43), (83, 1, 39), (83, 2, 40), (75, 0, 39), (75, 1, 57), (75, 2, 61)]) : wW) (((84, 5), 39, [(84, 2, 39), (84, 3, 40), (84, 4, 43), (83, 1, 39), (83, 2, 40), (75, 0, 39), (75, 1, 57), (75, 2, 61)]) : wW) xL_1 6 (some .int) xE_8 (xE_8.drop 30) [.ref 84, .int a1, .int a2, .int a3, .int a4, .null, .null, .null, .null] [] (sa, sk, sf, sc, sz) Q := by
  unfold w_8_30 at h
  refine n_ld rfl rfl rfl ?_
  refine n_ld rfl rfl rfl ?_
  refine n_ld rfl rfl rfl ?_
  refine n_tt [.ref 84, .int a1, .int a2] [] rfl rfl rfl rfl (Tt.imp h (fun v6 sq h => ?_))
  obtain ⟨sa1, sk2, sf3, sc4, sz5⟩ := sq
  obtain ⟨x7, rfl, h⟩ := h
  change Rn _ _ _ _ _ _ _ _ _ _ [.int x7] _ _
  refine n_go rfl ?_
  exact k_8_39_39 hd hc  h
set_option maxRecDepth 20000 in
theorem k_8_0_39 {d d0 : Nat} (hd : d = d0 + 4) (hc : ∀ p ∈ s_w8, CTR (yex d) p.1 p.2)  {a1 : Int32} {a2 : Int32} {sa : Int32} {sk : Int32} {sf : Int32} {sc : Int32} {sz : Int32} {Q : Option Value → sW → Prop}  (h : w_8_0 (fun k => Tt d wgL (wk_8 39 k) (wk_8 39 k)) 39  a1 a2 sa sk sf sc sz Q) : Rn d wgL (((84, 5), 39, [(84, 2, 39), (84, 3, 40), (84, 4, 43), (83, 1, 39), (83, 2, 40), (75, 0, 39), (75, 1, 57), (75, 2, 61)]) : wW) (((84, 5), 39, [(84, 2, 39), (84, 3, 40), (84, 4, 43), (83, 1, 39), (83, 2, 40), (75, 0, 39), (75, 1, 57), (75, 2, 61)]) : wW) xL_1 6 (some .int) xE_8 (xE_8.drop 0) [.ref 84, .int a1, .int a2, .null, .null, .null, .null, .null, .null] [] (sa, sk, sf, sc, sz) Q := by
  unfold w_8_0 at h
  refine n_ld rfl rfl rfl ?_
  refine n_get (v := .int sa) rfl (hv_f (a := 84) rfl rfl (fun _ _ hw => hw.1.1)) ?_
  refine n_st [.ref 84, .int a1, .int a2, .int sa, .null, .null, .null, .null, .null] rfl rfl rfl ?_
  refine n_ld rfl rfl rfl ?_
  refine n_c [.ref 84, .ref 84] xo_dup rfl rfl ?_
  refine n_get (v := .int sa) rfl (hv_f (a := 84) rfl rfl (fun _ _ hw => hw.1.1)) ?_
  refine n_c [.int 1, .int sa, .ref 84] (xo_push (.int 1)) rfl rfl ?_
  replace h := h _ (i_add (x := sa) (y := 1) rfl (show (1 : Int32).toInt = 1 by decide))
  refine n_c [.int (sa + 1), .ref 84] xo_iadd rfl rfl ?_
  refine n_put (a := 84) (w1 := (((84, 5), 39, [(84, 2, 39), (84, 3, 40), (84, 4, 43), (83, 1, 39), (83, 2, 40), (75, 0, 39), (75, 1, 57), (75, 2, 61)]) : wW)) (s1 := ((sa + 1), sk, sf, sc, sz)) rfl rfl rfl rfl (vK_int _) rfl rfl rfl (Or.inr (Or.inl (by decide +kernel))) (ws_at (w := (((84, 5), 39, [(84, 2, 39), (84, 3, 40), (84, 4, 43), (83, 1, 39), (83, 2, 40), (75, 0, 39), (75, 1, 57), (75, 2, 61)]) : wW)) (s := (sa, sk, sf, sc, sz)) rfl) ?_
  refine n_ld rfl rfl rfl ?_
  refine n_get (v := .ref 43) rfl (hv_C (a := 84) (n := 2) rfl rfl rfl) ?_
  refine n_ld rfl rfl rfl ?_
  refine n_get (v := .int (sa + 1)) rfl (hv_f (a := 84) rfl rfl (fun _ _ hw => hw.1.1)) ?_
  refine n_row (sa + 1) [] (a := 43) hd rfl rfl rfl rfl (fun x2 g1 g2 g3 => ?_)
  replace h := h x2 g2
  refine n_c [.int 40, .int x2] (xo_push (.int 40)) rfl rfl ?_
  refine n_brP rfl rfl ⟨fun hcn => ?_, fun hcn => ?_⟩
  · replace h := h.1 ((i_eq (x := x2) (y := 40) rfl (show (40 : Int32).toInt = 40 by decide)).mp hcn)
    refine n_ld rfl rfl rfl ?_
    refine n_get (v := .ref 39) rfl (hv_C (a := 84) (n := 0) rfl rfl rfl) ?_
    refine n_ld rfl rfl rfl ?_
    refine n_get (v := .ref 39) rfl (hv_C (a := 84) (n := 0) rfl rfl rfl) ?_
    refine n_get (v := .ref 57) rfl (hv_R (a := 39) rfl rfl) ?_
    refine n_ld rfl rfl rfl ?_
    refine n_row a1 [.ref 39] (a := 57) hd rfl rfl rfl rfl (fun x3 g1 g2 g3 => ?_)
    replace h := h x3 
    refine n_ctr [.ref 39, .int x3] [] rfl rfl rfl (hc (49, q_49) (List.mem_of_getElem? (i := 0) rfl)) ⟨⟨_, rfl, cmem_ok rfl⟩, vK_int _, trivial⟩ rfl rfl (fun vq sq hv hk => ?_)
    obtain ⟨sa4, sk5, sf6, sc7, sz8⟩ := sq
    obtain ⟨k1, k2, k3, k4, k5, k6, k7⟩ := hk
    obtain rfl : (sa + 1) = sa4 := (k1 (wmem_no rfl)).symm
    obtain rfl : sk = sk5 := (k2).symm
    obtain rfl : sf = sf6 := (k3 (wmem_no rfl)).symm
    obtain rfl : sc = sc7 := (k5 (wmem_no rfl)).symm
    obtain rfl : sz = sz8 := (k6 (wmem_no rfl)).symm
    obtain ⟨vr, rfl, x9, rfl, hl, hu⟩ := hv
    replace h := h x9 hl hu
    change Rn _ _ _ _ _ _ _ _ _ _ [.int x9] _ _
    refine n_brP rfl rfl ⟨fun hcn => ?_, fun hcn => ?_⟩
    · replace h := h.1 ((i_eq (x := x9) (y := 0) rfl (show (0 : Int32).toInt = 0 by decide)).mp hcn)
      refine n_ld rfl rfl rfl ?_
      refine n_get (v := .int (sa + 1)) rfl (hv_f (a := 84) rfl rfl (fun _ _ hw => hw.1.1)) ?_
      refine n_c [.int 1, .int (sa + 1)] (xo_push (.int 1)) rfl rfl ?_
      replace h := h _ (i_add (x := (sa + 1)) (y := 1) rfl (show (1 : Int32).toInt = 1 by decide))
      refine n_c [.int ((sa + 1) + 1)] xo_iadd rfl rfl ?_
      refine n_st [.ref 84, .int a1, .int a2, .int sa, .int ((sa + 1) + 1), .null, .null, .null, .null] rfl rfl rfl ?_
      refine n_ld rfl rfl rfl ?_
      refine n_get (v := .ref 39) rfl (hv_C (a := 84) (n := 0) rfl rfl rfl) ?_
      refine n_get (v := .int sk) rfl (hv_f (a := 39) rfl rfl (fun _ _ hw => hw.1.2.1)) ?_
      refine n_st [.ref 84, .int a1, .int a2, .int sa, .int ((sa + 1) + 1), .int sk, .null, .null, .null] rfl rfl rfl ?_
      refine n_ld rfl rfl rfl ?_
      refine n_ld rfl rfl rfl ?_
      refine n_get (v := .ref 83) rfl (hv_R (a := 84) rfl rfl) ?_
      refine n_ld rfl rfl rfl ?_
      refine n_c [.int 1, .int ((sa + 1) + 1), .ref 83, .ref 84] (xo_push (.int 1)) rfl rfl ?_
      refine n_tt [.ref 83, .int ((sa + 1) + 1), .int 1] [.ref 84] rfl rfl rfl rfl (Tt.imp h (fun v16 sq h => ?_))
      obtain ⟨sa11, sk12, sf13, sc14, sz15⟩ := sq
      obtain ⟨x17, rfl, h⟩ := h
      change Rn _ _ _ _ _ _ _ _ _ _ [.int x17, .ref 84] _ _
      refine n_c [.int 1, .int x17, .ref 84] (xo_push (.int 1)) rfl rfl ?_
      replace h := h _ (i_add (x := x17) (y := 1) rfl (show (1 : Int32).toInt = 1 by decide))
      refine n_c [.int (x17 + 1), .ref 84] xo_iadd rfl rfl ?_
      refine n_put (a := 84) (w1 := (((84, 5), 39, [(84, 2, 39), (84, 3, 40), (84, 4, 43), (83, 1, 39), (83, 2, 40), (75, 0, 39), (75, 1, 57), (75, 2, 61)]) : wW)) (s1 := ((x17 + 1), sk12, sf13, sc14, sz15)) rfl rfl rfl rfl (vK_int _) rfl rfl rfl (Or.inr (Or.inl (by decide +kernel))) (ws_at (w := (((84, 5), 39, [(84, 2, 39), (84, 3, 40), (84, 4, 43), (83, 1, 39), (83, 2, 40), (75, 0, 39), (75, 1, 57), (75, 2, 61)]) : wW)) (s := (sa11, sk12, sf13, sc14, sz15)) rfl) ?_
      refine n_ld rfl rfl rfl ?_
      refine n_get (v := .ref 83) rfl (hv_R (a := 84) rfl rfl) ?_
      refine n_ld rfl rfl rfl ?_
      refine n_ld rfl rfl rfl ?_
      refine n_get (v := .ref 39) rfl (hv_C (a := 84) (n := 0) rfl rfl rfl) ?_
      refine n_get (v := .int sk12) rfl (hv_f (a := 39) rfl rfl (fun _ _ hw => hw.1.2.1)) ?_
      refine n_ctr [.ref 83, .int sk, .int sk12] [] rfl rfl rfl (hc (135, q_135) (List.mem_of_getElem? (i := 1) rfl)) ⟨⟨_, rfl, cmem_ok rfl⟩, ⟨_, rfl, h.1.1, h.1.2⟩, vK_int _, trivial⟩ rfl rfl (fun vq sq hv hk => ?_)
      replace h := h.2
      obtain ⟨sa19, sk20, sf21, sc22, sz23⟩ := sq
      obtain ⟨k1, k2, k3, k4, k5, k6, k7⟩ := hk
      obtain rfl : (x17 + 1) = sa19 := (k1 (wmem_no rfl)).symm
      obtain rfl : sk12 = sk20 := (k2).symm
      replace h := h sf21 (k4 (wmem_no rfl))
      obtain rfl : sc14 = sc22 := (k5 (wmem_no rfl)).symm
      obtain rfl : sz15 = sz23 := (k6 (wmem_no rfl)).symm
      cases (show vq = none from hv)
      change Rn _ _ _ _ _ _ _ _ _ _ [] _ _
      refine n_ld rfl rfl rfl ?_
      refine n_get (v := .ref 39) rfl (hv_C (a := 84) (n := 0) rfl rfl rfl) ?_
      refine n_get (v := .int sf21) rfl (hv_f (a := 39) rfl rfl (fun _ _ hw => hw.1.2.2.1)) ?_
      refine n_brN rfl rfl ⟨fun hcn => ?_, fun hcn => ?_⟩
      · replace h := h.1 (fun q => hcn ((i_eq (x := sf21) (y := 0) rfl (show (0 : Int32).toInt = 0 by decide)).mpr q))
        exact k_8_106_39 hd hc  h
      · replace h := h.2 ((i_eq (x := sf21) (y := 0) rfl (show (0 : Int32).toInt = 0 by decide)).mp hcn)
        refine n_ld rfl rfl rfl ?_
        refine n_get (v := .ref 39) rfl (hv_C (a := 84) (n := 0) rfl rfl rfl) ?_
        refine n_ld rfl rfl rfl ?_
        refine n_get (v := .ref 39) rfl (hv_C (a := 84) (n := 0) rfl rfl rfl) ?_
        refine n_get (v := .ref 57) rfl (hv_R (a := 39) rfl rfl) ?_
        refine n_ld rfl rfl rfl ?_
        refine n_row sk [.ref 39] (a := 57) hd rfl rfl rfl rfl (fun x24 g1 g2 g3 => ?_)
        replace h := h x24 
        refine n_ctr [.ref 39, .int x24] [] rfl rfl rfl (hc (49, q_49) (List.mem_of_getElem? (i := 0) rfl)) ⟨⟨_, rfl, cmem_ok rfl⟩, vK_int _, trivial⟩ rfl rfl (fun vq sq hv hk => ?_)
        obtain ⟨sa25, sk26, sf27, sc28, sz29⟩ := sq
        obtain ⟨k1, k2, k3, k4, k5, k6, k7⟩ := hk
        obtain rfl : (x17 + 1) = sa25 := (k1 (wmem_no rfl)).symm
        obtain rfl : sk12 = sk26 := (k2).symm
        obtain rfl : sf21 = sf27 := (k3 (wmem_no rfl)).symm
        obtain rfl : sc14 = sc28 := (k5 (wmem_no rfl)).symm
        obtain rfl : sz15 = sz29 := (k6 (wmem_no rfl)).symm
        obtain ⟨vr, rfl, x30, rfl, hl, hu⟩ := hv
        replace h := h x30 hl hu
        change Rn _ _ _ _ _ _ _ _ _ _ [.int x30] _ _
        refine n_brP rfl rfl ⟨fun hcn => ?_, fun hcn => ?_⟩
        · replace h := h.1 ((i_eq (x := x30) (y := 0) rfl (show (0 : Int32).toInt = 0 by decide)).mp hcn)
          exact k_8_106_39 hd hc  h
        · replace h := h.2 (fun q => hcn ((i_eq (x := x30) (y := 0) rfl (show (0 : Int32).toInt = 0 by decide)).mpr q))
          refine n_ld rfl rfl rfl ?_
          refine n_get (v := .ref 39) rfl (hv_C (a := 84) (n := 0) rfl rfl rfl) ?_
          refine n_ld rfl rfl rfl ?_
          refine n_get (v := .ref 75) rfl (hv_R (a := 84) rfl rfl) ?_
          refine n_ld rfl rfl rfl ?_
          refine n_ld rfl rfl rfl ?_
          refine n_get (v := .ref 75) rfl (hv_R (a := 84) rfl rfl) ?_
          refine n_ld rfl rfl rfl ?_
          refine n_ctr [.ref 75, .int a1] [.int sk, .ref 75, .ref 39] rfl rfl rfl (hc (90, q_90) (List.mem_of_getElem? (i := 2) rfl)) ⟨⟨_, rfl, cmem_ok rfl⟩, vK_int _, trivial⟩ rfl rfl (fun vq sq hv hk => ?_)
          obtain ⟨sa31, sk32, sf33, sc34, sz35⟩ := sq
          obtain ⟨k1, k2, k3, k4, k5, k6, k7⟩ := hk
          obtain rfl : (x17 + 1) = sa31 := (k1 (wmem_no rfl)).symm
          obtain rfl : sk12 = sk32 := (k2).symm
          obtain rfl : sf21 = sf33 := (k3 (wmem_no rfl)).symm
          obtain rfl : sc14 = sc34 := (k5 (wmem_no rfl)).symm
          obtain rfl : sz15 = sz35 := (k6 (wmem_no rfl)).symm
          obtain ⟨vr, rfl, x36, rfl, hl, hu⟩ := hv
          replace h := h x36
          change Rn _ _ _ _ _ _ _ _ _ _ [.int x36, .int sk, .ref 75, .ref 39] _ _
          refine n_ctr [.ref 75, .int sk, .int x36] [.ref 39] rfl rfl rfl (hc (88, q_88) (List.mem_of_getElem? (i := 3) rfl)) ⟨⟨_, rfl, cmem_ok rfl⟩, vK_int _, vK_int _, trivial⟩ rfl rfl (fun vq sq hv hk => ?_)
          obtain ⟨sa37, sk38, sf39, sc40, sz41⟩ := sq
          obtain ⟨k1, k2, k3, k4, k5, k6, k7⟩ := hk
          obtain rfl : (x17 + 1) = sa37 := (k1 (wmem_no rfl)).symm
          obtain rfl : sk12 = sk38 := (k2).symm
          obtain rfl : sf21 = sf39 := (k3 (wmem_no rfl)).symm
          obtain rfl : sc14 = sc40 := (k5 (wmem_no rfl)).symm
          obtain rfl : sz15 = sz41 := (k6 (wmem_no rfl)).symm
          obtain ⟨vr, rfl, x42, rfl, hl, hu⟩ := hv
          replace h := h x42 hl hu
          change Rn _ _ _ _ _ _ _ _ _ _ [.int x42, .ref 39] _ _
          refine n_ld rfl rfl rfl ?_
          refine n_tt [.ref 39, .int x42, .int ((sa + 1) + 1)] [] rfl rfl rfl rfl (Tt.imp h (fun v48 sq h => ?_))
          obtain ⟨sa43, sk44, sf45, sc46, sz47⟩ := sq
          obtain ⟨rfl, h⟩ := h
          change Rn _ _ _ _ _ _ _ _ _ _ [] _ _
          exact k_8_106_39 hd hc  h
    · replace h := h.2 (fun q => hcn ((i_eq (x := x9) (y := 0) rfl (show (0 : Int32).toInt = 0 by decide)).mpr q))
      refine n_ld rfl rfl rfl ?_
      refine n_get (v := .ref 39) rfl (hv_C (a := 84) (n := 0) rfl rfl rfl) ?_
      refine n_c [.int 6, .ref 39] (xo_push (.int 6)) rfl rfl ?_
      refine n_ld rfl rfl rfl ?_
      refine n_tt [.ref 39, .int 6, .int sa] [] rfl rfl rfl rfl (Tt.imp h (fun v54 sq h => ?_))
      obtain ⟨sa49, sk50, sf51, sc52, sz53⟩ := sq
      obtain ⟨rfl, h⟩ := h
      change Rn _ _ _ _ _ _ _ _ _ _ [] _ _
      refine n_ld rfl rfl rfl ?_
      exact n_retI rfl h
  · replace h := h.2 (fun q => hcn ((i_eq (x := x2) (y := 40) rfl (show (40 : Int32).toInt = 40 by decide)).mpr q))
    refine n_ld rfl rfl rfl ?_
    refine n_get (v := .ref 43) rfl (hv_C (a := 84) (n := 2) rfl rfl rfl) ?_
    refine n_ld rfl rfl rfl ?_
    refine n_get (v := .int (sa + 1)) rfl (hv_f (a := 84) rfl rfl (fun _ _ hw => hw.1.1)) ?_
    refine n_c [.int 1, .int (sa + 1), .ref 43] (xo_push (.int 1)) rfl rfl ?_
    replace h := h _ (i_add (x := (sa + 1)) (y := 1) rfl (show (1 : Int32).toInt = 1 by decide))
    refine n_c [.int ((sa + 1) + 1), .ref 43] xo_iadd rfl rfl ?_
    refine n_row ((sa + 1) + 1) [] (a := 43) hd rfl rfl rfl rfl (fun x56 g1 g2 g3 => ?_)
    replace h := h x56 g2
    refine n_st [.ref 84, .int a1, .int a2, .int sa, .int x56, .null, .null, .null, .null] rfl rfl rfl ?_
    refine n_ld rfl rfl rfl ?_
    refine n_c [.int 40, .int x56] (xo_push (.int 40)) rfl rfl ?_
    refine n_brP rfl rfl ⟨fun hcn => ?_, fun hcn => ?_⟩
    · replace h := h.1 ((i_eq (x := x56) (y := 40) rfl (show (40 : Int32).toInt = 40 by decide)).mp hcn)
      exact k_8_30_39 hd hc  h
    · replace h := h.2 (fun q => hcn ((i_eq (x := x56) (y := 40) rfl (show (40 : Int32).toInt = 40 by decide)).mpr q))
      refine n_ld rfl rfl rfl ?_
      refine n_c [.int 91, .int x56] (xo_push (.int 91)) rfl rfl ?_
      refine n_brN rfl rfl ⟨fun hcn => ?_, fun hcn => ?_⟩
      · replace h := h.1 (fun q => hcn ((i_eq (x := x56) (y := 91) rfl (show (91 : Int32).toInt = 91 by decide)).mpr q))
        refine n_ld rfl rfl rfl ?_
        refine n_ld rfl rfl rfl ?_
        refine n_ld rfl rfl rfl ?_
        refine n_tt [.ref 84, .int a1, .int sa] [] rfl rfl rfl rfl (Tt.imp h (fun v62 sq h => ?_))
        obtain ⟨sa57, sk58, sf59, sc60, sz61⟩ := sq
        obtain ⟨x63, rfl, h⟩ := h
        change Rn _ _ _ _ _ _ _ _ _ _ [.int x63] _ _
        exact k_8_39_39 hd hc  h
      · replace h := h.2 ((i_eq (x := x56) (y := 91) rfl (show (91 : Int32).toInt = 91 by decide)).mp hcn)
        exact k_8_30_39 hd hc  h
theorem t_8_39 {d : Nat} (hc : ∀ p ∈ s_w8, CTR (yex (d + 4)) p.1 p.2) {a1 : Int32} {a2 : Int32} {sa : Int32} {sk : Int32} {sf : Int32} {sc : Int32} {sz : Int32} {Q : Option Value → sW → Prop} (h : w_8_0 (fun k => Tt (d + 4) wgL (wk_8 39 k) (wk_8 39 k)) 39 a1 a2 sa sk sf sc sz Q) : Tt (d + 5) wgL (((84, 5), 39, [(84, 2, 39), (84, 3, 40), (84, 4, 43), (83, 1, 39), (83, 2, 40), (75, 0, 39), (75, 1, 57), (75, 2, 61)]) : wW) (((84, 5), 39, [(84, 2, 39), (84, 3, 40), (84, 4, 43), (83, 1, 39), (83, 2, 40), (75, 0, 39), (75, 1, 57), (75, 2, 61)]) : wW) 8 [.ref 84, .int a1, .int a2] (sa, sk, sf, sc, sz) Q := tt_of (E := xE_8) (L := xL_1) (ml := 6) (ret := some .int) rfl rfl rfl (k_8_0_39 rfl hc h)
/-! FeatherBench$Bodies.value -/
def wk_7 (P : Nat) : Nat → wW
  | _ => (((84, 5), P, [(84, 2, P), (84, 3, (P + 1)), (84, 4, (P + 4)), (83, 1, P), (83, 2, (P + 1)), (75, 0, P), (75, 1, (P + 18)), (75, 2, (P + 22))]) : wW)
def s_w7 : List (Nat × cSg) := [(91, q_91)]
def w_7_63 (T : Nat → Nat → List Value → sW → (Option Value → sW → Prop) → Prop) (P : Nat)  (a1 : Int32) (a2 : Int32) (a3 : Int32) (a4 : Int32) (a5 : Int32) (sa : Int32) (sk : Int32) (sf : Int32) (sc : Int32) (sz : Int32) (Q : Option Value → sW → Prop) : Prop :=
  Q (some (.int a4)) (sa, sk, sf, sc, sz)
def w_7_38 (T : Nat → Nat → List Value → sW → (Option Value → sW → Prop) → Prop) (P : Nat) (R38 : Int32 → Int32 → Int32 → Int32 → Int32 → Int32 → Int32 → Int32 → Int32 → Int32 → Prop) (a1 : Int32) (a2 : Int32) (a3 : Int32) (a4 : Int32) (a5 : Int32) (sa : Int32) (sk : Int32) (sf : Int32) (sc : Int32) (sz : Int32) (Q : Option Value → sW → Prop) : Prop :=
  (20 ≤ a5.toInt → w_7_63 T P  a1 a2 a3 a4 a5 sa sk sf sc sz Q) ∧ (¬ (20 ≤ a5.toInt) → (¬ (sf.toInt = 0) → w_7_63 T P  a1 a2 a3 a4 a5 sa sk sf sc sz Q) ∧ (sf.toInt = 0 → ∀ x1 : Int32, (¬ x1.toInt = 0 → 0 ≤ sa.toInt ∧ sa.toInt < 4002) → (¬ (x1.toInt = 46) → w_7_63 T P  a1 a2 a3 a4 a5 sa sk sf sc sz Q) ∧ (x1.toInt = 46 → T 0 8 [.ref 84, .int a4, .int a1] (sa, sk, sf, sc, sz) (fun v7 (sa2, sk3, sf4, sc5, sz6) => ∃ x8, v7 = some (.int x8) ∧ (∀ x14 : Int32, ∀ x15 : Int32, (-2147483648 ≤ a5.toInt + 1 ∧ a5.toInt + 1 ≤ 2147483647 → x15.toInt = a5.toInt + 1) → R38 a1 a2 a3 x14 x15 sa2 sk3 sf4 sc5 sz6)))))
def wl_7_38 (T : Nat → Nat → List Value → sW → (Option Value → sW → Prop) → Prop) (P : Nat)  (a1 : Int32) (a2 : Int32) (a3 : Int32) (a4 : Int32) (a5 : Int32) (sa : Int32) (sk : Int32) (sf : Int32) (sc : Int32) (sz : Int32) (Q : Option Value → sW → Prop) : Prop :=
  ∃ (I : Int32 → Int32 → Int32 → Int32 → Int32 → Int32 → Int32 → Int32 → Int32 → Int32 → Prop) (μ : Int32 → Int32 → Int32 → Int32 → Int32 → Int32 → Int32 → Int32 → Int32 → Int32 → Nat), I a1 a2 a3 a4 a5 sa sk sf sc sz ∧ ∀ (a1 : Int32) (a2 : Int32) (a3 : Int32) (a4 : Int32) (a5 : Int32) (sa : Int32) (sk : Int32) (sf : Int32) (sc : Int32) (sz : Int32), I a1 a2 a3 a4 a5 sa sk sf sc sz → w_7_38 T P (fun a1' a2' a3' a4' a5' sa' sk' sf' sc' sz' => I a1' a2' a3' a4' a5' sa' sk' sf' sc' sz' ∧ μ a1' a2' a3' a4' a5' sa' sk' sf' sc' sz' < μ a1 a2 a3 a4 a5 sa sk sf sc sz) a1 a2 a3 a4 a5 sa sk sf sc sz Q
def w_7_35 (T : Nat → Nat → List Value → sW → (Option Value → sW → Prop) → Prop) (P : Nat)  (a1 : Int32) (a2 : Int32) (a3 : Int32) (t0 : Int32) (sa : Int32) (sk : Int32) (sf : Int32) (sc : Int32) (sz : Int32) (Q : Option Value → sW → Prop) : Prop :=
  wl_7_38 T P  a1 a2 a3 t0 0 sa sk sf sc sz Q
def w_7_29 (T : Nat → Nat → List Value → sW → (Option Value → sW → Prop) → Prop) (P : Nat)  (a1 : Int32) (a2 : Int32) (a3 : Int32) (sa : Int32) (sk : Int32) (sf : Int32) (sc : Int32) (sz : Int32) (Q : Option Value → sW → Prop) : Prop :=
  T 0 10 [.ref 84, .int a1] (sa, sk, sf, sc, sz) (fun v6 (sa1, sk2, sf3, sc4, sz5) => ∃ x7, v6 = some (.int x7) ∧ (w_7_35 T P  a1 a2 a3 x7 sa1 sk2 sf3 sc4 sz5 Q))
def w_7_0 (T : Nat → Nat → List Value → sW → (Option Value → sW → Prop) → Prop) (P : Nat)  (a1 : Int32) (sa : Int32) (sk : Int32) (sf : Int32) (sc : Int32) (sz : Int32) (Q : Option Value → sW → Prop) : Prop :=
  ∀ x1 : Int32, (a1.toInt ≤ 10 → ∀ x2 : Int32, (-2147483648 ≤ sa.toInt + 1 ∧ sa.toInt + 1 ≤ 2147483647 → x2.toInt = sa.toInt + 1) → ∀ x3 : Int32, (¬ x3.toInt = 0 → 0 ≤ x2.toInt ∧ x2.toInt < 4002) → (x3.toInt = 123 → w_7_29 T P  a1 x1 x3 sa sk sf sc sz Q) ∧ (¬ (x3.toInt = 123) → (¬ (x3.toInt = 91) → T 0 9 [.ref 84] (sa, sk, sf, sc, sz) (fun v9 (sa4, sk5, sf6, sc7, sz8) => ∃ x10, v9 = some (.int x10) ∧ (w_7_35 T P  a1 x1 x3 x10 sa4 sk5 sf6 sc7 sz8 Q))) ∧ (x3.toInt = 91 → w_7_29 T P  a1 x1 x3 sa sk sf sc sz Q))) ∧ (¬ (a1.toInt ≤ 10) → T 0 38 [.ref P, .int 5, .int sa] (sa, sk, sf, sc, sz) (fun v16 (sa11, sk12, sf13, sc14, sz15) => v16 = none ∧ (Q (some (.int x1)) (sa11, sk12, sf13, sc14, sz15))))
set_option maxRecDepth 20000 in
theorem k_7_63_3 {d d0 : Nat} (hd : d = d0 + 4) (hc : ∀ p ∈ s_w7, CTR (yex d) p.1 p.2)  {a1 : Int32} {a2 : Int32} {a3 : Int32} {a4 : Int32} {a5 : Int32} {sa : Int32} {sk : Int32} {sf : Int32} {sc : Int32} {sz : Int32} {Q : Option Value → sW → Prop}  (h : w_7_63 (fun k => Tt d wgL (wk_7 3 k) (wk_7 3 k)) 3  a1 a2 a3 a4 a5 sa sk sf sc sz Q) : Rn d wgL (((84, 5), 3, [(84, 2, 3), (84, 3, 4), (84, 4, 7), (83, 1, 3), (83, 2, 4), (75, 0, 3), (75, 1, 21), (75, 2, 25)]) : wW) (((84, 5), 3, [(84, 2, 3), (84, 3, 4), (84, 4, 7), (83, 1, 3), (83, 2, 4), (75, 0, 3), (75, 1, 21), (75, 2, 25)]) : wW) xL_1 6 (some .int) xE_7 (xE_7.drop 63) [.ref 84, .int a1, .int a2, .int a3, .int a4, .int a5, .null, .null] [] (sa, sk, sf, sc, sz) Q := by
  unfold w_7_63 at h
  refine n_ld rfl rfl rfl ?_
  exact n_retI rfl h
set_option maxRecDepth 20000 in
theorem k_7_38_3 {d d0 : Nat} (hd : d = d0 + 4) (hc : ∀ p ∈ s_w7, CTR (yex d) p.1 p.2) {R38 : Int32 → Int32 → Int32 → Int32 → Int32 → Int32 → Int32 → Int32 → Int32 → Int32 → Prop} {a1 : Int32} {a2 : Int32} {a3 : Int32} {a4 : Int32} {a5 : Int32} {sa : Int32} {sk : Int32} {sf : Int32} {sc : Int32} {sz : Int32} {Q : Option Value → sW → Prop} (r38 : ∀ a1 a2 a3 a4 a5 sa sk sf sc sz, R38 a1 a2 a3 a4 a5 sa sk sf sc sz → Rn d wgL (((84, 5), 3, [(84, 2, 3), (84, 3, 4), (84, 4, 7), (83, 1, 3), (83, 2, 4), (75, 0, 3), (75, 1, 21), (75, 2, 25)]) : wW) (((84, 5), 3, [(84, 2, 3), (84, 3, 4), (84, 4, 7), (83, 1, 3), (83, 2, 4), (75, 0, 3), (75, 1, 21), (75, 2, 25)]) : wW) xL_1 6 (some .int) xE_7 (xE_7.drop 38) [.ref 84, .int a1, .int a2, .int a3, .int a4, .int a5, .null, .null] [] (sa, sk, sf, sc, sz) Q) (h : w_7_38 (fun k => Tt d wgL (wk_7 3 k) (wk_7 3 k)) 3 R38 a1 a2 a3 a4 a5 sa sk sf sc sz Q) : Rn d wgL (((84, 5), 3, [(84, 2, 3), (84, 3, 4), (84, 4, 7), (83, 1, 3), (83, 2, 4), (75, 0, 3), (75, 1, 21), (75, 2, 25)]) : wW) (((84, 5), 3, [(84, 2, 3), (84, 3, 4), (84, 4, 7), (83, 1, 3), (83, 2, 4), (75, 0, 3), (75, 1, 21), (75, 2, 25)]) : wW) xL_1 6 (some .int) xE_7 (xE_7.drop 38) [.ref 84, .int a1, .int a2, .int a3, .int a4, .int a5, .null, .null] [] (sa, sk, sf, sc, sz) Q := by
  unfold w_7_38 at h
  refine n_ld rfl rfl rfl ?_
  refine n_c [.int 20, .int a5] (xo_push (.int 20)) rfl rfl ?_
  refine n_brP rfl rfl ⟨fun hcn => ?_, fun hcn => ?_⟩
  · replace h := h.1 ((i_le (x := 20) (y := a5) (show (20 : Int32).toInt = 20 by decide) rfl).mp hcn)
    exact k_7_63_3 hd hc  h
  · replace h := h.2 (fun q => hcn ((i_le (x := 20) (y := a5) (show (20 : Int32).toInt = 20 by decide) rfl).mpr q))
    refine n_ld rfl rfl rfl ?_
    refine n_get (v := .ref 3) rfl (hv_C (a := 84) (n := 0) rfl rfl rfl) ?_
    refine n_get (v := .int sf) rfl (hv_f (a := 3) rfl rfl (fun _ _ hw => hw.1.2.2.1)) ?_
    refine n_brN rfl rfl ⟨fun hcn => ?_, fun hcn => ?_⟩
    · replace h := h.1 (fun q => hcn ((i_eq (x := sf) (y := 0) rfl (show (0 : Int32).toInt = 0 by decide)).mpr q))
      exact k_7_63_3 hd hc  h
    · replace h := h.2 ((i_eq (x := sf) (y := 0) rfl (show (0 : Int32).toInt = 0 by decide)).mp hcn)
      refine n_ld rfl rfl rfl ?_
      refine n_get (v := .ref 7) rfl (hv_C (a := 84) (n := 2) rfl rfl rfl) ?_
      refine n_ld rfl rfl rfl ?_
      refine n_get (v := .int sa) rfl (hv_f (a := 84) rfl rfl (fun _ _ hw => hw.1.1)) ?_
      refine n_row sa [] (a := 7) hd rfl rfl rfl rfl (fun x1 g1 g2 g3 => ?_)
      replace h := h x1 g2
      refine n_c [.int 46, .int x1] (xo_push (.int 46)) rfl rfl ?_
      refine n_brN rfl rfl ⟨fun hcn => ?_, fun hcn => ?_⟩
      · replace h := h.1 (fun q => hcn ((i_eq (x := x1) (y := 46) rfl (show (46 : Int32).toInt = 46 by decide)).mpr q))
        exact k_7_63_3 hd hc  h
      · replace h := h.2 ((i_eq (x := x1) (y := 46) rfl (show (46 : Int32).toInt = 46 by decide)).mp hcn)
        refine n_ld rfl rfl rfl ?_
        refine n_get (v := .ref 75) rfl (hv_R (a := 84) rfl rfl) ?_
        refine n_ld rfl rfl rfl ?_
        refine n_ld rfl rfl rfl ?_
        refine n_ld rfl rfl rfl ?_
        refine n_tt [.ref 84, .int a4, .int a1] [.ref 75] rfl rfl rfl rfl (Tt.imp h (fun v7 sq h => ?_))
        obtain ⟨sa2, sk3, sf4, sc5, sz6⟩ := sq
        obtain ⟨x8, rfl, h⟩ := h
        change Rn _ _ _ _ _ _ _ _ _ _ [.int x8, .ref 75] _ _
        refine n_ld rfl rfl rfl ?_
        refine n_ctr [.ref 75, .int x8, .int a2] [] rfl rfl rfl (hc (91, q_91) (List.mem_of_getElem? (i := 0) rfl)) ⟨⟨_, rfl, cmem_ok rfl⟩, vK_int _, vK_int _, trivial⟩ rfl rfl (fun vq sq hv hk => ?_)
        obtain ⟨sa9, sk10, sf11, sc12, sz13⟩ := sq
        obtain ⟨k1, k2, k3, k4, k5, k6, k7⟩ := hk
        obtain rfl : sa2 = sa9 := (k1 (wmem_no rfl)).symm
        obtain rfl : sk3 = sk10 := (k2).symm
        obtain rfl : sf4 = sf11 := (k3 (wmem_no rfl)).symm
        obtain rfl : sc5 = sc12 := (k5 (wmem_no rfl)).symm
        obtain rfl : sz6 = sz13 := (k6 (wmem_no rfl)).symm
        obtain ⟨vr, rfl, x14, rfl, hl, hu⟩ := hv
        replace h := h x14
        change Rn _ _ _ _ _ _ _ _ _ _ [.int x14] _ _
        refine n_st [.ref 84, .int a1, .int a2, .int a3, .int x14, .int a5, .null, .null] rfl rfl rfl ?_
        replace h := h _ (i_add (x := a5) (y := 1) rfl (show (1 : Int32).toInt = 1 by decide))
        refine n_inc [.ref 84, .int a1, .int a2, .int a3, .int x14, .int (a5 + 1), .null, .null] rfl rfl rfl rfl ?_
        refine n_go rfl ?_
        exact r38 a1 a2 a3 x14 (a5 + 1) sa2 sk3 sf4 sc5 sz6 h
theorem kl_7_38_3 {d d0 : Nat} (hd : d = d0 + 4) (hc : ∀ p ∈ s_w7, CTR (yex d) p.1 p.2)  {a1 : Int32} {a2 : Int32} {a3 : Int32} {a4 : Int32} {a5 : Int32} {sa : Int32} {sk : Int32} {sf : Int32} {sc : Int32} {sz : Int32} {Q : Option Value → sW → Prop}  (h : wl_7_38 (fun k => Tt d wgL (wk_7 3 k) (wk_7 3 k)) 3  a1 a2 a3 a4 a5 sa sk sf sc sz Q) : Rn d wgL (((84, 5), 3, [(84, 2, 3), (84, 3, 4), (84, 4, 7), (83, 1, 3), (83, 2, 4), (75, 0, 3), (75, 1, 21), (75, 2, 25)]) : wW) (((84, 5), 3, [(84, 2, 3), (84, 3, 4), (84, 4, 7), (83, 1, 3), (83, 2, 4), (75, 0, 3), (75, 1, 21), (75, 2, 25)]) : wW) xL_1 6 (some .int) xE_7 (xE_7.drop 38) [.ref 84, .int a1, .int a2, .int a3, .int a4, .int a5, .null, .null] [] (sa, sk, sf, sc, sz) Q := by
  obtain ⟨I, μ, h0, h1⟩ := h
  have key : ∀ (n : Nat) (a1 : Int32) (a2 : Int32) (a3 : Int32) (a4 : Int32) (a5 : Int32) (sa : Int32) (sk : Int32) (sf : Int32) (sc : Int32) (sz : Int32), μ a1 a2 a3 a4 a5 sa sk sf sc sz = n → I a1 a2 a3 a4 a5 sa sk sf sc sz → Rn d wgL (((84, 5), 3, [(84, 2, 3), (84, 3, 4), (84, 4, 7), (83, 1, 3), (83, 2, 4), (75, 0, 3), (75, 1, 21), (75, 2, 25)]) : wW) (((84, 5), 3, [(84, 2, 3), (84, 3, 4), (84, 4, 7), (83, 1, 3), (83, 2, 4), (75, 0, 3), (75, 1, 21), (75, 2, 25)]) : wW) xL_1 6 (some .int) xE_7 (xE_7.drop 38) [.ref 84, .int a1, .int a2, .int a3, .int a4, .int a5, .null, .null] [] (sa, sk, sf, sc, sz) Q := by
    intro n
    induction n using Nat.strongRecOn with
    | ind n ih =>
      intro a1 a2 a3 a4 a5 sa sk sf sc sz e hI
      exact k_7_38_3 hd hc (fun a1' a2' a3' a4' a5' sa' sk' sf' sc' sz' q => ih _ (by rw [← e]; exact q.2) a1' a2' a3' a4' a5' sa' sk' sf' sc' sz' rfl q.1) (h1 a1 a2 a3 a4 a5 sa sk sf sc sz hI)
  exact key _ a1 a2 a3 a4 a5 sa sk sf sc sz rfl h0
set_option maxRecDepth 20000 in
theorem k_7_35_3 {d d0 : Nat} (hd : d = d0 + 4) (hc : ∀ p ∈ s_w7, CTR (yex d) p.1 p.2)  {a1 : Int32} {a2 : Int32} {a3 : Int32} {t0 : Int32} {sa : Int32} {sk : Int32} {sf : Int32} {sc : Int32} {sz : Int32} {Q : Option Value → sW → Prop}  (h : w_7_35 (fun k => Tt d wgL (wk_7 3 k) (wk_7 3 k)) 3  a1 a2 a3 t0 sa sk sf sc sz Q) : Rn d wgL (((84, 5), 3, [(84, 2, 3), (84, 3, 4), (84, 4, 7), (83, 1, 3), (83, 2, 4), (75, 0, 3), (75, 1, 21), (75, 2, 25)]) : wW) (((84, 5), 3, [(84, 2, 3), (84, 3, 4), (84, 4, 7), (83, 1, 3), (83, 2, 4), (75, 0, 3), (75, 1, 21), (75, 2, 25)]) : wW) xL_1 6 (some .int) xE_7 (xE_7.drop 35) [.ref 84, .int a1, .int a2, .int a3, .null, .null, .null, .null] [.int t0] (sa, sk, sf, sc, sz) Q := by
  unfold w_7_35 at h
  refine n_st [.ref 84, .int a1, .int a2, .int a3, .int t0, .null, .null, .null] rfl rfl rfl ?_
  refine n_c [.int 0] (xo_push (.int 0)) rfl rfl ?_
  refine n_st [.ref 84, .int a1, .int a2, .int a3, .int t0, .int 0, .null, .null] rfl rfl rfl ?_
  exact kl_7_38_3 hd hc  h
set_option maxRecDepth 20000 in
theorem k_7_29_3 {d d0 : Nat} (hd : d = d0 + 4) (hc : ∀ p ∈ s_w7, CTR (yex d) p.1 p.2)  {a1 : Int32} {a2 : Int32} {a3 : Int32} {sa : Int32} {sk : Int32} {sf : Int32} {sc : Int32} {sz : Int32} {Q : Option Value → sW → Prop}  (h : w_7_29 (fun k => Tt d wgL (wk_7 3 k) (wk_7 3 k)) 3  a1 a2 a3 sa sk sf sc sz Q) : Rn d wgL (((84, 5), 3, [(84, 2, 3), (84, 3, 4), (84, 4, 7), (83, 1, 3), (83, 2, 4), (75, 0, 3), (75, 1, 21), (75, 2, 25)]) : wW) (((84, 5), 3, [(84, 2, 3), (84, 3, 4), (84, 4, 7), (83, 1, 3), (83, 2, 4), (75, 0, 3), (75, 1, 21), (75, 2, 25)]) : wW) xL_1 6 (some .int) xE_7 (xE_7.drop 29) [.ref 84, .int a1, .int a2, .int a3, .null, .null, .null, .null] [] (sa, sk, sf, sc, sz) Q := by
  unfold w_7_29 at h
  refine n_ld rfl rfl rfl ?_
  refine n_ld rfl rfl rfl ?_
  refine n_tt [.ref 84, .int a1] [] rfl rfl rfl rfl (Tt.imp h (fun v6 sq h => ?_))
  obtain ⟨sa1, sk2, sf3, sc4, sz5⟩ := sq
  obtain ⟨x7, rfl, h⟩ := h
  change Rn _ _ _ _ _ _ _ _ _ _ [.int x7] _ _
  refine n_go rfl ?_
  exact k_7_35_3 hd hc  h
set_option maxRecDepth 20000 in
theorem k_7_0_3 {d d0 : Nat} (hd : d = d0 + 4) (hc : ∀ p ∈ s_w7, CTR (yex d) p.1 p.2)  {a1 : Int32} {sa : Int32} {sk : Int32} {sf : Int32} {sc : Int32} {sz : Int32} {Q : Option Value → sW → Prop}  (h : w_7_0 (fun k => Tt d wgL (wk_7 3 k) (wk_7 3 k)) 3  a1 sa sk sf sc sz Q) : Rn d wgL (((84, 5), 3, [(84, 2, 3), (84, 3, 4), (84, 4, 7), (83, 1, 3), (83, 2, 4), (75, 0, 3), (75, 1, 21), (75, 2, 25)]) : wW) (((84, 5), 3, [(84, 2, 3), (84, 3, 4), (84, 4, 7), (83, 1, 3), (83, 2, 4), (75, 0, 3), (75, 1, 21), (75, 2, 25)]) : wW) xL_1 6 (some .int) xE_7 (xE_7.drop 0) [.ref 84, .int a1, .null, .null, .null, .null, .null, .null] [] (sa, sk, sf, sc, sz) Q := by
  unfold w_7_0 at h
  refine n_ld rfl rfl rfl ?_
  refine n_get (v := .ref 75) rfl (hv_R (a := 84) rfl rfl) ?_
  refine n_getI (a := 75) rfl rfl rfl (fun x1 hl hu => ?_)
  replace h := h x1
  refine n_st [.ref 84, .int a1, .int x1, .null, .null, .null, .null, .null] rfl rfl rfl ?_
  refine n_ld rfl rfl rfl ?_
  refine n_c [.int 10, .int a1] (xo_push (.int 10)) rfl rfl ?_
  refine n_brP rfl rfl ⟨fun hcn => ?_, fun hcn => ?_⟩
  · replace h := h.1 ((i_le (x := a1) (y := 10) rfl (show (10 : Int32).toInt = 10 by decide)).mp hcn)
    refine n_ld rfl rfl rfl ?_
    refine n_get (v := .ref 7) rfl (hv_C (a := 84) (n := 2) rfl rfl rfl) ?_
    refine n_ld rfl rfl rfl ?_
    refine n_get (v := .int sa) rfl (hv_f (a := 84) rfl rfl (fun _ _ hw => hw.1.1)) ?_
    refine n_c [.int 1, .int sa, .ref 7] (xo_push (.int 1)) rfl rfl ?_
    replace h := h _ (i_add (x := sa) (y := 1) rfl (show (1 : Int32).toInt = 1 by decide))
    refine n_c [.int (sa + 1), .ref 7] xo_iadd rfl rfl ?_
    refine n_row (sa + 1) [] (a := 7) hd rfl rfl rfl rfl (fun x3 g1 g2 g3 => ?_)
    replace h := h x3 g2
    refine n_st [.ref 84, .int a1, .int x1, .int x3, .null, .null, .null, .null] rfl rfl rfl ?_
    refine n_ld rfl rfl rfl ?_
    refine n_c [.int 123, .int x3] (xo_push (.int 123)) rfl rfl ?_
    refine n_brP rfl rfl ⟨fun hcn => ?_, fun hcn => ?_⟩
    · replace h := h.1 ((i_eq (x := x3) (y := 123) rfl (show (123 : Int32).toInt = 123 by decide)).mp hcn)
      exact k_7_29_3 hd hc  h
    · replace h := h.2 (fun q => hcn ((i_eq (x := x3) (y := 123) rfl (show (123 : Int32).toInt = 123 by decide)).mpr q))
      refine n_ld rfl rfl rfl ?_
      refine n_c [.int 91, .int x3] (xo_push (.int 91)) rfl rfl ?_
      refine n_brN rfl rfl ⟨fun hcn => ?_, fun hcn => ?_⟩
      · replace h := h.1 (fun q => hcn ((i_eq (x := x3) (y := 91) rfl (show (91 : Int32).toInt = 91 by decide)).mpr q))
        refine n_ld rfl rfl rfl ?_
        refine n_tt [.ref 84] [] rfl rfl rfl rfl (Tt.imp h (fun v9 sq h => ?_))
        obtain ⟨sa4, sk5, sf6, sc7, sz8⟩ := sq
        obtain ⟨x10, rfl, h⟩ := h
        change Rn _ _ _ _ _ _ _ _ _ _ [.int x10] _ _
        exact k_7_35_3 hd hc  h
      · replace h := h.2 ((i_eq (x := x3) (y := 91) rfl (show (91 : Int32).toInt = 91 by decide)).mp hcn)
        exact k_7_29_3 hd hc  h
  · replace h := h.2 (fun q => hcn ((i_le (x := a1) (y := 10) rfl (show (10 : Int32).toInt = 10 by decide)).mpr q))
    refine n_ld rfl rfl rfl ?_
    refine n_get (v := .ref 3) rfl (hv_C (a := 84) (n := 0) rfl rfl rfl) ?_
    refine n_c [.int 5, .ref 3] (xo_push (.int 5)) rfl rfl ?_
    refine n_ld rfl rfl rfl ?_
    refine n_get (v := .int sa) rfl (hv_f (a := 84) rfl rfl (fun _ _ hw => hw.1.1)) ?_
    refine n_tt [.ref 3, .int 5, .int sa] [] rfl rfl rfl rfl (Tt.imp h (fun v16 sq h => ?_))
    obtain ⟨sa11, sk12, sf13, sc14, sz15⟩ := sq
    obtain ⟨rfl, h⟩ := h
    change Rn _ _ _ _ _ _ _ _ _ _ [] _ _
    refine n_ld rfl rfl rfl ?_
    exact n_retI rfl h
theorem t_7_3 {d : Nat} (hc : ∀ p ∈ s_w7, CTR (yex (d + 4)) p.1 p.2) {a1 : Int32} {sa : Int32} {sk : Int32} {sf : Int32} {sc : Int32} {sz : Int32} {Q : Option Value → sW → Prop} (h : w_7_0 (fun k => Tt (d + 4) wgL (wk_7 3 k) (wk_7 3 k)) 3 a1 sa sk sf sc sz Q) : Tt (d + 5) wgL (((84, 5), 3, [(84, 2, 3), (84, 3, 4), (84, 4, 7), (83, 1, 3), (83, 2, 4), (75, 0, 3), (75, 1, 21), (75, 2, 25)]) : wW) (((84, 5), 3, [(84, 2, 3), (84, 3, 4), (84, 4, 7), (83, 1, 3), (83, 2, 4), (75, 0, 3), (75, 1, 21), (75, 2, 25)]) : wW) 7 [.ref 84, .int a1] (sa, sk, sf, sc, sz) Q := tt_of (E := xE_7) (L := xL_1) (ml := 6) (ret := some .int) rfl rfl rfl (k_7_0_3 rfl hc h)
set_option maxRecDepth 20000 in
theorem k_7_63_39 {d d0 : Nat} (hd : d = d0 + 4) (hc : ∀ p ∈ s_w7, CTR (yex d) p.1 p.2)  {a1 : Int32} {a2 : Int32} {a3 : Int32} {a4 : Int32} {a5 : Int32} {sa : Int32} {sk : Int32} {sf : Int32} {sc : Int32} {sz : Int32} {Q : Option Value → sW → Prop}  (h : w_7_63 (fun k => Tt d wgL (wk_7 39 k) (wk_7 39 k)) 39  a1 a2 a3 a4 a5 sa sk sf sc sz Q) : Rn d wgL (((84, 5), 39, [(84, 2, 39), (84, 3, 40), (84, 4, 43), (83, 1, 39), (83, 2, 40), (75, 0, 39), (75, 1, 57), (75, 2, 61)]) : wW) (((84, 5), 39, [(84, 2, 39), (84, 3, 40), (84, 4, 43), (83, 1, 39), (83, 2, 40), (75, 0, 39), (75, 1, 57), (75, 2, 61)]) : wW) xL_1 6 (some .int) xE_7 (xE_7.drop 63) [.ref 84, .int a1, .int a2, .int a3, .int a4, .int a5, .null, .null] [] (sa, sk, sf, sc, sz) Q := by
  unfold w_7_63 at h
  refine n_ld rfl rfl rfl ?_
  exact n_retI rfl h
set_option maxRecDepth 20000 in
theorem k_7_38_39 {d d0 : Nat} (hd : d = d0 + 4) (hc : ∀ p ∈ s_w7, CTR (yex d) p.1 p.2) {R38 : Int32 → Int32 → Int32 → Int32 → Int32 → Int32 → Int32 → Int32 → Int32 → Int32 → Prop} {a1 : Int32} {a2 : Int32} {a3 : Int32} {a4 : Int32} {a5 : Int32} {sa : Int32} {sk : Int32} {sf : Int32} {sc : Int32} {sz : Int32} {Q : Option Value → sW → Prop} (r38 : ∀ a1 a2 a3 a4 a5 sa sk sf sc sz, R38 a1 a2 a3 a4 a5 sa sk sf sc sz → Rn d wgL (((84, 5), 39, [(84, 2, 39), (84, 3, 40), (84, 4, 43), (83, 1, 39), (83, 2, 40), (75, 0, 39), (75, 1, 57), (75, 2, 61)]) : wW) (((84, 5), 39, [(84, 2, 39), (84, 3, 40), (84, 4, 43), (83, 1, 39), (83, 2, 40), (75, 0, 39), (75, 1, 57), (75, 2, 61)]) : wW) xL_1 6 (some .int) xE_7 (xE_7.drop 38) [.ref 84, .int a1, .int a2, .int a3, .int a4, .int a5, .null, .null] [] (sa, sk, sf, sc, sz) Q) (h : w_7_38 (fun k => Tt d wgL (wk_7 39 k) (wk_7 39 k)) 39 R38 a1 a2 a3 a4 a5 sa sk sf sc sz Q) : Rn d wgL (((84, 5), 39, [(84, 2, 39), (84, 3, 40), (84, 4, 43), (83, 1, 39), (83, 2, 40), (75, 0, 39), (75, 1, 57), (75, 2, 61)]) : wW) (((84, 5), 39, [(84, 2, 39), (84, 3, 40), (84, 4, 43), (83, 1, 39), (83, 2, 40), (75, 0, 39), (75, 1, 57), (75, 2, 61)]) : wW) xL_1 6 (some .int) xE_7 (xE_7.drop 38) [.ref 84, .int a1, .int a2, .int a3, .int a4, .int a5, .null, .null] [] (sa, sk, sf, sc, sz) Q := by
  unfold w_7_38 at h
  refine n_ld rfl rfl rfl ?_
  refine n_c [.int 20, .int a5] (xo_push (.int 20)) rfl rfl ?_
  refine n_brP rfl rfl ⟨fun hcn => ?_, fun hcn => ?_⟩
  · replace h := h.1 ((i_le (x := 20) (y := a5) (show (20 : Int32).toInt = 20 by decide) rfl).mp hcn)
    exact k_7_63_39 hd hc  h
  · replace h := h.2 (fun q => hcn ((i_le (x := 20) (y := a5) (show (20 : Int32).toInt = 20 by decide) rfl).mpr q))
    refine n_ld rfl rfl rfl ?_
    refine n_get (v := .ref 39) rfl (hv_C (a := 84) (n := 0) rfl rfl rfl) ?_
    refine n_get (v := .int sf) rfl (hv_f (a := 39) rfl rfl (fun _ _ hw => hw.1.2.2.1)) ?_
    refine n_brN rfl rfl ⟨fun hcn => ?_, fun hcn => ?_⟩
    · replace h := h.1 (fun q => hcn ((i_eq (x := sf) (y := 0) rfl (show (0 : Int32).toInt = 0 by decide)).mpr q))
      exact k_7_63_39 hd hc  h
    · replace h := h.2 ((i_eq (x := sf) (y := 0) rfl (show (0 : Int32).toInt = 0 by decide)).mp hcn)
      refine n_ld rfl rfl rfl ?_
      refine n_get (v := .ref 43) rfl (hv_C (a := 84) (n := 2) rfl rfl rfl) ?_
      refine n_ld rfl rfl rfl ?_
      refine n_get (v := .int sa) rfl (hv_f (a := 84) rfl rfl (fun _ _ hw => hw.1.1)) ?_
      refine n_row sa [] (a := 43) hd rfl rfl rfl rfl (fun x1 g1 g2 g3 => ?_)
      replace h := h x1 g2
      refine n_c [.int 46, .int x1] (xo_push (.int 46)) rfl rfl ?_
      refine n_brN rfl rfl ⟨fun hcn => ?_, fun hcn => ?_⟩
      · replace h := h.1 (fun q => hcn ((i_eq (x := x1) (y := 46) rfl (show (46 : Int32).toInt = 46 by decide)).mpr q))
        exact k_7_63_39 hd hc  h
      · replace h := h.2 ((i_eq (x := x1) (y := 46) rfl (show (46 : Int32).toInt = 46 by decide)).mp hcn)
        refine n_ld rfl rfl rfl ?_
        refine n_get (v := .ref 75) rfl (hv_R (a := 84) rfl rfl) ?_
        refine n_ld rfl rfl rfl ?_
        refine n_ld rfl rfl rfl ?_
        refine n_ld rfl rfl rfl ?_
        refine n_tt [.ref 84, .int a4, .int a1] [.ref 75] rfl rfl rfl rfl (Tt.imp h (fun v7 sq h => ?_))
        obtain ⟨sa2, sk3, sf4, sc5, sz6⟩ := sq
        obtain ⟨x8, rfl, h⟩ := h
        change Rn _ _ _ _ _ _ _ _ _ _ [.int x8, .ref 75] _ _
        refine n_ld rfl rfl rfl ?_
        refine n_ctr [.ref 75, .int x8, .int a2] [] rfl rfl rfl (hc (91, q_91) (List.mem_of_getElem? (i := 0) rfl)) ⟨⟨_, rfl, cmem_ok rfl⟩, vK_int _, vK_int _, trivial⟩ rfl rfl (fun vq sq hv hk => ?_)
        obtain ⟨sa9, sk10, sf11, sc12, sz13⟩ := sq
        obtain ⟨k1, k2, k3, k4, k5, k6, k7⟩ := hk
        obtain rfl : sa2 = sa9 := (k1 (wmem_no rfl)).symm
        obtain rfl : sk3 = sk10 := (k2).symm
        obtain rfl : sf4 = sf11 := (k3 (wmem_no rfl)).symm
        obtain rfl : sc5 = sc12 := (k5 (wmem_no rfl)).symm
        obtain rfl : sz6 = sz13 := (k6 (wmem_no rfl)).symm
        obtain ⟨vr, rfl, x14, rfl, hl, hu⟩ := hv
        replace h := h x14
        change Rn _ _ _ _ _ _ _ _ _ _ [.int x14] _ _
        refine n_st [.ref 84, .int a1, .int a2, .int a3, .int x14, .int a5, .null, .null] rfl rfl rfl ?_
        replace h := h _ (i_add (x := a5) (y := 1) rfl (show (1 : Int32).toInt = 1 by decide))
        refine n_inc [.ref 84, .int a1, .int a2, .int a3, .int x14, .int (a5 + 1), .null, .null] rfl rfl rfl rfl ?_
        refine n_go rfl ?_
        exact r38 a1 a2 a3 x14 (a5 + 1) sa2 sk3 sf4 sc5 sz6 h
theorem kl_7_38_39 {d d0 : Nat} (hd : d = d0 + 4) (hc : ∀ p ∈ s_w7, CTR (yex d) p.1 p.2)  {a1 : Int32} {a2 : Int32} {a3 : Int32} {a4 : Int32} {a5 : Int32} {sa : Int32} {sk : Int32} {sf : Int32} {sc : Int32} {sz : Int32} {Q : Option Value → sW → Prop}  (h : wl_7_38 (fun k => Tt d wgL (wk_7 39 k) (wk_7 39 k)) 39  a1 a2 a3 a4 a5 sa sk sf sc sz Q) : Rn d wgL (((84, 5), 39, [(84, 2, 39), (84, 3, 40), (84, 4, 43), (83, 1, 39), (83, 2, 40), (75, 0, 39), (75, 1, 57), (75, 2, 61)]) : wW) (((84, 5), 39, [(84, 2, 39), (84, 3, 40), (84, 4, 43), (83, 1, 39), (83, 2, 40), (75, 0, 39), (75, 1, 57), (75, 2, 61)]) : wW) xL_1 6 (some .int) xE_7 (xE_7.drop 38) [.ref 84, .int a1, .int a2, .int a3, .int a4, .int a5, .null, .null] [] (sa, sk, sf, sc, sz) Q := by
  obtain ⟨I, μ, h0, h1⟩ := h
  have key : ∀ (n : Nat) (a1 : Int32) (a2 : Int32) (a3 : Int32) (a4 : Int32) (a5 : Int32) (sa : Int32) (sk : Int32) (sf : Int32) (sc : Int32) (sz : Int32), μ a1 a2 a3 a4 a5 sa sk sf sc sz = n → I a1 a2 a3 a4 a5 sa sk sf sc sz → Rn d wgL (((84, 5), 39, [(84, 2, 39), (84, 3, 40), (84, 4, 43), (83, 1, 39), (83, 2, 40), (75, 0, 39), (75, 1, 57), (75, 2, 61)]) : wW) (((84, 5), 39, [(84, 2, 39), (84, 3, 40), (84, 4, 43), (83, 1, 39), (83, 2, 40), (75, 0, 39), (75, 1, 57), (75, 2, 61)]) : wW) xL_1 6 (some .int) xE_7 (xE_7.drop 38) [.ref 84, .int a1, .int a2, .int a3, .int a4, .int a5, .null, .null] [] (sa, sk, sf, sc, sz) Q := by
    intro n
    induction n using Nat.strongRecOn with
    | ind n ih =>
      intro a1 a2 a3 a4 a5 sa sk sf sc sz e hI
      exact k_7_38_39 hd hc (fun a1' a2' a3' a4' a5' sa' sk' sf' sc' sz' q => ih _ (by rw [← e]; exact q.2) a1' a2' a3' a4' a5' sa' sk' sf' sc' sz' rfl q.1) (h1 a1 a2 a3 a4 a5 sa sk sf sc sz hI)
  exact key _ a1 a2 a3 a4 a5 sa sk sf sc sz rfl h0
set_option maxRecDepth 20000 in
theorem k_7_35_39 {d d0 : Nat} (hd : d = d0 + 4) (hc : ∀ p ∈ s_w7, CTR (yex d) p.1 p.2)  {a1 : Int32} {a2 : Int32} {a3 : Int32} {t0 : Int32} {sa : Int32} {sk : Int32} {sf : Int32} {sc : Int32} {sz : Int32} {Q : Option Value → sW → Prop}  (h : w_7_35 (fun k => Tt d wgL (wk_7 39 k) (wk_7 39 k)) 39  a1 a2 a3 t0 sa sk sf sc sz Q) : Rn d wgL (((84, 5), 39, [(84, 2, 39), (84, 3, 40), (84, 4, 43), (83, 1, 39), (83, 2, 40), (75, 0, 39), (75, 1, 57), (75, 2, 61)]) : wW) (((84, 5), 39, [(84, 2, 39), (84, 3, 40), (84, 4, 43), (83, 1, 39), (83, 2, 40), (75, 0, 39), (75, 1, 57), (75, 2, 61)]) : wW) xL_1 6 (some .int) xE_7 (xE_7.drop 35) [.ref 84, .int a1, .int a2, .int a3, .null, .null, .null, .null] [.int t0] (sa, sk, sf, sc, sz) Q := by
  unfold w_7_35 at h
  refine n_st [.ref 84, .int a1, .int a2, .int a3, .int t0, .null, .null, .null] rfl rfl rfl ?_
  refine n_c [.int 0] (xo_push (.int 0)) rfl rfl ?_
  refine n_st [.ref 84, .int a1, .int a2, .int a3, .int t0, .int 0, .null, .null] rfl rfl rfl ?_
  exact kl_7_38_39 hd hc  h
set_option maxRecDepth 20000 in
theorem k_7_29_39 {d d0 : Nat} (hd : d = d0 + 4) (hc : ∀ p ∈ s_w7, CTR (yex d) p.1 p.2)  {a1 : Int32} {a2 : Int32} {a3 : Int32} {sa : Int32} {sk : Int32} {sf : Int32} {sc : Int32} {sz : Int32} {Q : Option Value → sW → Prop}  (h : w_7_29 (fun k => Tt d wgL (wk_7 39 k) (wk_7 39 k)) 39  a1 a2 a3 sa sk sf sc sz Q) : Rn d wgL (((84, 5), 39, [(84, 2, 39), (84, 3, 40), (84, 4, 43), (83, 1, 39), (83, 2, 40), (75, 0, 39), (75, 1, 57), (75, 2, 61)]) : wW) (((84, 5), 39, [(84, 2, 39), (84, 3, 40), (84, 4, 43), (83, 1, 39), (83, 2, 40), (75, 0, 39), (75, 1, 57), (75, 2, 61)]) : wW) xL_1 6 (some .int) xE_7 (xE_7.drop 29) [.ref 84, .int a1, .int a2, .int a3, .null, .null, .null, .null] [] (sa, sk, sf, sc, sz) Q := by
  unfold w_7_29 at h
  refine n_ld rfl rfl rfl ?_
  refine n_ld rfl rfl rfl ?_
  refine n_tt [.ref 84, .int a1] [] rfl rfl rfl rfl (Tt.imp h (fun v6 sq h => ?_))
  obtain ⟨sa1, sk2, sf3, sc4, sz5⟩ := sq
  obtain ⟨x7, rfl, h⟩ := h
  change Rn _ _ _ _ _ _ _ _ _ _ [.int x7] _ _
  refine n_go rfl ?_
  exact k_7_35_39 hd hc  h
set_option maxRecDepth 20000 in
theorem k_7_0_39 {d d0 : Nat} (hd : d = d0 + 4) (hc : ∀ p ∈ s_w7, CTR (yex d) p.1 p.2)  {a1 : Int32} {sa : Int32} {sk : Int32} {sf : Int32} {sc : Int32} {sz : Int32} {Q : Option Value → sW → Prop}  (h : w_7_0 (fun k => Tt d wgL (wk_7 39 k) (wk_7 39 k)) 39  a1 sa sk sf sc sz Q) : Rn d wgL (((84, 5), 39, [(84, 2, 39), (84, 3, 40), (84, 4, 43), (83, 1, 39), (83, 2, 40), (75, 0, 39), (75, 1, 57), (75, 2, 61)]) : wW) (((84, 5), 39, [(84, 2, 39), (84, 3, 40), (84, 4, 43), (83, 1, 39), (83, 2, 40), (75, 0, 39), (75, 1, 57), (75, 2, 61)]) : wW) xL_1 6 (some .int) xE_7 (xE_7.drop 0) [.ref 84, .int a1, .null, .null, .null, .null, .null, .null] [] (sa, sk, sf, sc, sz) Q := by
  unfold w_7_0 at h
  refine n_ld rfl rfl rfl ?_
  refine n_get (v := .ref 75) rfl (hv_R (a := 84) rfl rfl) ?_
  refine n_getI (a := 75) rfl rfl rfl (fun x1 hl hu => ?_)
  replace h := h x1
  refine n_st [.ref 84, .int a1, .int x1, .null, .null, .null, .null, .null] rfl rfl rfl ?_
  refine n_ld rfl rfl rfl ?_
  refine n_c [.int 10, .int a1] (xo_push (.int 10)) rfl rfl ?_
  refine n_brP rfl rfl ⟨fun hcn => ?_, fun hcn => ?_⟩
  · replace h := h.1 ((i_le (x := a1) (y := 10) rfl (show (10 : Int32).toInt = 10 by decide)).mp hcn)
    refine n_ld rfl rfl rfl ?_
    refine n_get (v := .ref 43) rfl (hv_C (a := 84) (n := 2) rfl rfl rfl) ?_
    refine n_ld rfl rfl rfl ?_
    refine n_get (v := .int sa) rfl (hv_f (a := 84) rfl rfl (fun _ _ hw => hw.1.1)) ?_
    refine n_c [.int 1, .int sa, .ref 43] (xo_push (.int 1)) rfl rfl ?_
    replace h := h _ (i_add (x := sa) (y := 1) rfl (show (1 : Int32).toInt = 1 by decide))
    refine n_c [.int (sa + 1), .ref 43] xo_iadd rfl rfl ?_
    refine n_row (sa + 1) [] (a := 43) hd rfl rfl rfl rfl (fun x3 g1 g2 g3 => ?_)
    replace h := h x3 g2
    refine n_st [.ref 84, .int a1, .int x1, .int x3, .null, .null, .null, .null] rfl rfl rfl ?_
    refine n_ld rfl rfl rfl ?_
    refine n_c [.int 123, .int x3] (xo_push (.int 123)) rfl rfl ?_
    refine n_brP rfl rfl ⟨fun hcn => ?_, fun hcn => ?_⟩
    · replace h := h.1 ((i_eq (x := x3) (y := 123) rfl (show (123 : Int32).toInt = 123 by decide)).mp hcn)
      exact k_7_29_39 hd hc  h
    · replace h := h.2 (fun q => hcn ((i_eq (x := x3) (y := 123) rfl (show (123 : Int32).toInt = 123 by decide)).mpr q))
      refine n_ld rfl rfl rfl ?_
      refine n_c [.int 91, .int x3] (xo_push (.int 91)) rfl rfl ?_
      refine n_brN rfl rfl ⟨fun hcn => ?_, fun hcn => ?_⟩
      · replace h := h.1 (fun q => hcn ((i_eq (x := x3) (y := 91) rfl (show (91 : Int32).toInt = 91 by decide)).mpr q))
        refine n_ld rfl rfl rfl ?_
        refine n_tt [.ref 84] [] rfl rfl rfl rfl (Tt.imp h (fun v9 sq h => ?_))
        obtain ⟨sa4, sk5, sf6, sc7, sz8⟩ := sq
        obtain ⟨x10, rfl, h⟩ := h
        change Rn _ _ _ _ _ _ _ _ _ _ [.int x10] _ _
        exact k_7_35_39 hd hc  h
      · replace h := h.2 ((i_eq (x := x3) (y := 91) rfl (show (91 : Int32).toInt = 91 by decide)).mp hcn)
        exact k_7_29_39 hd hc  h
  · replace h := h.2 (fun q => hcn ((i_le (x := a1) (y := 10) rfl (show (10 : Int32).toInt = 10 by decide)).mpr q))
    refine n_ld rfl rfl rfl ?_
    refine n_get (v := .ref 39) rfl (hv_C (a := 84) (n := 0) rfl rfl rfl) ?_
    refine n_c [.int 5, .ref 39] (xo_push (.int 5)) rfl rfl ?_
    refine n_ld rfl rfl rfl ?_
    refine n_get (v := .int sa) rfl (hv_f (a := 84) rfl rfl (fun _ _ hw => hw.1.1)) ?_
    refine n_tt [.ref 39, .int 5, .int sa] [] rfl rfl rfl rfl (Tt.imp h (fun v16 sq h => ?_))
    obtain ⟨sa11, sk12, sf13, sc14, sz15⟩ := sq
    obtain ⟨rfl, h⟩ := h
    change Rn _ _ _ _ _ _ _ _ _ _ [] _ _
    refine n_ld rfl rfl rfl ?_
    exact n_retI rfl h
theorem t_7_39 {d : Nat} (hc : ∀ p ∈ s_w7, CTR (yex (d + 4)) p.1 p.2) {a1 : Int32} {sa : Int32} {sk : Int32} {sf : Int32} {sc : Int32} {sz : Int32} {Q : Option Value → sW → Prop} (h : w_7_0 (fun k => Tt (d + 4) wgL (wk_7 39 k) (wk_7 39 k)) 39 a1 sa sk sf sc sz Q) : Tt (d + 5) wgL (((84, 5), 39, [(84, 2, 39), (84, 3, 40), (84, 4, 43), (83, 1, 39), (83, 2, 40), (75, 0, 39), (75, 1, 57), (75, 2, 61)]) : wW) (((84, 5), 39, [(84, 2, 39), (84, 3, 40), (84, 4, 43), (83, 1, 39), (83, 2, 40), (75, 0, 39), (75, 1, 57), (75, 2, 61)]) : wW) 7 [.ref 84, .int a1] (sa, sk, sf, sc, sz) Q := tt_of (E := xE_7) (L := xL_1) (ml := 6) (ret := some .int) rfl rfl rfl (k_7_0_39 rfl hc h)
