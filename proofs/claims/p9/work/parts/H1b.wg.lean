/-! FeatherBench$Program.addCode -/
def wk_59 (P : Nat) : Nat → wW
  | _ => (((84, 5), P, [(84, 2, P), (84, 3, (P + 1)), (84, 4, (P + 4)), (83, 1, P), (83, 2, (P + 1)), (75, 0, P), (75, 1, (P + 18)), (75, 2, (P + 22))]) : wW)
def s_w59 : List (Nat × cSg) := []
def w_59_0 (T : Nat → Nat → List Value → sW → (Option Value → sW → Prop) → Prop) (P : Nat)  (a1 : Int32) (a2 : Int32) (a3 : Int32) (a4 : Int32) (a5 : Int32) (a6 : Int32) (sa : Int32) (sk : Int32) (sf : Int32) (sc : Int32) (sz : Int32) (Q : Option Value → sW → Prop) : Prop :=
  T 0 78 [.ref (P + 34), .int a1] (sa, sk, sf, sc, sz) (fun v6 (sa1, sk2, sf3, sc4, sz5) => v6 = none ∧ (T 0 78 [.ref (P + 34), .int a2] (sa1, sk2, sf3, sc4, sz5) (fun v12 (sa7, sk8, sf9, sc10, sz11) => v12 = none ∧ (T 0 78 [.ref (P + 34), .int a3] (sa7, sk8, sf9, sc10, sz11) (fun v18 (sa13, sk14, sf15, sc16, sz17) => v18 = none ∧ (T 0 78 [.ref (P + 34), .int a4] (sa13, sk14, sf15, sc16, sz17) (fun v24 (sa19, sk20, sf21, sc22, sz23) => v24 = none ∧ (T 0 78 [.ref (P + 34), .int a5] (sa19, sk20, sf21, sc22, sz23) (fun v30 (sa25, sk26, sf27, sc28, sz29) => v30 = none ∧ (T 0 78 [.ref (P + 34), .int a6] (sa25, sk26, sf27, sc28, sz29) (fun v36 (sa31, sk32, sf33, sc34, sz35) => v36 = none ∧ (Q none (sa31, sk32, sf33, sc34, sz35)))))))))))))
set_option maxRecDepth 20000 in
theorem k_59_0_3 {d d0 : Nat} (hd : d = d0 + 4) (hc : ∀ p ∈ s_w59, CTR (yex d) p.1 p.2)  {a1 : Int32} {a2 : Int32} {a3 : Int32} {a4 : Int32} {a5 : Int32} {a6 : Int32} {sa : Int32} {sk : Int32} {sf : Int32} {sc : Int32} {sz : Int32} {Q : Option Value → sW → Prop}  (h : w_59_0 (fun k => Tt d wgL (wk_59 3 k) (wk_59 3 k)) 3  a1 a2 a3 a4 a5 a6 sa sk sf sc sz Q) : Rn d wgL (((84, 5), 3, [(84, 2, 3), (84, 3, 4), (84, 4, 7), (83, 1, 3), (83, 2, 4), (75, 0, 3), (75, 1, 21), (75, 2, 25)]) : wW) (((84, 5), 3, [(84, 2, 3), (84, 3, 4), (84, 4, 7), (83, 1, 3), (83, 2, 4), (75, 0, 3), (75, 1, 21), (75, 2, 25)]) : wW) xL_4 7 (none) xE_59 (xE_59.drop 0) [.ref 3, .int a1, .int a2, .int a3, .int a4, .int a5, .int a6, .null, .null, .null, .null, .null, .null, .null] [] (sa, sk, sf, sc, sz) Q := by
  unfold w_59_0 at h
  refine n_ld rfl rfl rfl ?_
  refine n_get (v := .ref 37) rfl (hv_R (a := 3) rfl rfl) ?_
  refine n_ld rfl rfl rfl ?_
  refine n_tt [.ref 37, .int a1] [] rfl rfl rfl rfl (Tt.imp h (fun v6 sq h => ?_))
  obtain ⟨sa1, sk2, sf3, sc4, sz5⟩ := sq
  obtain ⟨rfl, h⟩ := h
  change Rn _ _ _ _ _ _ _ _ _ _ [] _ _
  refine n_ld rfl rfl rfl ?_
  refine n_get (v := .ref 37) rfl (hv_R (a := 3) rfl rfl) ?_
  refine n_ld rfl rfl rfl ?_
  refine n_tt [.ref 37, .int a2] [] rfl rfl rfl rfl (Tt.imp h (fun v12 sq h => ?_))
  obtain ⟨sa7, sk8, sf9, sc10, sz11⟩ := sq
  obtain ⟨rfl, h⟩ := h
  change Rn _ _ _ _ _ _ _ _ _ _ [] _ _
  refine n_ld rfl rfl rfl ?_
  refine n_get (v := .ref 37) rfl (hv_R (a := 3) rfl rfl) ?_
  refine n_ld rfl rfl rfl ?_
  refine n_tt [.ref 37, .int a3] [] rfl rfl rfl rfl (Tt.imp h (fun v18 sq h => ?_))
  obtain ⟨sa13, sk14, sf15, sc16, sz17⟩ := sq
  obtain ⟨rfl, h⟩ := h
  change Rn _ _ _ _ _ _ _ _ _ _ [] _ _
  refine n_ld rfl rfl rfl ?_
  refine n_get (v := .ref 37) rfl (hv_R (a := 3) rfl rfl) ?_
  refine n_ld rfl rfl rfl ?_
  refine n_tt [.ref 37, .int a4] [] rfl rfl rfl rfl (Tt.imp h (fun v24 sq h => ?_))
  obtain ⟨sa19, sk20, sf21, sc22, sz23⟩ := sq
  obtain ⟨rfl, h⟩ := h
  change Rn _ _ _ _ _ _ _ _ _ _ [] _ _
  refine n_ld rfl rfl rfl ?_
  refine n_get (v := .ref 37) rfl (hv_R (a := 3) rfl rfl) ?_
  refine n_ld rfl rfl rfl ?_
  refine n_tt [.ref 37, .int a5] [] rfl rfl rfl rfl (Tt.imp h (fun v30 sq h => ?_))
  obtain ⟨sa25, sk26, sf27, sc28, sz29⟩ := sq
  obtain ⟨rfl, h⟩ := h
  change Rn _ _ _ _ _ _ _ _ _ _ [] _ _
  refine n_ld rfl rfl rfl ?_
  refine n_get (v := .ref 37) rfl (hv_R (a := 3) rfl rfl) ?_
  refine n_ld rfl rfl rfl ?_
  refine n_tt [.ref 37, .int a6] [] rfl rfl rfl rfl (Tt.imp h (fun v36 sq h => ?_))
  obtain ⟨sa31, sk32, sf33, sc34, sz35⟩ := sq
  obtain ⟨rfl, h⟩ := h
  change Rn _ _ _ _ _ _ _ _ _ _ [] _ _
  exact n_ret0 rfl h
theorem t_59_3 {d : Nat} (hc : ∀ p ∈ s_w59, CTR (yex (d + 4)) p.1 p.2) {a1 : Int32} {a2 : Int32} {a3 : Int32} {a4 : Int32} {a5 : Int32} {a6 : Int32} {sa : Int32} {sk : Int32} {sf : Int32} {sc : Int32} {sz : Int32} {Q : Option Value → sW → Prop} (h : w_59_0 (fun k => Tt (d + 4) wgL (wk_59 3 k) (wk_59 3 k)) 3 a1 a2 a3 a4 a5 a6 sa sk sf sc sz Q) : Tt (d + 5) wgL (((84, 5), 3, [(84, 2, 3), (84, 3, 4), (84, 4, 7), (83, 1, 3), (83, 2, 4), (75, 0, 3), (75, 1, 21), (75, 2, 25)]) : wW) (((84, 5), 3, [(84, 2, 3), (84, 3, 4), (84, 4, 7), (83, 1, 3), (83, 2, 4), (75, 0, 3), (75, 1, 21), (75, 2, 25)]) : wW) 59 [.ref 3, .int a1, .int a2, .int a3, .int a4, .int a5, .int a6] (sa, sk, sf, sc, sz) Q := tt_of (E := xE_59) (L := xL_4) (ml := 7) (ret := none) rfl rfl rfl (k_59_0_3 rfl hc h)
set_option maxRecDepth 20000 in
theorem k_59_0_39 {d d0 : Nat} (hd : d = d0 + 4) (hc : ∀ p ∈ s_w59, CTR (yex d) p.1 p.2)  {a1 : Int32} {a2 : Int32} {a3 : Int32} {a4 : Int32} {a5 : Int32} {a6 : Int32} {sa : Int32} {sk : Int32} {sf : Int32} {sc : Int32} {sz : Int32} {Q : Option Value → sW → Prop}  (h : w_59_0 (fun k => Tt d wgL (wk_59 39 k) (wk_59 39 k)) 39  a1 a2 a3 a4 a5 a6 sa sk sf sc sz Q) : Rn d wgL (((84, 5), 39, [(84, 2, 39), (84, 3, 40), (84, 4, 43), (83, 1, 39), (83, 2, 40), (75, 0, 39), (75, 1, 57), (75, 2, 61)]) : wW) (((84, 5), 39, [(84, 2, 39), (84, 3, 40), (84, 4, 43), (83, 1, 39), (83, 2, 40), (75, 0, 39), (75, 1, 57), (75, 2, 61)]) : wW) xL_4 7 (none) xE_59 (xE_59.drop 0) [.ref 39, .int a1, .int a2, .int a3, .int a4, .int a5, .int a6, .null, .null, .null, .null, .null, .null, .null] [] (sa, sk, sf, sc, sz) Q := by
  unfold w_59_0 at h
  refine n_ld rfl rfl rfl ?_
  refine n_get (v := .ref 73) rfl (hv_R (a := 39) rfl rfl) ?_
  refine n_ld rfl rfl rfl ?_
  refine n_tt [.ref 73, .int a1] [] rfl rfl rfl rfl (Tt.imp h (fun v6 sq h => ?_))
  obtain ⟨sa1, sk2, sf3, sc4, sz5⟩ := sq
  obtain ⟨rfl, h⟩ := h
  change Rn _ _ _ _ _ _ _ _ _ _ [] _ _
  refine n_ld rfl rfl rfl ?_
  refine n_get (v := .ref 73) rfl (hv_R (a := 39) rfl rfl) ?_
  refine n_ld rfl rfl rfl ?_
  refine n_tt [.ref 73, .int a2] [] rfl rfl rfl rfl (Tt.imp h (fun v12 sq h => ?_))
  obtain ⟨sa7, sk8, sf9, sc10, sz11⟩ := sq
  obtain ⟨rfl, h⟩ := h
  change Rn _ _ _ _ _ _ _ _ _ _ [] _ _
  refine n_ld rfl rfl rfl ?_
  refine n_get (v := .ref 73) rfl (hv_R (a := 39) rfl rfl) ?_
  refine n_ld rfl rfl rfl ?_
  refine n_tt [.ref 73, .int a3] [] rfl rfl rfl rfl (Tt.imp h (fun v18 sq h => ?_))
  obtain ⟨sa13, sk14, sf15, sc16, sz17⟩ := sq
  obtain ⟨rfl, h⟩ := h
  change Rn _ _ _ _ _ _ _ _ _ _ [] _ _
  refine n_ld rfl rfl rfl ?_
  refine n_get (v := .ref 73) rfl (hv_R (a := 39) rfl rfl) ?_
  refine n_ld rfl rfl rfl ?_
  refine n_tt [.ref 73, .int a4] [] rfl rfl rfl rfl (Tt.imp h (fun v24 sq h => ?_))
  obtain ⟨sa19, sk20, sf21, sc22, sz23⟩ := sq
  obtain ⟨rfl, h⟩ := h
  change Rn _ _ _ _ _ _ _ _ _ _ [] _ _
  refine n_ld rfl rfl rfl ?_
  refine n_get (v := .ref 73) rfl (hv_R (a := 39) rfl rfl) ?_
  refine n_ld rfl rfl rfl ?_
  refine n_tt [.ref 73, .int a5] [] rfl rfl rfl rfl (Tt.imp h (fun v30 sq h => ?_))
  obtain ⟨sa25, sk26, sf27, sc28, sz29⟩ := sq
  obtain ⟨rfl, h⟩ := h
  change Rn _ _ _ _ _ _ _ _ _ _ [] _ _
  refine n_ld rfl rfl rfl ?_
  refine n_get (v := .ref 73) rfl (hv_R (a := 39) rfl rfl) ?_
  refine n_ld rfl rfl rfl ?_
  refine n_tt [.ref 73, .int a6] [] rfl rfl rfl rfl (Tt.imp h (fun v36 sq h => ?_))
  obtain ⟨sa31, sk32, sf33, sc34, sz35⟩ := sq
  obtain ⟨rfl, h⟩ := h
  change Rn _ _ _ _ _ _ _ _ _ _ [] _ _
  exact n_ret0 rfl h
theorem t_59_39 {d : Nat} (hc : ∀ p ∈ s_w59, CTR (yex (d + 4)) p.1 p.2) {a1 : Int32} {a2 : Int32} {a3 : Int32} {a4 : Int32} {a5 : Int32} {a6 : Int32} {sa : Int32} {sk : Int32} {sf : Int32} {sc : Int32} {sz : Int32} {Q : Option Value → sW → Prop} (h : w_59_0 (fun k => Tt (d + 4) wgL (wk_59 39 k) (wk_59 39 k)) 39 a1 a2 a3 a4 a5 a6 sa sk sf sc sz Q) : Tt (d + 5) wgL (((84, 5), 39, [(84, 2, 39), (84, 3, 40), (84, 4, 43), (83, 1, 39), (83, 2, 40), (75, 0, 39), (75, 1, 57), (75, 2, 61)]) : wW) (((84, 5), 39, [(84, 2, 39), (84, 3, 40), (84, 4, 43), (83, 1, 39), (83, 2, 40), (75, 0, 39), (75, 1, 57), (75, 2, 61)]) : wW) 59 [.ref 39, .int a1, .int a2, .int a3, .int a4, .int a5, .int a6] (sa, sk, sf, sc, sz) Q := tt_of (E := xE_59) (L := xL_4) (ml := 7) (ret := none) rfl rfl rfl (k_59_0_39 rfl hc h)
/-! FeatherBench$Bodies.variable -/
def wk_9 (P : Nat) : Nat → wW
  | _ => (((84, 5), P, [(84, 2, P), (84, 3, (P + 1)), (84, 4, (P + 4)), (83, 1, P), (83, 2, (P + 1)), (75, 0, P), (75, 1, (P + 18)), (75, 2, (P + 22))]) : wW)
def s_w9 : List (Nat × cSg) := [(42, q_42), (41, q_41), (40, q_40)]
def w_9_74 (T : Nat → Nat → List Value → sW → (Option Value → sW → Prop) → Prop) (P : Nat) (R74 : Int32 → Int32 → Int32 → Int32 → Int32 → Int32 → Int32 → Int32 → Int32 → Int32 → Prop) (a1 : Int32) (a2 : Int32) (a3 : Int32) (a4 : Int32) (a5 : Int32) (sa : Int32) (sk : Int32) (sf : Int32) (sc : Int32) (sz : Int32) (Q : Option Value → sW → Prop) : Prop :=
  (a3.toInt ≤ a5.toInt → T 0 38 [.ref P, .int 2, .int a2] (sa, sk, sf, sc, sz) (fun v6 (sa1, sk2, sf3, sc4, sz5) => v6 = none ∧ (∀ x7 : Int32, Q (some (.int x7)) (sa1, sk2, sf3, sc4, sz5)))) ∧ (¬ (a3.toInt ≤ a5.toInt) → ∀ x8 : Int32, (-2147483648 ≤ a4.toInt + a5.toInt ∧ a4.toInt + a5.toInt ≤ 2147483647 → x8.toInt = a4.toInt + a5.toInt) → ∀ x14 : Int32, -1 ≤ x14.toInt → x14.toInt ≤ 2000000000 → ∀ x15 : Int32, (0 ≤ x15.toInt ∧ x15.toInt ≤ 5000) → (¬ (x15.toInt = a1.toInt) → ∀ x16 : Int32, (-2147483648 ≤ a5.toInt + 1 ∧ a5.toInt + 1 ≤ 2147483647 → x16.toInt = a5.toInt + 1) → R74 a1 a2 a3 a4 x16 sa sk sf sc sz) ∧ (x15.toInt = a1.toInt → ∀ x17 : Int32, (-2147483648 ≤ a5.toInt + 1 ∧ a5.toInt + 1 ≤ 2147483647 → x17.toInt = a5.toInt + 1) → T 0 59 [.ref P, .int 1, .int x17, .int 0, .int 0, .int 0, .int 0] (sa, sk, sf, sc, sz) (fun v23 (sa18, sk19, sf20, sc21, sz22) => v23 = none ∧ (∀ x24 : Int32, (-2147483648 ≤ a4.toInt + a5.toInt ∧ a4.toInt + a5.toInt ≤ 2147483647 → x24.toInt = a4.toInt + a5.toInt) → ∀ x30 : Int32, -1 ≤ x30.toInt → x30.toInt ≤ 2000000000 → Q (some (.int x30)) (sa18, sk19, sf20, sc21, sz22)))))
def wl_9_74 (T : Nat → Nat → List Value → sW → (Option Value → sW → Prop) → Prop) (P : Nat)  (a1 : Int32) (a2 : Int32) (a3 : Int32) (a4 : Int32) (a5 : Int32) (sa : Int32) (sk : Int32) (sf : Int32) (sc : Int32) (sz : Int32) (Q : Option Value → sW → Prop) : Prop :=
  ∃ (I : Int32 → Int32 → Int32 → Int32 → Int32 → Int32 → Int32 → Int32 → Int32 → Int32 → Prop) (μ : Int32 → Int32 → Int32 → Int32 → Int32 → Int32 → Int32 → Int32 → Int32 → Int32 → Nat), I a1 a2 a3 a4 a5 sa sk sf sc sz ∧ ∀ (a1 : Int32) (a2 : Int32) (a3 : Int32) (a4 : Int32) (a5 : Int32) (sa : Int32) (sk : Int32) (sf : Int32) (sc : Int32) (sz : Int32), I a1 a2 a3 a4 a5 sa sk sf sc sz → w_9_74 T P (fun a1' a2' a3' a4' a5' sa' sk' sf' sc' sz' => I a1' a2' a3' a4' a5' sa' sk' sf' sc' sz' ∧ μ a1' a2' a3' a4' a5' sa' sk' sf' sc' sz' < μ a1 a2 a3 a4 a5 sa sk sf sc sz) a1 a2 a3 a4 a5 sa sk sf sc sz Q
def w_9_55 (T : Nat → Nat → List Value → sW → (Option Value → sW → Prop) → Prop) (P : Nat)  (a1 : Int32) (a2 : Int32) (t0 : Int32) (sa : Int32) (sk : Int32) (sf : Int32) (sc : Int32) (sz : Int32) (Q : Option Value → sW → Prop) : Prop :=
  ∀ x1 : Int32, ∀ x7 : Int32, -1 ≤ x7.toInt → x7.toInt ≤ 5000 → ∀ x8 : Int32, ∀ x14 : Int32, -1 ≤ x14.toInt → x14.toInt ≤ 5000 → ∀ x15 : Int32, (-2147483648 ≤ x7.toInt + x14.toInt ∧ x7.toInt + x14.toInt ≤ 2147483647 → x15.toInt = x7.toInt + x14.toInt) → wl_9_74 T P  a1 a2 t0 x15 0 sa sk sf sc sz Q
def w_9_43 (T : Nat → Nat → List Value → sW → (Option Value → sW → Prop) → Prop) (P : Nat)  (a1 : Int32) (a2 : Int32) (sa : Int32) (sk : Int32) (sf : Int32) (sc : Int32) (sz : Int32) (Q : Option Value → sW → Prop) : Prop :=
  ∀ x1 : Int32, (0 ≤ x1.toInt → ∀ x2 : Int32, ∀ x8 : Int32, -1 ≤ x8.toInt → x8.toInt ≤ 5000 → w_9_55 T P  a1 a2 x8 sa sk sf sc sz Q) ∧ (¬ (0 ≤ x1.toInt) → w_9_55 T P  a1 a2 0 sa sk sf sc sz Q)
def w_9_0 (T : Nat → Nat → List Value → sW → (Option Value → sW → Prop) → Prop) (P : Nat)  (sa : Int32) (sk : Int32) (sf : Int32) (sc : Int32) (sz : Int32) (Q : Option Value → sW → Prop) : Prop :=
  ∀ x1 : Int32, (0 ≤ x1.toInt ∧ x1.toInt ≤ 5000) → ∀ x2 : Int32, (-2147483648 ≤ sa.toInt + 1 ∧ sa.toInt + 1 ≤ 2147483647 → x2.toInt = sa.toInt + 1) → ∀ x3 : Int32, (x3.toInt < 0 → w_9_43 T P  x1 sa x2 sk sf sc sz Q) ∧ (¬ (x3.toInt < 0) → ∀ x4 : Int32, ∀ x10 : Int32, -1 ≤ x10.toInt → x10.toInt ≤ 5000 → ∀ x11 : Int32, (0 ≤ x11.toInt ∧ x11.toInt ≤ 5000) → (¬ (x11.toInt = x1.toInt) → w_9_43 T P  x1 sa x2 sk sf sc sz Q) ∧ (x11.toInt = x1.toInt → T 0 59 [.ref P, .int 1, .int 0, .int 0, .int 0, .int 0, .int 0] (x2, sk, sf, sc, sz) (fun v17 (sa12, sk13, sf14, sc15, sz16) => v17 = none ∧ (∀ x18 : Int32, Q (some (.int x18)) (sa12, sk13, sf14, sc15, sz16)))))
set_option maxRecDepth 20000 in
theorem k_9_74_3 {d d0 : Nat} (hd : d = d0 + 4) (hc : ∀ p ∈ s_w9, CTR (yex d) p.1 p.2) {R74 : Int32 → Int32 → Int32 → Int32 → Int32 → Int32 → Int32 → Int32 → Int32 → Int32 → Prop} {a1 : Int32} {a2 : Int32} {a3 : Int32} {a4 : Int32} {a5 : Int32} {sa : Int32} {sk : Int32} {sf : Int32} {sc : Int32} {sz : Int32} {Q : Option Value → sW → Prop} (r74 : ∀ a1 a2 a3 a4 a5 sa sk sf sc sz, R74 a1 a2 a3 a4 a5 sa sk sf sc sz → Rn d wgL (((84, 5), 3, [(84, 2, 3), (84, 3, 4), (84, 4, 7), (83, 1, 3), (83, 2, 4), (75, 0, 3), (75, 1, 21), (75, 2, 25)]) : wW) (((84, 5), 3, [(84, 2, 3), (84, 3, 4), (84, 4, 7), (83, 1, 3), (83, 2, 4), (75, 0, 3), (75, 1, 21), (75, 2, 25)]) : wW) xL_1 6 (some .int) xE_9 (xE_9.drop 74) [.ref 84, .int a1, .int a2, .int a3, .int a4, .int a5, .null] [] (sa, sk, sf, sc, sz) Q) (h : w_9_74 (fun k => Tt d wgL (wk_9 3 k) (wk_9 3 k)) 3 R74 a1 a2 a3 a4 a5 sa sk sf sc sz Q) : Rn d wgL (((84, 5), 3, [(84, 2, 3), (84, 3, 4), (84, 4, 7), (83, 1, 3), (83, 2, 4), (75, 0, 3), (75, 1, 21), (75, 2, 25)]) : wW) (((84, 5), 3, [(84, 2, 3), (84, 3, 4), (84, 4, 7), (83, 1, 3), (83, 2, 4), (75, 0, 3), (75, 1, 21), (75, 2, 25)]) : wW) xL_1 6 (some .int) xE_9 (xE_9.drop 74) [.ref 84, .int a1, .int a2, .int a3, .int a4, .int a5, .null] [] (sa, sk, sf, sc, sz) Q := by
  unfold w_9_74 at h
  refine n_ld rfl rfl rfl ?_
  refine n_ld rfl rfl rfl ?_
  refine n_brP rfl rfl ⟨fun hcn => ?_, fun hcn => ?_⟩
  · replace h := h.1 ((i_le (x := a3) (y := a5) rfl rfl).mp hcn)
    refine n_ld rfl rfl rfl ?_
    refine n_get (v := .ref 3) rfl (hv_C (a := 84) (n := 0) rfl rfl rfl) ?_
    refine n_c [.int 2, .ref 3] (xo_push (.int 2)) rfl rfl ?_
    refine n_ld rfl rfl rfl ?_
    refine n_tt [.ref 3, .int 2, .int a2] [] rfl rfl rfl rfl (Tt.imp h (fun v6 sq h => ?_))
    obtain ⟨sa1, sk2, sf3, sc4, sz5⟩ := sq
    obtain ⟨rfl, h⟩ := h
    change Rn _ _ _ _ _ _ _ _ _ _ [] _ _
    refine n_ld rfl rfl rfl ?_
    refine n_getI (a := 84) rfl rfl rfl (fun x7 hl hu => ?_)
    replace h := h x7
    exact n_retI rfl h
  · replace h := h.2 (fun q => hcn ((i_le (x := a3) (y := a5) rfl rfl).mpr q))
    refine n_ld rfl rfl rfl ?_
    refine n_get (v := .ref 4) rfl (hv_C (a := 84) (n := 1) rfl rfl rfl) ?_
    refine n_get (v := .ref 13) rfl (hv_R (a := 4) rfl rfl) ?_
    refine n_ld rfl rfl rfl ?_
    refine n_get (v := .ref 3) rfl (hv_C (a := 84) (n := 0) rfl rfl rfl) ?_
    refine n_ld rfl rfl rfl ?_
    refine n_ld rfl rfl rfl ?_
    replace h := h _ (i_add (x := a4) (y := a5) rfl rfl)
    refine n_c [.int (a4 + a5), .ref 3, .ref 13] xo_iadd rfl rfl ?_
    refine n_c [.int 0, .int (a4 + a5), .ref 3, .ref 13] (xo_push (.int 0)) rfl rfl ?_
    refine n_ctr [.ref 3, .int (a4 + a5), .int 0] [.ref 13] rfl rfl rfl (hc (42, q_42) (List.mem_of_getElem? (i := 0) rfl)) ⟨⟨_, rfl, cmem_ok rfl⟩, vK_int _, vK_int _, trivial⟩ rfl rfl (fun vq sq hv hk => ?_)
    obtain ⟨sa9, sk10, sf11, sc12, sz13⟩ := sq
    obtain ⟨k1, k2, k3, k4, k5, k6, k7⟩ := hk
    obtain rfl : sa = sa9 := (k1 (wmem_no rfl)).symm
    obtain rfl : sk = sk10 := (k2).symm
    obtain rfl : sf = sf11 := (k3 (wmem_no rfl)).symm
    obtain rfl : sc = sc12 := (k5 (wmem_no rfl)).symm
    obtain rfl : sz = sz13 := (k6 (wmem_no rfl)).symm
    obtain ⟨vr, rfl, x14, rfl, hl, hu⟩ := hv
    replace h := h x14 hl hu
    change Rn _ _ _ _ _ _ _ _ _ _ [.int x14, .ref 13] _ _
    refine n_row x14 [] (a := 13) hd rfl rfl rfl rfl (fun x15 g1 g2 g3 => ?_)
    replace h := h x15 g1
    refine n_ld rfl rfl rfl ?_
    refine n_brN rfl rfl ⟨fun hcn => ?_, fun hcn => ?_⟩
    · replace h := h.1 (fun q => hcn ((i_eq (x := x15) (y := a1) rfl rfl).mpr q))
      replace h := h _ (i_add (x := a5) (y := 1) rfl (show (1 : Int32).toInt = 1 by decide))
      refine n_inc [.ref 84, .int a1, .int a2, .int a3, .int a4, .int (a5 + 1), .null] rfl rfl rfl rfl ?_
      refine n_go rfl ?_
      exact r74 a1 a2 a3 a4 (a5 + 1) sa sk sf sc sz h
    · replace h := h.2 ((i_eq (x := x15) (y := a1) rfl rfl).mp hcn)
      refine n_ld rfl rfl rfl ?_
      refine n_get (v := .ref 3) rfl (hv_C (a := 84) (n := 0) rfl rfl rfl) ?_
      refine n_c [.int 1, .ref 3] (xo_push (.int 1)) rfl rfl ?_
      refine n_ld rfl rfl rfl ?_
      refine n_c [.int 1, .int a5, .int 1, .ref 3] (xo_push (.int 1)) rfl rfl ?_
      replace h := h _ (i_add (x := a5) (y := 1) rfl (show (1 : Int32).toInt = 1 by decide))
      refine n_c [.int (a5 + 1), .int 1, .ref 3] xo_iadd rfl rfl ?_
      refine n_c [.int 0, .int (a5 + 1), .int 1, .ref 3] (xo_push (.int 0)) rfl rfl ?_
      refine n_c [.int 0, .int 0, .int (a5 + 1), .int 1, .ref 3] (xo_push (.int 0)) rfl rfl ?_
      refine n_c [.int 0, .int 0, .int 0, .int (a5 + 1), .int 1, .ref 3] (xo_push (.int 0)) rfl rfl ?_
      refine n_c [.int 0, .int 0, .int 0, .int 0, .int (a5 + 1), .int 1, .ref 3] (xo_push (.int 0)) rfl rfl ?_
      refine n_tt [.ref 3, .int 1, .int (a5 + 1), .int 0, .int 0, .int 0, .int 0] [] rfl rfl rfl rfl (Tt.imp h (fun v23 sq h => ?_))
      obtain ⟨sa18, sk19, sf20, sc21, sz22⟩ := sq
      obtain ⟨rfl, h⟩ := h
      change Rn _ _ _ _ _ _ _ _ _ _ [] _ _
      refine n_ld rfl rfl rfl ?_
      refine n_get (v := .ref 3) rfl (hv_C (a := 84) (n := 0) rfl rfl rfl) ?_
      refine n_ld rfl rfl rfl ?_
      refine n_ld rfl rfl rfl ?_
      replace h := h _ (i_add (x := a4) (y := a5) rfl rfl)
      refine n_c [.int (a4 + a5), .ref 3] xo_iadd rfl rfl ?_
      refine n_c [.int 3, .int (a4 + a5), .ref 3] (xo_push (.int 3)) rfl rfl ?_
      refine n_ctr [.ref 3, .int (a4 + a5), .int 3] [] rfl rfl rfl (hc (42, q_42) (List.mem_of_getElem? (i := 0) rfl)) ⟨⟨_, rfl, cmem_ok rfl⟩, vK_int _, vK_int _, trivial⟩ rfl rfl (fun vq sq hv hk => ?_)
      obtain ⟨sa25, sk26, sf27, sc28, sz29⟩ := sq
      obtain ⟨k1, k2, k3, k4, k5, k6, k7⟩ := hk
      obtain rfl : sa18 = sa25 := (k1 (wmem_no rfl)).symm
      obtain rfl : sk19 = sk26 := (k2).symm
      obtain rfl : sf20 = sf27 := (k3 (wmem_no rfl)).symm
      obtain rfl : sc21 = sc28 := (k5 (wmem_no rfl)).symm
      obtain rfl : sz22 = sz29 := (k6 (wmem_no rfl)).symm
      obtain ⟨vr, rfl, x30, rfl, hl, hu⟩ := hv
      replace h := h x30 hl hu
      change Rn _ _ _ _ _ _ _ _ _ _ [.int x30] _ _
      exact n_retI rfl h
theorem kl_9_74_3 {d d0 : Nat} (hd : d = d0 + 4) (hc : ∀ p ∈ s_w9, CTR (yex d) p.1 p.2)  {a1 : Int32} {a2 : Int32} {a3 : Int32} {a4 : Int32} {a5 : Int32} {sa : Int32} {sk : Int32} {sf : Int32} {sc : Int32} {sz : Int32} {Q : Option Value → sW → Prop}  (h : wl_9_74 (fun k => Tt d wgL (wk_9 3 k) (wk_9 3 k)) 3  a1 a2 a3 a4 a5 sa sk sf sc sz Q) : Rn d wgL (((84, 5), 3, [(84, 2, 3), (84, 3, 4), (84, 4, 7), (83, 1, 3), (83, 2, 4), (75, 0, 3), (75, 1, 21), (75, 2, 25)]) : wW) (((84, 5), 3, [(84, 2, 3), (84, 3, 4), (84, 4, 7), (83, 1, 3), (83, 2, 4), (75, 0, 3), (75, 1, 21), (75, 2, 25)]) : wW) xL_1 6 (some .int) xE_9 (xE_9.drop 74) [.ref 84, .int a1, .int a2, .int a3, .int a4, .int a5, .null] [] (sa, sk, sf, sc, sz) Q := by
  obtain ⟨I, μ, h0, h1⟩ := h
  have key : ∀ (n : Nat) (a1 : Int32) (a2 : Int32) (a3 : Int32) (a4 : Int32) (a5 : Int32) (sa : Int32) (sk : Int32) (sf : Int32) (sc : Int32) (sz : Int32), μ a1 a2 a3 a4 a5 sa sk sf sc sz = n → I a1 a2 a3 a4 a5 sa sk sf sc sz → Rn d wgL (((84, 5), 3, [(84, 2, 3), (84, 3, 4), (84, 4, 7), (83, 1, 3), (83, 2, 4), (75, 0, 3), (75, 1, 21), (75, 2, 25)]) : wW) (((84, 5), 3, [(84, 2, 3), (84, 3, 4), (84, 4, 7), (83, 1, 3), (83, 2, 4), (75, 0, 3), (75, 1, 21), (75, 2, 25)]) : wW) xL_1 6 (some .int) xE_9 (xE_9.drop 74) [.ref 84, .int a1, .int a2, .int a3, .int a4, .int a5, .null] [] (sa, sk, sf, sc, sz) Q := by
    intro n
    induction n using Nat.strongRecOn with
    | ind n ih =>
      intro a1 a2 a3 a4 a5 sa sk sf sc sz e hI
      exact k_9_74_3 hd hc (fun a1' a2' a3' a4' a5' sa' sk' sf' sc' sz' q => ih _ (by rw [← e]; exact q.2) a1' a2' a3' a4' a5' sa' sk' sf' sc' sz' rfl q.1) (h1 a1 a2 a3 a4 a5 sa sk sf sc sz hI)
  exact key _ a1 a2 a3 a4 a5 sa sk sf sc sz rfl h0
set_option maxRecDepth 20000 in
theorem k_9_55_3 {d d0 : Nat} (hd : d = d0 + 4) (hc : ∀ p ∈ s_w9, CTR (yex d) p.1 p.2)  {a1 : Int32} {a2 : Int32} {t0 : Int32} {sa : Int32} {sk : Int32} {sf : Int32} {sc : Int32} {sz : Int32} {Q : Option Value → sW → Prop}  (h : w_9_55 (fun k => Tt d wgL (wk_9 3 k) (wk_9 3 k)) 3  a1 a2 t0 sa sk sf sc sz Q) : Rn d wgL (((84, 5), 3, [(84, 2, 3), (84, 3, 4), (84, 4, 7), (83, 1, 3), (83, 2, 4), (75, 0, 3), (75, 1, 21), (75, 2, 25)]) : wW) (((84, 5), 3, [(84, 2, 3), (84, 3, 4), (84, 4, 7), (83, 1, 3), (83, 2, 4), (75, 0, 3), (75, 1, 21), (75, 2, 25)]) : wW) xL_1 6 (some .int) xE_9 (xE_9.drop 55) [.ref 84, .int a1, .int a2, .null, .null, .null, .null] [.int t0] (sa, sk, sf, sc, sz) Q := by
  unfold w_9_55 at h
  refine n_st [.ref 84, .int a1, .int a2, .int t0, .null, .null, .null] rfl rfl rfl ?_
  refine n_ld rfl rfl rfl ?_
  refine n_get (v := .ref 3) rfl (hv_C (a := 84) (n := 0) rfl rfl rfl) ?_
  refine n_ld rfl rfl rfl ?_
  refine n_get (v := .ref 75) rfl (hv_R (a := 84) rfl rfl) ?_
  refine n_getI (a := 75) rfl rfl rfl (fun x1 hl hu => ?_)
  replace h := h x1
  refine n_c [.int 2, .int x1, .ref 3] (xo_push (.int 2)) rfl rfl ?_
  refine n_ctr [.ref 3, .int x1, .int 2] [] rfl rfl rfl (hc (41, q_41) (List.mem_of_getElem? (i := 1) rfl)) ⟨⟨_, rfl, cmem_ok rfl⟩, vK_int _, vK_int _, trivial⟩ rfl rfl (fun vq sq hv hk => ?_)
  obtain ⟨sa2, sk3, sf4, sc5, sz6⟩ := sq
  obtain ⟨k1, k2, k3, k4, k5, k6, k7⟩ := hk
  obtain rfl : sa = sa2 := (k1 (wmem_no rfl)).symm
  obtain rfl : sk = sk3 := (k2).symm
  obtain rfl : sf = sf4 := (k3 (wmem_no rfl)).symm
  obtain rfl : sc = sc5 := (k5 (wmem_no rfl)).symm
  obtain rfl : sz = sz6 := (k6 (wmem_no rfl)).symm
  obtain ⟨vr, rfl, x7, rfl, hl, hu⟩ := hv
  replace h := h x7 hl hu
  change Rn _ _ _ _ _ _ _ _ _ _ [.int x7] _ _
  refine n_ld rfl rfl rfl ?_
  refine n_get (v := .ref 3) rfl (hv_C (a := 84) (n := 0) rfl rfl rfl) ?_
  refine n_ld rfl rfl rfl ?_
  refine n_get (v := .ref 75) rfl (hv_R (a := 84) rfl rfl) ?_
  refine n_getI (a := 75) rfl rfl rfl (fun x8 hl hu => ?_)
  replace h := h x8
  refine n_c [.int 3, .int x8, .ref 3, .int x7] (xo_push (.int 3)) rfl rfl ?_
  refine n_ctr [.ref 3, .int x8, .int 3] [.int x7] rfl rfl rfl (hc (41, q_41) (List.mem_of_getElem? (i := 1) rfl)) ⟨⟨_, rfl, cmem_ok rfl⟩, vK_int _, vK_int _, trivial⟩ rfl rfl (fun vq sq hv hk => ?_)
  obtain ⟨sa9, sk10, sf11, sc12, sz13⟩ := sq
  obtain ⟨k1, k2, k3, k4, k5, k6, k7⟩ := hk
  obtain rfl : sa = sa9 := (k1 (wmem_no rfl)).symm
  obtain rfl : sk = sk10 := (k2).symm
  obtain rfl : sf = sf11 := (k3 (wmem_no rfl)).symm
  obtain rfl : sc = sc12 := (k5 (wmem_no rfl)).symm
  obtain rfl : sz = sz13 := (k6 (wmem_no rfl)).symm
  obtain ⟨vr, rfl, x14, rfl, hl, hu⟩ := hv
  replace h := h x14 hl hu
  change Rn _ _ _ _ _ _ _ _ _ _ [.int x14, .int x7] _ _
  replace h := h _ (i_add (x := x7) (y := x14) rfl rfl)
  refine n_c [.int (x7 + x14)] xo_iadd rfl rfl ?_
  refine n_st [.ref 84, .int a1, .int a2, .int t0, .int (x7 + x14), .null, .null] rfl rfl rfl ?_
  refine n_c [.int 0] (xo_push (.int 0)) rfl rfl ?_
  refine n_st [.ref 84, .int a1, .int a2, .int t0, .int (x7 + x14), .int 0, .null] rfl rfl rfl ?_
  exact kl_9_74_3 hd hc  h
set_option maxRecDepth 20000 in
theorem k_9_43_3 {d d0 : Nat} (hd : d = d0 + 4) (hc : ∀ p ∈ s_w9, CTR (yex d) p.1 p.2)  {a1 : Int32} {a2 : Int32} {sa : Int32} {sk : Int32} {sf : Int32} {sc : Int32} {sz : Int32} {Q : Option Value → sW → Prop}  (h : w_9_43 (fun k => Tt d wgL (wk_9 3 k) (wk_9 3 k)) 3  a1 a2 sa sk sf sc sz Q) : Rn d wgL (((84, 5), 3, [(84, 2, 3), (84, 3, 4), (84, 4, 7), (83, 1, 3), (83, 2, 4), (75, 0, 3), (75, 1, 21), (75, 2, 25)]) : wW) (((84, 5), 3, [(84, 2, 3), (84, 3, 4), (84, 4, 7), (83, 1, 3), (83, 2, 4), (75, 0, 3), (75, 1, 21), (75, 2, 25)]) : wW) xL_1 6 (some .int) xE_9 (xE_9.drop 43) [.ref 84, .int a1, .int a2, .null, .null, .null, .null] [] (sa, sk, sf, sc, sz) Q := by
  unfold w_9_43 at h
  refine n_ld rfl rfl rfl ?_
  refine n_getI (a := 84) rfl rfl rfl (fun x1 hl hu => ?_)
  replace h := h x1
  refine n_brP rfl rfl ⟨fun hcn => ?_, fun hcn => ?_⟩
  · replace h := h.1 ((i_le (x := 0) (y := x1) (show (0 : Int32).toInt = 0 by decide) rfl).mp hcn)
    refine n_ld rfl rfl rfl ?_
    refine n_get (v := .ref 3) rfl (hv_C (a := 84) (n := 0) rfl rfl rfl) ?_
    refine n_ld rfl rfl rfl ?_
    refine n_get (v := .ref 75) rfl (hv_R (a := 84) rfl rfl) ?_
    refine n_getI (a := 75) rfl rfl rfl (fun x2 hl hu => ?_)
    replace h := h x2
    refine n_c [.int 4, .int x2, .ref 3] (xo_push (.int 4)) rfl rfl ?_
    refine n_ctr [.ref 3, .int x2, .int 4] [] rfl rfl rfl (hc (41, q_41) (List.mem_of_getElem? (i := 1) rfl)) ⟨⟨_, rfl, cmem_ok rfl⟩, vK_int _, vK_int _, trivial⟩ rfl rfl (fun vq sq hv hk => ?_)
    obtain ⟨sa3, sk4, sf5, sc6, sz7⟩ := sq
    obtain ⟨k1, k2, k3, k4, k5, k6, k7⟩ := hk
    obtain rfl : sa = sa3 := (k1 (wmem_no rfl)).symm
    obtain rfl : sk = sk4 := (k2).symm
    obtain rfl : sf = sf5 := (k3 (wmem_no rfl)).symm
    obtain rfl : sc = sc6 := (k5 (wmem_no rfl)).symm
    obtain rfl : sz = sz7 := (k6 (wmem_no rfl)).symm
    obtain ⟨vr, rfl, x8, rfl, hl, hu⟩ := hv
    replace h := h x8 hl hu
    change Rn _ _ _ _ _ _ _ _ _ _ [.int x8] _ _
    exact k_9_55_3 hd hc  h
  · replace h := h.2 (fun q => hcn ((i_le (x := 0) (y := x1) (show (0 : Int32).toInt = 0 by decide) rfl).mpr q))
    refine n_c [.int 0] (xo_push (.int 0)) rfl rfl ?_
    refine n_go rfl ?_
    exact k_9_55_3 hd hc  h
set_option maxRecDepth 20000 in
theorem k_9_0_3 {d d0 : Nat} (hd : d = d0 + 4) (hc : ∀ p ∈ s_w9, CTR (yex d) p.1 p.2)  {sa : Int32} {sk : Int32} {sf : Int32} {sc : Int32} {sz : Int32} {Q : Option Value → sW → Prop}  (h : w_9_0 (fun k => Tt d wgL (wk_9 3 k) (wk_9 3 k)) 3  sa sk sf sc sz Q) : Rn d wgL (((84, 5), 3, [(84, 2, 3), (84, 3, 4), (84, 4, 7), (83, 1, 3), (83, 2, 4), (75, 0, 3), (75, 1, 21), (75, 2, 25)]) : wW) (((84, 5), 3, [(84, 2, 3), (84, 3, 4), (84, 4, 7), (83, 1, 3), (83, 2, 4), (75, 0, 3), (75, 1, 21), (75, 2, 25)]) : wW) xL_1 6 (some .int) xE_9 (xE_9.drop 0) [.ref 84, .null, .null, .null, .null, .null, .null] [] (sa, sk, sf, sc, sz) Q := by
  unfold w_9_0 at h
  refine n_ld rfl rfl rfl ?_
  refine n_get (v := .ref 4) rfl (hv_C (a := 84) (n := 1) rfl rfl rfl) ?_
  refine n_get (v := .ref 13) rfl (hv_R (a := 4) rfl rfl) ?_
  refine n_ld rfl rfl rfl ?_
  refine n_get (v := .int sa) rfl (hv_f (a := 84) rfl rfl (fun _ _ hw => hw.1.1)) ?_
  refine n_row sa [] (a := 13) hd rfl rfl rfl rfl (fun x1 g1 g2 g3 => ?_)
  replace h := h x1 g1
  refine n_st [.ref 84, .int x1, .null, .null, .null, .null, .null] rfl rfl rfl ?_
  refine n_ld rfl rfl rfl ?_
  refine n_get (v := .int sa) rfl (hv_f (a := 84) rfl rfl (fun _ _ hw => hw.1.1)) ?_
  refine n_st [.ref 84, .int x1, .int sa, .null, .null, .null, .null] rfl rfl rfl ?_
  refine n_ld rfl rfl rfl ?_
  refine n_c [.ref 84, .ref 84] xo_dup rfl rfl ?_
  refine n_get (v := .int sa) rfl (hv_f (a := 84) rfl rfl (fun _ _ hw => hw.1.1)) ?_
  refine n_c [.int 1, .int sa, .ref 84] (xo_push (.int 1)) rfl rfl ?_
  replace h := h _ (i_add (x := sa) (y := 1) rfl (show (1 : Int32).toInt = 1 by decide))
  refine n_c [.int (sa + 1), .ref 84] xo_iadd rfl rfl ?_
  refine n_put (a := 84) (w1 := (((84, 5), 3, [(84, 2, 3), (84, 3, 4), (84, 4, 7), (83, 1, 3), (83, 2, 4), (75, 0, 3), (75, 1, 21), (75, 2, 25)]) : wW)) (s1 := ((sa + 1), sk, sf, sc, sz)) rfl rfl rfl rfl (vK_int _) rfl rfl rfl (Or.inr (Or.inl (by decide +kernel))) (ws_at (w := (((84, 5), 3, [(84, 2, 3), (84, 3, 4), (84, 4, 7), (83, 1, 3), (83, 2, 4), (75, 0, 3), (75, 1, 21), (75, 2, 25)]) : wW)) (s := (sa, sk, sf, sc, sz)) rfl) ?_
  refine n_ld rfl rfl rfl ?_
  refine n_getI (a := 84) rfl rfl rfl (fun x3 hl hu => ?_)
  replace h := h x3
  refine n_brP rfl rfl ⟨fun hcn => ?_, fun hcn => ?_⟩
  · replace h := h.1 ((i_lt (x := x3) (y := 0) rfl (show (0 : Int32).toInt = 0 by decide)).mp hcn)
    exact k_9_43_3 hd hc  h
  · replace h := h.2 (fun q => hcn ((i_lt (x := x3) (y := 0) rfl (show (0 : Int32).toInt = 0 by decide)).mpr q))
    refine n_ld rfl rfl rfl ?_
    refine n_get (v := .ref 4) rfl (hv_C (a := 84) (n := 1) rfl rfl rfl) ?_
    refine n_get (v := .ref 13) rfl (hv_R (a := 4) rfl rfl) ?_
    refine n_ld rfl rfl rfl ?_
    refine n_get (v := .ref 3) rfl (hv_C (a := 84) (n := 0) rfl rfl rfl) ?_
    refine n_ld rfl rfl rfl ?_
    refine n_getI (a := 84) rfl rfl rfl (fun x4 hl hu => ?_)
    replace h := h x4
    refine n_c [.int 1, .int x4, .ref 3, .ref 13] (xo_push (.int 1)) rfl rfl ?_
    refine n_ctr [.ref 3, .int x4, .int 1] [.ref 13] rfl rfl rfl (hc (40, q_40) (List.mem_of_getElem? (i := 2) rfl)) ⟨⟨_, rfl, cmem_ok rfl⟩, vK_int _, vK_int _, trivial⟩ rfl rfl (fun vq sq hv hk => ?_)
    obtain ⟨sa5, sk6, sf7, sc8, sz9⟩ := sq
    obtain ⟨k1, k2, k3, k4, k5, k6, k7⟩ := hk
    obtain rfl : (sa + 1) = sa5 := (k1 (wmem_no rfl)).symm
    obtain rfl : sk = sk6 := (k2).symm
    obtain rfl : sf = sf7 := (k3 (wmem_no rfl)).symm
    obtain rfl : sc = sc8 := (k5 (wmem_no rfl)).symm
    obtain rfl : sz = sz9 := (k6 (wmem_no rfl)).symm
    obtain ⟨vr, rfl, x10, rfl, hl, hu⟩ := hv
    replace h := h x10 hl hu
    change Rn _ _ _ _ _ _ _ _ _ _ [.int x10, .ref 13] _ _
    refine n_row x10 [] (a := 13) hd rfl rfl rfl rfl (fun x11 g1 g2 g3 => ?_)
    replace h := h x11 g1
    refine n_ld rfl rfl rfl ?_
    refine n_brN rfl rfl ⟨fun hcn => ?_, fun hcn => ?_⟩
    · replace h := h.1 (fun q => hcn ((i_eq (x := x11) (y := x1) rfl rfl).mpr q))
      exact k_9_43_3 hd hc  h
    · replace h := h.2 ((i_eq (x := x11) (y := x1) rfl rfl).mp hcn)
      refine n_ld rfl rfl rfl ?_
      refine n_get (v := .ref 3) rfl (hv_C (a := 84) (n := 0) rfl rfl rfl) ?_
      refine n_c [.int 1, .ref 3] (xo_push (.int 1)) rfl rfl ?_
      refine n_c [.int 0, .int 1, .ref 3] (xo_push (.int 0)) rfl rfl ?_
      refine n_c [.int 0, .int 0, .int 1, .ref 3] (xo_push (.int 0)) rfl rfl ?_
      refine n_c [.int 0, .int 0, .int 0, .int 1, .ref 3] (xo_push (.int 0)) rfl rfl ?_
      refine n_c [.int 0, .int 0, .int 0, .int 0, .int 1, .ref 3] (xo_push (.int 0)) rfl rfl ?_
      refine n_c [.int 0, .int 0, .int 0, .int 0, .int 0, .int 1, .ref 3] (xo_push (.int 0)) rfl rfl ?_
      refine n_tt [.ref 3, .int 1, .int 0, .int 0, .int 0, .int 0, .int 0] [] rfl rfl rfl rfl (Tt.imp h (fun v17 sq h => ?_))
      obtain ⟨sa12, sk13, sf14, sc15, sz16⟩ := sq
      obtain ⟨rfl, h⟩ := h
      change Rn _ _ _ _ _ _ _ _ _ _ [] _ _
      refine n_ld rfl rfl rfl ?_
      refine n_getI (a := 84) rfl rfl rfl (fun x18 hl hu => ?_)
      replace h := h x18
      exact n_retI rfl h
theorem t_9_3 {d : Nat} (hc : ∀ p ∈ s_w9, CTR (yex (d + 4)) p.1 p.2) {sa : Int32} {sk : Int32} {sf : Int32} {sc : Int32} {sz : Int32} {Q : Option Value → sW → Prop} (h : w_9_0 (fun k => Tt (d + 4) wgL (wk_9 3 k) (wk_9 3 k)) 3 sa sk sf sc sz Q) : Tt (d + 5) wgL (((84, 5), 3, [(84, 2, 3), (84, 3, 4), (84, 4, 7), (83, 1, 3), (83, 2, 4), (75, 0, 3), (75, 1, 21), (75, 2, 25)]) : wW) (((84, 5), 3, [(84, 2, 3), (84, 3, 4), (84, 4, 7), (83, 1, 3), (83, 2, 4), (75, 0, 3), (75, 1, 21), (75, 2, 25)]) : wW) 9 [.ref 84] (sa, sk, sf, sc, sz) Q := tt_of (E := xE_9) (L := xL_1) (ml := 6) (ret := some .int) rfl rfl rfl (k_9_0_3 rfl hc h)
set_option maxRecDepth 20000 in
theorem k_9_74_39 {d d0 : Nat} (hd : d = d0 + 4) (hc : ∀ p ∈ s_w9, CTR (yex d) p.1 p.2) {R74 : Int32 → Int32 → Int32 → Int32 → Int32 → Int32 → Int32 → Int32 → Int32 → Int32 → Prop} {a1 : Int32} {a2 : Int32} {a3 : Int32} {a4 : Int32} {a5 : Int32} {sa : Int32} {sk : Int32} {sf : Int32} {sc : Int32} {sz : Int32} {Q : Option Value → sW → Prop} (r74 : ∀ a1 a2 a3 a4 a5 sa sk sf sc sz, R74 a1 a2 a3 a4 a5 sa sk sf sc sz → Rn d wgL (((84, 5), 39, [(84, 2, 39), (84, 3, 40), (84, 4, 43), (83, 1, 39), (83, 2, 40), (75, 0, 39), (75, 1, 57), (75, 2, 61)]) : wW) (((84, 5), 39, [(84, 2, 39), (84, 3, 40), (84, 4, 43), (83, 1, 39), (83, 2, 40), (75, 0, 39), (75, 1, 57), (75, 2, 61)]) : wW) xL_1 6 (some .int) xE_9 (xE_9.drop 74) [.ref 84, .int a1, .int a2, .int a3, .int a4, .int a5, .null] [] (sa, sk, sf, sc, sz) Q) (h : w_9_74 (fun k => Tt d wgL (wk_9 39 k) (wk_9 39 k)) 39 R74 a1 a2 a3 a4 a5 sa sk sf sc sz Q) : Rn d wgL (((84, 5), 39, [(84, 2, 39), (84, 3, 40), (84, 4, 43), (83, 1, 39), (83, 2, 40), (75, 0, 39), (75, 1, 57), (75, 2, 61)]) : wW) (((84, 5), 39, [(84, 2, 39), (84, 3, 40), (84, 4, 43), (83, 1, 39), (83, 2, 40), (75, 0, 39), (75, 1, 57), (75, 2, 61)]) : wW) xL_1 6 (some .int) xE_9 (xE_9.drop 74) [.ref 84, .int a1, .int a2, .int a3, .int a4, .int a5, .null] [] (sa, sk, sf, sc, sz) Q := by
  unfold w_9_74 at h
  refine n_ld rfl rfl rfl ?_
  refine n_ld rfl rfl rfl ?_
  refine n_brP rfl rfl ⟨fun hcn => ?_, fun hcn => ?_⟩
  · replace h := h.1 ((i_le (x := a3) (y := a5) rfl rfl).mp hcn)
    refine n_ld rfl rfl rfl ?_
    refine n_get (v := .ref 39) rfl (hv_C (a := 84) (n := 0) rfl rfl rfl) ?_
    refine n_c [.int 2, .ref 39] (xo_push (.int 2)) rfl rfl ?_
    refine n_ld rfl rfl rfl ?_
    refine n_tt [.ref 39, .int 2, .int a2] [] rfl rfl rfl rfl (Tt.imp h (fun v6 sq h => ?_))
    obtain ⟨sa1, sk2, sf3, sc4, sz5⟩ := sq
    obtain ⟨rfl, h⟩ := h
    change Rn _ _ _ _ _ _ _ _ _ _ [] _ _
    refine n_ld rfl rfl rfl ?_
    refine n_getI (a := 84) rfl rfl rfl (fun x7 hl hu => ?_)
    replace h := h x7
    exact n_retI rfl h
  · replace h := h.2 (fun q => hcn ((i_le (x := a3) (y := a5) rfl rfl).mpr q))
    refine n_ld rfl rfl rfl ?_
    refine n_get (v := .ref 40) rfl (hv_C (a := 84) (n := 1) rfl rfl rfl) ?_
    refine n_get (v := .ref 49) rfl (hv_R (a := 40) rfl rfl) ?_
    refine n_ld rfl rfl rfl ?_
    refine n_get (v := .ref 39) rfl (hv_C (a := 84) (n := 0) rfl rfl rfl) ?_
    refine n_ld rfl rfl rfl ?_
    refine n_ld rfl rfl rfl ?_
    replace h := h _ (i_add (x := a4) (y := a5) rfl rfl)
    refine n_c [.int (a4 + a5), .ref 39, .ref 49] xo_iadd rfl rfl ?_
    refine n_c [.int 0, .int (a4 + a5), .ref 39, .ref 49] (xo_push (.int 0)) rfl rfl ?_
    refine n_ctr [.ref 39, .int (a4 + a5), .int 0] [.ref 49] rfl rfl rfl (hc (42, q_42) (List.mem_of_getElem? (i := 0) rfl)) ⟨⟨_, rfl, cmem_ok rfl⟩, vK_int _, vK_int _, trivial⟩ rfl rfl (fun vq sq hv hk => ?_)
    obtain ⟨sa9, sk10, sf11, sc12, sz13⟩ := sq
    obtain ⟨k1, k2, k3, k4, k5, k6, k7⟩ := hk
    obtain rfl : sa = sa9 := (k1 (wmem_no rfl)).symm
    obtain rfl : sk = sk10 := (k2).symm
    obtain rfl : sf = sf11 := (k3 (wmem_no rfl)).symm
    obtain rfl : sc = sc12 := (k5 (wmem_no rfl)).symm
    obtain rfl : sz = sz13 := (k6 (wmem_no rfl)).symm
    obtain ⟨vr, rfl, x14, rfl, hl, hu⟩ := hv
    replace h := h x14 hl hu
    change Rn _ _ _ _ _ _ _ _ _ _ [.int x14, .ref 49] _ _
    refine n_row x14 [] (a := 49) hd rfl rfl rfl rfl (fun x15 g1 g2 g3 => ?_)
    replace h := h x15 g1
    refine n_ld rfl rfl rfl ?_
    refine n_brN rfl rfl ⟨fun hcn => ?_, fun hcn => ?_⟩
    · replace h := h.1 (fun q => hcn ((i_eq (x := x15) (y := a1) rfl rfl).mpr q))
      replace h := h _ (i_add (x := a5) (y := 1) rfl (show (1 : Int32).toInt = 1 by decide))
      refine n_inc [.ref 84, .int a1, .int a2, .int a3, .int a4, .int (a5 + 1), .null] rfl rfl rfl rfl ?_
      refine n_go rfl ?_
      exact r74 a1 a2 a3 a4 (a5 + 1) sa sk sf sc sz h
    · replace h := h.2 ((i_eq (x := x15) (y := a1) rfl rfl).mp hcn)
      refine n_ld rfl rfl rfl ?_
      refine n_get (v := .ref 39) rfl (hv_C (a := 84) (n := 0) rfl rfl rfl) ?_
      refine n_c [.int 1, .ref 39] (xo_push (.int 1)) rfl rfl ?_
      refine n_ld rfl rfl rfl ?_
      refine n_c [.int 1, .int a5, .int 1, .ref 39] (xo_push (.int 1)) rfl rfl ?_
      replace h := h _ (i_add (x := a5) (y := 1) rfl (show (1 : Int32).toInt = 1 by decide))
      refine n_c [.int (a5 + 1), .int 1, .ref 39] xo_iadd rfl rfl ?_
      refine n_c [.int 0, .int (a5 + 1), .int 1, .ref 39] (xo_push (.int 0)) rfl rfl ?_
      refine n_c [.int 0, .int 0, .int (a5 + 1), .int 1, .ref 39] (xo_push (.int 0)) rfl rfl ?_
      refine n_c [.int 0, .int 0, .int 0, .int (a5 + 1), .int 1, .ref 39] (xo_push (.int 0)) rfl rfl ?_
      refine n_c [.int 0, .int 0, .int 0, .int 0, .int (a5 + 1), .int 1, .ref 39] (xo_push (.int 0)) rfl rfl ?_
      refine n_tt [.ref 39, .int 1, .int (a5 + 1), .int 0, .int 0, .int 0, .int 0] [] rfl rfl rfl rfl (Tt.imp h (fun v23 sq h => ?_))
      obtain ⟨sa18, sk19, sf20, sc21, sz22⟩ := sq
      obtain ⟨rfl, h⟩ := h
      change Rn _ _ _ _ _ _ _ _ _ _ [] _ _
      refine n_ld rfl rfl rfl ?_
      refine n_get (v := .ref 39) rfl (hv_C (a := 84) (n := 0) rfl rfl rfl) ?_
      refine n_ld rfl rfl rfl ?_
      refine n_ld rfl rfl rfl ?_
      replace h := h _ (i_add (x := a4) (y := a5) rfl rfl)
      refine n_c [.int (a4 + a5), .ref 39] xo_iadd rfl rfl ?_
      refine n_c [.int 3, .int (a4 + a5), .ref 39] (xo_push (.int 3)) rfl rfl ?_
      refine n_ctr [.ref 39, .int (a4 + a5), .int 3] [] rfl rfl rfl (hc (42, q_42) (List.mem_of_getElem? (i := 0) rfl)) ⟨⟨_, rfl, cmem_ok rfl⟩, vK_int _, vK_int _, trivial⟩ rfl rfl (fun vq sq hv hk => ?_)
      obtain ⟨sa25, sk26, sf27, sc28, sz29⟩ := sq
      obtain ⟨k1, k2, k3, k4, k5, k6, k7⟩ := hk
      obtain rfl : sa18 = sa25 := (k1 (wmem_no rfl)).symm
      obtain rfl : sk19 = sk26 := (k2).symm
      obtain rfl : sf20 = sf27 := (k3 (wmem_no rfl)).symm
      obtain rfl : sc21 = sc28 := (k5 (wmem_no rfl)).symm
      obtain rfl : sz22 = sz29 := (k6 (wmem_no rfl)).symm
      obtain ⟨vr, rfl, x30, rfl, hl, hu⟩ := hv
      replace h := h x30 hl hu
      change Rn _ _ _ _ _ _ _ _ _ _ [.int x30] _ _
      exact n_retI rfl h
theorem kl_9_74_39 {d d0 : Nat} (hd : d = d0 + 4) (hc : ∀ p ∈ s_w9, CTR (yex d) p.1 p.2)  {a1 : Int32} {a2 : Int32} {a3 : Int32} {a4 : Int32} {a5 : Int32} {sa : Int32} {sk : Int32} {sf : Int32} {sc : Int32} {sz : Int32} {Q : Option Value → sW → Prop}  (h : wl_9_74 (fun k => Tt d wgL (wk_9 39 k) (wk_9 39 k)) 39  a1 a2 a3 a4 a5 sa sk sf sc sz Q) : Rn d wgL (((84, 5), 39, [(84, 2, 39), (84, 3, 40), (84, 4, 43), (83, 1, 39), (83, 2, 40), (75, 0, 39), (75, 1, 57), (75, 2, 61)]) : wW) (((84, 5), 39, [(84, 2, 39), (84, 3, 40), (84, 4, 43), (83, 1, 39), (83, 2, 40), (75, 0, 39), (75, 1, 57), (75, 2, 61)]) : wW) xL_1 6 (some .int) xE_9 (xE_9.drop 74) [.ref 84, .int a1, .int a2, .int a3, .int a4, .int a5, .null] [] (sa, sk, sf, sc, sz) Q := by
  obtain ⟨I, μ, h0, h1⟩ := h
  have key : ∀ (n : Nat) (a1 : Int32) (a2 : Int32) (a3 : Int32) (a4 : Int32) (a5 : Int32) (sa : Int32) (sk : Int32) (sf : Int32) (sc : Int32) (sz : Int32), μ a1 a2 a3 a4 a5 sa sk sf sc sz = n → I a1 a2 a3 a4 a5 sa sk sf sc sz → Rn d wgL (((84, 5), 39, [(84, 2, 39), (84, 3, 40), (84, 4, 43), (83, 1, 39), (83, 2, 40), (75, 0, 39), (75, 1, 57), (75, 2, 61)]) : wW) (((84, 5), 39, [(84, 2, 39), (84, 3, 40), (84, 4, 43), (83, 1, 39), (83, 2, 40), (75, 0, 39), (75, 1, 57), (75, 2, 61)]) : wW) xL_1 6 (some .int) xE_9 (xE_9.drop 74) [.ref 84, .int a1, .int a2, .int a3, .int a4, .int a5, .null] [] (sa, sk, sf, sc, sz) Q := by
    intro n
    induction n using Nat.strongRecOn with
    | ind n ih =>
      intro a1 a2 a3 a4 a5 sa sk sf sc sz e hI
      exact k_9_74_39 hd hc (fun a1' a2' a3' a4' a5' sa' sk' sf' sc' sz' q => ih _ (by rw [← e]; exact q.2) a1' a2' a3' a4' a5' sa' sk' sf' sc' sz' rfl q.1) (h1 a1 a2 a3 a4 a5 sa sk sf sc sz hI)
  exact key _ a1 a2 a3 a4 a5 sa sk sf sc sz rfl h0
set_option maxRecDepth 20000 in
theorem k_9_55_39 {d d0 : Nat} (hd : d = d0 + 4) (hc : ∀ p ∈ s_w9, CTR (yex d) p.1 p.2)  {a1 : Int32} {a2 : Int32} {t0 : Int32} {sa : Int32} {sk : Int32} {sf : Int32} {sc : Int32} {sz : Int32} {Q : Option Value → sW → Prop}  (h : w_9_55 (fun k => Tt d wgL (wk_9 39 k) (wk_9 39 k)) 39  a1 a2 t0 sa sk sf sc sz Q) : Rn d wgL (((84, 5), 39, [(84, 2, 39), (84, 3, 40), (84, 4, 43), (83, 1, 39), (83, 2, 40), (75, 0, 39), (75, 1, 57), (75, 2, 61)]) : wW) (((84, 5), 39, [(84, 2, 39), (84, 3, 40), (84, 4, 43), (83, 1, 39), (83, 2, 40), (75, 0, 39), (75, 1, 57), (75, 2, 61)]) : wW) xL_1 6 (some .int) xE_9 (xE_9.drop 55) [.ref 84, .int a1, .int a2, .null, .null, .null, .null] [.int t0] (sa, sk, sf, sc, sz) Q := by
  unfold w_9_55 at h
  refine n_st [.ref 84, .int a1, .int a2, .int t0, .null, .null, .null] rfl rfl rfl ?_
  refine n_ld rfl rfl rfl ?_
  refine n_get (v := .ref 39) rfl (hv_C (a := 84) (n := 0) rfl rfl rfl) ?_
  refine n_ld rfl rfl rfl ?_
  refine n_get (v := .ref 75) rfl (hv_R (a := 84) rfl rfl) ?_
  refine n_getI (a := 75) rfl rfl rfl (fun x1 hl hu => ?_)
  replace h := h x1
  refine n_c [.int 2, .int x1, .ref 39] (xo_push (.int 2)) rfl rfl ?_
  refine n_ctr [.ref 39, .int x1, .int 2] [] rfl rfl rfl (hc (41, q_41) (List.mem_of_getElem? (i := 1) rfl)) ⟨⟨_, rfl, cmem_ok rfl⟩, vK_int _, vK_int _, trivial⟩ rfl rfl (fun vq sq hv hk => ?_)
  obtain ⟨sa2, sk3, sf4, sc5, sz6⟩ := sq
  obtain ⟨k1, k2, k3, k4, k5, k6, k7⟩ := hk
  obtain rfl : sa = sa2 := (k1 (wmem_no rfl)).symm
  obtain rfl : sk = sk3 := (k2).symm
  obtain rfl : sf = sf4 := (k3 (wmem_no rfl)).symm
  obtain rfl : sc = sc5 := (k5 (wmem_no rfl)).symm
  obtain rfl : sz = sz6 := (k6 (wmem_no rfl)).symm
  obtain ⟨vr, rfl, x7, rfl, hl, hu⟩ := hv
  replace h := h x7 hl hu
  change Rn _ _ _ _ _ _ _ _ _ _ [.int x7] _ _
  refine n_ld rfl rfl rfl ?_
  refine n_get (v := .ref 39) rfl (hv_C (a := 84) (n := 0) rfl rfl rfl) ?_
  refine n_ld rfl rfl rfl ?_
  refine n_get (v := .ref 75) rfl (hv_R (a := 84) rfl rfl) ?_
  refine n_getI (a := 75) rfl rfl rfl (fun x8 hl hu => ?_)
  replace h := h x8
  refine n_c [.int 3, .int x8, .ref 39, .int x7] (xo_push (.int 3)) rfl rfl ?_
  refine n_ctr [.ref 39, .int x8, .int 3] [.int x7] rfl rfl rfl (hc (41, q_41) (List.mem_of_getElem? (i := 1) rfl)) ⟨⟨_, rfl, cmem_ok rfl⟩, vK_int _, vK_int _, trivial⟩ rfl rfl (fun vq sq hv hk => ?_)
  obtain ⟨sa9, sk10, sf11, sc12, sz13⟩ := sq
  obtain ⟨k1, k2, k3, k4, k5, k6, k7⟩ := hk
  obtain rfl : sa = sa9 := (k1 (wmem_no rfl)).symm
  obtain rfl : sk = sk10 := (k2).symm
  obtain rfl : sf = sf11 := (k3 (wmem_no rfl)).symm
  obtain rfl : sc = sc12 := (k5 (wmem_no rfl)).symm
  obtain rfl : sz = sz13 := (k6 (wmem_no rfl)).symm
  obtain ⟨vr, rfl, x14, rfl, hl, hu⟩ := hv
  replace h := h x14 hl hu
  change Rn _ _ _ _ _ _ _ _ _ _ [.int x14, .int x7] _ _
  replace h := h _ (i_add (x := x7) (y := x14) rfl rfl)
  refine n_c [.int (x7 + x14)] xo_iadd rfl rfl ?_
  refine n_st [.ref 84, .int a1, .int a2, .int t0, .int (x7 + x14), .null, .null] rfl rfl rfl ?_
  refine n_c [.int 0] (xo_push (.int 0)) rfl rfl ?_
  refine n_st [.ref 84, .int a1, .int a2, .int t0, .int (x7 + x14), .int 0, .null] rfl rfl rfl ?_
  exact kl_9_74_39 hd hc  h
set_option maxRecDepth 20000 in
theorem k_9_43_39 {d d0 : Nat} (hd : d = d0 + 4) (hc : ∀ p ∈ s_w9, CTR (yex d) p.1 p.2)  {a1 : Int32} {a2 : Int32} {sa : Int32} {sk : Int32} {sf : Int32} {sc : Int32} {sz : Int32} {Q : Option Value → sW → Prop}  (h : w_9_43 (fun k => Tt d wgL (wk_9 39 k) (wk_9 39 k)) 39  a1 a2 sa sk sf sc sz Q) : Rn d wgL (((84, 5), 39, [(84, 2, 39), (84, 3, 40), (84, 4, 43), (83, 1, 39), (83, 2, 40), (75, 0, 39), (75, 1, 57), (75, 2, 61)]) : wW) (((84, 5), 39, [(84, 2, 39), (84, 3, 40), (84, 4, 43), (83, 1, 39), (83, 2, 40), (75, 0, 39), (75, 1, 57), (75, 2, 61)]) : wW) xL_1 6 (some .int) xE_9 (xE_9.drop 43) [.ref 84, .int a1, .int a2, .null, .null, .null, .null] [] (sa, sk, sf, sc, sz) Q := by
  unfold w_9_43 at h
  refine n_ld rfl rfl rfl ?_
  refine n_getI (a := 84) rfl rfl rfl (fun x1 hl hu => ?_)
  replace h := h x1
  refine n_brP rfl rfl ⟨fun hcn => ?_, fun hcn => ?_⟩
  · replace h := h.1 ((i_le (x := 0) (y := x1) (show (0 : Int32).toInt = 0 by decide) rfl).mp hcn)
    refine n_ld rfl rfl rfl ?_
    refine n_get (v := .ref 39) rfl (hv_C (a := 84) (n := 0) rfl rfl rfl) ?_
    refine n_ld rfl rfl rfl ?_
    refine n_get (v := .ref 75) rfl (hv_R (a := 84) rfl rfl) ?_
    refine n_getI (a := 75) rfl rfl rfl (fun x2 hl hu => ?_)
    replace h := h x2
    refine n_c [.int 4, .int x2, .ref 39] (xo_push (.int 4)) rfl rfl ?_
    refine n_ctr [.ref 39, .int x2, .int 4] [] rfl rfl rfl (hc (41, q_41) (List.mem_of_getElem? (i := 1) rfl)) ⟨⟨_, rfl, cmem_ok rfl⟩, vK_int _, vK_int _, trivial⟩ rfl rfl (fun vq sq hv hk => ?_)
    obtain ⟨sa3, sk4, sf5, sc6, sz7⟩ := sq
    obtain ⟨k1, k2, k3, k4, k5, k6, k7⟩ := hk
    obtain rfl : sa = sa3 := (k1 (wmem_no rfl)).symm
    obtain rfl : sk = sk4 := (k2).symm
    obtain rfl : sf = sf5 := (k3 (wmem_no rfl)).symm
    obtain rfl : sc = sc6 := (k5 (wmem_no rfl)).symm
    obtain rfl : sz = sz7 := (k6 (wmem_no rfl)).symm
    obtain ⟨vr, rfl, x8, rfl, hl, hu⟩ := hv
    replace h := h x8 hl hu
    change Rn _ _ _ _ _ _ _ _ _ _ [.int x8] _ _
    exact k_9_55_39 hd hc  h
  · replace h := h.2 (fun q => hcn ((i_le (x := 0) (y := x1) (show (0 : Int32).toInt = 0 by decide) rfl).mpr q))
    refine n_c [.int 0] (xo_push (.int 0)) rfl rfl ?_
    refine n_go rfl ?_
    exact k_9_55_39 hd hc  h
set_option maxRecDepth 20000 in
theorem k_9_0_39 {d d0 : Nat} (hd : d = d0 + 4) (hc : ∀ p ∈ s_w9, CTR (yex d) p.1 p.2)  {sa : Int32} {sk : Int32} {sf : Int32} {sc : Int32} {sz : Int32} {Q : Option Value → sW → Prop}  (h : w_9_0 (fun k => Tt d wgL (wk_9 39 k) (wk_9 39 k)) 39  sa sk sf sc sz Q) : Rn d wgL (((84, 5), 39, [(84, 2, 39), (84, 3, 40), (84, 4, 43), (83, 1, 39), (83, 2, 40), (75, 0, 39), (75, 1, 57), (75, 2, 61)]) : wW) (((84, 5), 39, [(84, 2, 39), (84, 3, 40), (84, 4, 43), (83, 1, 39), (83, 2, 40), (75, 0, 39), (75, 1, 57), (75, 2, 61)]) : wW) xL_1 6 (some .int) xE_9 (xE_9.drop 0) [.ref 84, .null, .null, .null, .null, .null, .null] [] (sa, sk, sf, sc, sz) Q := by
  unfold w_9_0 at h
  refine n_ld rfl rfl rfl ?_
  refine n_get (v := .ref 40) rfl (hv_C (a := 84) (n := 1) rfl rfl rfl) ?_
  refine n_get (v := .ref 49) rfl (hv_R (a := 40) rfl rfl) ?_
  refine n_ld rfl rfl rfl ?_
  refine n_get (v := .int sa) rfl (hv_f (a := 84) rfl rfl (fun _ _ hw => hw.1.1)) ?_
  refine n_row sa [] (a := 49) hd rfl rfl rfl rfl (fun x1 g1 g2 g3 => ?_)
  replace h := h x1 g1
  refine n_st [.ref 84, .int x1, .null, .null, .null, .null, .null] rfl rfl rfl ?_
  refine n_ld rfl rfl rfl ?_
  refine n_get (v := .int sa) rfl (hv_f (a := 84) rfl rfl (fun _ _ hw => hw.1.1)) ?_
  refine n_st [.ref 84, .int x1, .int sa, .null, .null, .null, .null] rfl rfl rfl ?_
  refine n_ld rfl rfl rfl ?_
  refine n_c [.ref 84, .ref 84] xo_dup rfl rfl ?_
  refine n_get (v := .int sa) rfl (hv_f (a := 84) rfl rfl (fun _ _ hw => hw.1.1)) ?_
  refine n_c [.int 1, .int sa, .ref 84] (xo_push (.int 1)) rfl rfl ?_
  replace h := h _ (i_add (x := sa) (y := 1) rfl (show (1 : Int32).toInt = 1 by decide))
  refine n_c [.int (sa + 1), .ref 84] xo_iadd rfl rfl ?_
  refine n_put (a := 84) (w1 := (((84, 5), 39, [(84, 2, 39), (84, 3, 40), (84, 4, 43), (83, 1, 39), (83, 2, 40), (75, 0, 39), (75, 1, 57), (75, 2, 61)]) : wW)) (s1 := ((sa + 1), sk, sf, sc, sz)) rfl rfl rfl rfl (vK_int _) rfl rfl rfl (Or.inr (Or.inl (by decide +kernel))) (ws_at (w := (((84, 5), 39, [(84, 2, 39), (84, 3, 40), (84, 4, 43), (83, 1, 39), (83, 2, 40), (75, 0, 39), (75, 1, 57), (75, 2, 61)]) : wW)) (s := (sa, sk, sf, sc, sz)) rfl) ?_
  refine n_ld rfl rfl rfl ?_
  refine n_getI (a := 84) rfl rfl rfl (fun x3 hl hu => ?_)
  replace h := h x3
  refine n_brP rfl rfl ⟨fun hcn => ?_, fun hcn => ?_⟩
  · replace h := h.1 ((i_lt (x := x3) (y := 0) rfl (show (0 : Int32).toInt = 0 by decide)).mp hcn)
    exact k_9_43_39 hd hc  h
  · replace h := h.2 (fun q => hcn ((i_lt (x := x3) (y := 0) rfl (show (0 : Int32).toInt = 0 by decide)).mpr q))
    refine n_ld rfl rfl rfl ?_
    refine n_get (v := .ref 40) rfl (hv_C (a := 84) (n := 1) rfl rfl rfl) ?_
    refine n_get (v := .ref 49) rfl (hv_R (a := 40) rfl rfl) ?_
    refine n_ld rfl rfl rfl ?_
    refine n_get (v := .ref 39) rfl (hv_C (a := 84) (n := 0) rfl rfl rfl) ?_
    refine n_ld rfl rfl rfl ?_
    refine n_getI (a := 84) rfl rfl rfl (fun x4 hl hu => ?_)
    replace h := h x4
    refine n_c [.int 1, .int x4, .ref 39, .ref 49] (xo_push (.int 1)) rfl rfl ?_
    refine n_ctr [.ref 39, .int x4, .int 1] [.ref 49] rfl rfl rfl (hc (40, q_40) (List.mem_of_getElem? (i := 2) rfl)) ⟨⟨_, rfl, cmem_ok rfl⟩, vK_int _, vK_int _, trivial⟩ rfl rfl (fun vq sq hv hk => ?_)
    obtain ⟨sa5, sk6, sf7, sc8, sz9⟩ := sq
    obtain ⟨k1, k2, k3, k4, k5, k6, k7⟩ := hk
    obtain rfl : (sa + 1) = sa5 := (k1 (wmem_no rfl)).symm
    obtain rfl : sk = sk6 := (k2).symm
    obtain rfl : sf = sf7 := (k3 (wmem_no rfl)).symm
    obtain rfl : sc = sc8 := (k5 (wmem_no rfl)).symm
    obtain rfl : sz = sz9 := (k6 (wmem_no rfl)).symm
    obtain ⟨vr, rfl, x10, rfl, hl, hu⟩ := hv
    replace h := h x10 hl hu
    change Rn _ _ _ _ _ _ _ _ _ _ [.int x10, .ref 49] _ _
    refine n_row x10 [] (a := 49) hd rfl rfl rfl rfl (fun x11 g1 g2 g3 => ?_)
    replace h := h x11 g1
    refine n_ld rfl rfl rfl ?_
    refine n_brN rfl rfl ⟨fun hcn => ?_, fun hcn => ?_⟩
    · replace h := h.1 (fun q => hcn ((i_eq (x := x11) (y := x1) rfl rfl).mpr q))
      exact k_9_43_39 hd hc  h
    · replace h := h.2 ((i_eq (x := x11) (y := x1) rfl rfl).mp hcn)
      refine n_ld rfl rfl rfl ?_
      refine n_get (v := .ref 39) rfl (hv_C (a := 84) (n := 0) rfl rfl rfl) ?_
      refine n_c [.int 1, .ref 39] (xo_push (.int 1)) rfl rfl ?_
      refine n_c [.int 0, .int 1, .ref 39] (xo_push (.int 0)) rfl rfl ?_
      refine n_c [.int 0, .int 0, .int 1, .ref 39] (xo_push (.int 0)) rfl rfl ?_
      refine n_c [.int 0, .int 0, .int 0, .int 1, .ref 39] (xo_push (.int 0)) rfl rfl ?_
      refine n_c [.int 0, .int 0, .int 0, .int 0, .int 1, .ref 39] (xo_push (.int 0)) rfl rfl ?_
      refine n_c [.int 0, .int 0, .int 0, .int 0, .int 0, .int 1, .ref 39] (xo_push (.int 0)) rfl rfl ?_
      refine n_tt [.ref 39, .int 1, .int 0, .int 0, .int 0, .int 0, .int 0] [] rfl rfl rfl rfl (Tt.imp h (fun v17 sq h => ?_))
      obtain ⟨sa12, sk13, sf14, sc15, sz16⟩ := sq
      obtain ⟨rfl, h⟩ := h
      change Rn _ _ _ _ _ _ _ _ _ _ [] _ _
      refine n_ld rfl rfl rfl ?_
      refine n_getI (a := 84) rfl rfl rfl (fun x18 hl hu => ?_)
      replace h := h x18
      exact n_retI rfl h
theorem t_9_39 {d : Nat} (hc : ∀ p ∈ s_w9, CTR (yex (d + 4)) p.1 p.2) {sa : Int32} {sk : Int32} {sf : Int32} {sc : Int32} {sz : Int32} {Q : Option Value → sW → Prop} (h : w_9_0 (fun k => Tt (d + 4) wgL (wk_9 39 k) (wk_9 39 k)) 39 sa sk sf sc sz Q) : Tt (d + 5) wgL (((84, 5), 39, [(84, 2, 39), (84, 3, 40), (84, 4, 43), (83, 1, 39), (83, 2, 40), (75, 0, 39), (75, 1, 57), (75, 2, 61)]) : wW) (((84, 5), 39, [(84, 2, 39), (84, 3, 40), (84, 4, 43), (83, 1, 39), (83, 2, 40), (75, 0, 39), (75, 1, 57), (75, 2, 61)]) : wW) 9 [.ref 84] (sa, sk, sf, sc, sz) Q := tt_of (E := xE_9) (L := xL_1) (ml := 6) (ret := some .int) rfl rfl rfl (k_9_0_39 rfl hc h)
/-! FeatherBench$Bodies.enterFunc -/
def wk_6 (P : Nat) : Nat → wW
  | _ => (((84, 5), P, [(84, 2, P), (84, 3, (P + 1)), (84, 4, (P + 4)), (83, 1, P), (83, 2, (P + 1)), (75, 0, P), (75, 1, (P + 18)), (75, 2, (P + 22))]) : wW)
def s_w6 : List (Nat × cSg) := [(40, q_40), (77, q_77_3), (77, q_77), (82, q_82)]
def w_6_45 (T : Nat → Nat → List Value → sW → (Option Value → sW → Prop) → Prop) (P : Nat) (R45 : Int32 → Int32 → Int32 → Int32 → Int32 → Int32 → Int32 → Int32 → Prop) (a1 : Int32) (a2 : Int32) (a3 : Int32) (sa : Int32) (sk : Int32) (sf : Int32) (sc : Int32) (sz : Int32) (Q : Option Value → sW → Prop) : Prop :=
  ∀ x1 : Int32, (0 ≤ x1.toInt ∧ x1.toInt ≤ 7) → (x1.toInt ≤ a3.toInt → ∀ x7 : Int32, -1 ≤ x7.toInt → x7.toInt ≤ 5000 → ∀ x8 : Int32, (-2147483648 ≤ a1.toInt * 10 ∧ a1.toInt * 10 ≤ 2147483647 → x8.toInt = a1.toInt * 10) → ∀ x9 : Int32, (-2147483648 ≤ x8.toInt + 8 ∧ x8.toInt + 8 ≤ 2147483647 → x9.toInt = x8.toInt + 8) → ∀ x10 : Int32, (0 ≤ sc.toInt → x10.toInt = sc.toInt / 6) → (-1 ≤ x10.toInt ∧ x10.toInt ≤ 5000) ∧ (Q none (x7, sk, sf, sc, sz))) ∧ (¬ (x1.toInt ≤ a3.toInt) → ∀ x16 : Int32, ∀ x17 : Int32, (-2147483648 ≤ x16.toInt + 1 ∧ x16.toInt + 1 ≤ 2147483647 → x17.toInt = x16.toInt + 1) → ∀ x18 : Int32, (-2147483648 ≤ x17.toInt + a3.toInt ∧ x17.toInt + a3.toInt ≤ 2147483647 → x18.toInt = x17.toInt + a3.toInt) → ∀ x19 : Int32, (-2147483648 ≤ 24 + a3.toInt ∧ 24 + a3.toInt ≤ 2147483647 → x19.toInt = 24 + a3.toInt) → ∀ x25 : Int32, (-2147483648 ≤ a3.toInt + 1 ∧ a3.toInt + 1 ≤ 2147483647 → x25.toInt = a3.toInt + 1) → R45 a1 a2 x25 sa sk sf sc sz)
def wl_6_45 (T : Nat → Nat → List Value → sW → (Option Value → sW → Prop) → Prop) (P : Nat)  (a1 : Int32) (a2 : Int32) (a3 : Int32) (sa : Int32) (sk : Int32) (sf : Int32) (sc : Int32) (sz : Int32) (Q : Option Value → sW → Prop) : Prop :=
  ∃ (I : Int32 → Int32 → Int32 → Int32 → Int32 → Int32 → Int32 → Int32 → Prop) (μ : Int32 → Int32 → Int32 → Int32 → Int32 → Int32 → Int32 → Int32 → Nat), I a1 a2 a3 sa sk sf sc sz ∧ ∀ (a1 : Int32) (a2 : Int32) (a3 : Int32) (sa : Int32) (sk : Int32) (sf : Int32) (sc : Int32) (sz : Int32), I a1 a2 a3 sa sk sf sc sz → w_6_45 T P (fun a1' a2' a3' sa' sk' sf' sc' sz' => I a1' a2' a3' sa' sk' sf' sc' sz' ∧ μ a1' a2' a3' sa' sk' sf' sc' sz' < μ a1 a2 a3 sa sk sf sc sz) a1 a2 a3 sa sk sf sc sz Q
def w_6_0 (T : Nat → Nat → List Value → sW → (Option Value → sW → Prop) → Prop) (P : Nat)  (a1 : Int32) (sa : Int32) (sk : Int32) (sf : Int32) (sc : Int32) (sz : Int32) (Q : Option Value → sW → Prop) : Prop :=
  ∀ x6 : Int32, -1 ≤ x6.toInt → x6.toInt ≤ 5000 → ∀ x12 : Int32, -1 ≤ x12.toInt → x12.toInt ≤ 5000 → ∀ x18 : Int32, -1 ≤ x18.toInt → x18.toInt ≤ 5000 → ∀ x24 : Int32, (0 ≤ x24.toInt ∧ x24.toInt ≤ 7) → ∀ x25 : Int32, (-2147483648 ≤ 19 + x24.toInt ∧ 19 + x24.toInt ≤ 2147483647 → x25.toInt = 19 + x24.toInt) → ∀ x26 : Int32, wl_6_45 T P  a1 x6 0 sa sk sf sc sz Q
set_option maxRecDepth 20000 in
theorem k_6_45_3 {d d0 : Nat} (hd : d = d0 + 4) (hc : ∀ p ∈ s_w6, CTR (yex d) p.1 p.2) {R45 : Int32 → Int32 → Int32 → Int32 → Int32 → Int32 → Int32 → Int32 → Prop} {a1 : Int32} {a2 : Int32} {a3 : Int32} {sa : Int32} {sk : Int32} {sf : Int32} {sc : Int32} {sz : Int32} {Q : Option Value → sW → Prop} (r45 : ∀ a1 a2 a3 sa sk sf sc sz, R45 a1 a2 a3 sa sk sf sc sz → Rn d wgL (((84, 5), 3, [(84, 2, 3), (84, 3, 4), (84, 4, 7), (83, 1, 3), (83, 2, 4), (75, 0, 3), (75, 1, 21), (75, 2, 25)]) : wW) (((84, 5), 3, [(84, 2, 3), (84, 3, 4), (84, 4, 7), (83, 1, 3), (83, 2, 4), (75, 0, 3), (75, 1, 21), (75, 2, 25)]) : wW) xL_1 4 (none) xE_6 (xE_6.drop 45) [.ref 84, .int a1, .int a2, .int a3, .null, .null] [] (sa, sk, sf, sc, sz) Q) (h : w_6_45 (fun k => Tt d wgL (wk_6 3 k) (wk_6 3 k)) 3 R45 a1 a2 a3 sa sk sf sc sz Q) : Rn d wgL (((84, 5), 3, [(84, 2, 3), (84, 3, 4), (84, 4, 7), (83, 1, 3), (83, 2, 4), (75, 0, 3), (75, 1, 21), (75, 2, 25)]) : wW) (((84, 5), 3, [(84, 2, 3), (84, 3, 4), (84, 4, 7), (83, 1, 3), (83, 2, 4), (75, 0, 3), (75, 1, 21), (75, 2, 25)]) : wW) xL_1 4 (none) xE_6 (xE_6.drop 45) [.ref 84, .int a1, .int a2, .int a3, .null, .null] [] (sa, sk, sf, sc, sz) Q := by
  unfold w_6_45 at h
  refine n_ld rfl rfl rfl ?_
  refine n_ld rfl rfl rfl ?_
  refine n_get (v := .ref 3) rfl (hv_C (a := 84) (n := 0) rfl rfl rfl) ?_
  refine n_get (v := .ref 25) rfl (hv_R (a := 3) rfl rfl) ?_
  refine n_ld rfl rfl rfl ?_
  refine n_row a2 [.int a3] (a := 25) hd rfl rfl rfl rfl (fun x1 g1 g2 g3 => ?_)
  replace h := h x1 g1
  refine n_brP rfl rfl ⟨fun hcn => ?_, fun hcn => ?_⟩
  · replace h := h.1 ((i_le (x := x1) (y := a3) rfl rfl).mp hcn)
    refine n_ld rfl rfl rfl ?_
    refine n_ld rfl rfl rfl ?_
    refine n_get (v := .ref 3) rfl (hv_C (a := 84) (n := 0) rfl rfl rfl) ?_
    refine n_ld rfl rfl rfl ?_
    refine n_c [.int 7, .int a1, .ref 3, .ref 84] (xo_push (.int 7)) rfl rfl ?_
    refine n_ctr [.ref 3, .int a1, .int 7] [.ref 84] rfl rfl rfl (hc (40, q_40) (List.mem_of_getElem? (i := 0) rfl)) ⟨⟨_, rfl, cmem_ok rfl⟩, vK_int _, vK_int _, trivial⟩ rfl rfl (fun vq sq hv hk => ?_)
    obtain ⟨sa2, sk3, sf4, sc5, sz6⟩ := sq
    obtain ⟨k1, k2, k3, k4, k5, k6, k7⟩ := hk
    obtain rfl : sa = sa2 := (k1 (wmem_no rfl)).symm
    obtain rfl : sk = sk3 := (k2).symm
    obtain rfl : sf = sf4 := (k3 (wmem_no rfl)).symm
    obtain rfl : sc = sc5 := (k5 (wmem_no rfl)).symm
    obtain rfl : sz = sz6 := (k6 (wmem_no rfl)).symm
    obtain ⟨vr, rfl, x7, rfl, hl, hu⟩ := hv
    replace h := h x7 hl hu
    change Rn _ _ _ _ _ _ _ _ _ _ [.int x7, .ref 84] _ _
    refine n_put (a := 84) (w1 := (((84, 5), 3, [(84, 2, 3), (84, 3, 4), (84, 4, 7), (83, 1, 3), (83, 2, 4), (75, 0, 3), (75, 1, 21), (75, 2, 25)]) : wW)) (s1 := (x7, sk, sf, sc, sz)) rfl rfl rfl rfl (vK_int _) rfl rfl rfl (Or.inr (Or.inl (by decide +kernel))) (ws_at (w := (((84, 5), 3, [(84, 2, 3), (84, 3, 4), (84, 4, 7), (83, 1, 3), (83, 2, 4), (75, 0, 3), (75, 1, 21), (75, 2, 25)]) : wW)) (s := (sa, sk, sf, sc, sz)) rfl) ?_
    refine n_ld rfl rfl rfl ?_
    refine n_get (v := .ref 3) rfl (hv_C (a := 84) (n := 0) rfl rfl rfl) ?_
    refine n_get (v := .ref 29) rfl (hv_R (a := 3) rfl rfl) ?_
    refine n_ld rfl rfl rfl ?_
    refine n_c [.int 10, .int a1, .ref 29] (xo_push (.int 10)) rfl rfl ?_
    replace h := h _ (i_mul (x := a1) (y := 10) rfl (show (10 : Int32).toInt = 10 by decide))
    refine n_c [.int (a1 * 10), .ref 29] xo_imul rfl rfl ?_
    refine n_c [.int 8, .int (a1 * 10), .ref 29] (xo_push (.int 8)) rfl rfl ?_
    replace h := h _ (i_add (x := (a1 * 10)) (y := 8) rfl (show (8 : Int32).toInt = 8 by decide))
    refine n_c [.int ((a1 * 10) + 8), .ref 29] xo_iadd rfl rfl ?_
    refine n_ld rfl rfl rfl ?_
    refine n_get (v := .ref 3) rfl (hv_C (a := 84) (n := 0) rfl rfl rfl) ?_
    refine n_get (v := .ref 37) rfl (hv_R (a := 3) rfl rfl) ?_
    refine n_get (v := .int sc) rfl (hv_f (a := 37) rfl rfl (fun _ _ hw => hw.1.2.2.2.1)) ?_
    refine n_c [.int 6, .int sc, .int ((a1 * 10) + 8), .ref 29] (xo_push (.int 6)) rfl rfl ?_
    replace h := h (sc / 6) (i_dv (x := sc) (y := 6) rfl (show (6 : Int32).toInt = 6 by decide) (by decide))
    refine n_c [.int (sc / 6), .int ((a1 * 10) + 8), .ref 29] xo_idiv rfl (o_idiv (by decide)) ?_
    refine n_ctr [.ref 29, .int ((a1 * 10) + 8), .int (sc / 6)] [] rfl rfl rfl (hc (77, q_77_3) (List.mem_of_getElem? (i := 1) rfl)) ⟨⟨_, rfl, cmem_ok rfl⟩, vK_int _, ⟨_, rfl, h.1.1, h.1.2⟩, trivial⟩ rfl rfl (fun vq sq hv hk => ?_)
    replace h := h.2
    obtain ⟨sa11, sk12, sf13, sc14, sz15⟩ := sq
    obtain ⟨k1, k2, k3, k4, k5, k6, k7⟩ := hk
    obtain rfl : x7 = sa11 := (k1 (wmem_no rfl)).symm
    obtain rfl : sk = sk12 := (k2).symm
    obtain rfl : sf = sf13 := (k3 (wmem_no rfl)).symm
    obtain rfl : sc = sc14 := (k5 (wmem_no rfl)).symm
    obtain rfl : sz = sz15 := (k6 (wmem_no rfl)).symm
    cases (show vq = none from hv)
    change Rn _ _ _ _ _ _ _ _ _ _ [] _ _
    exact n_ret0 rfl h
  · replace h := h.2 (fun q => hcn ((i_le (x := x1) (y := a3) rfl rfl).mpr q))
    refine n_ld rfl rfl rfl ?_
    refine n_get (v := .ref 3) rfl (hv_C (a := 84) (n := 0) rfl rfl rfl) ?_
    refine n_get (v := .ref 21) rfl (hv_R (a := 3) rfl rfl) ?_
    refine n_ld rfl rfl rfl ?_
    refine n_getI (a := 84) rfl rfl rfl (fun x16 hl hu => ?_)
    replace h := h x16
    refine n_c [.int 1, .int x16, .ref 21] (xo_push (.int 1)) rfl rfl ?_
    replace h := h _ (i_add (x := x16) (y := 1) rfl (show (1 : Int32).toInt = 1 by decide))
    refine n_c [.int (x16 + 1), .ref 21] xo_iadd rfl rfl ?_
    refine n_ld rfl rfl rfl ?_
    replace h := h _ (i_add (x := (x16 + 1)) (y := a3) rfl rfl)
    refine n_c [.int ((x16 + 1) + a3), .ref 21] xo_iadd rfl rfl ?_
    refine n_c [.int 24, .int ((x16 + 1) + a3), .ref 21] (xo_push (.int 24)) rfl rfl ?_
    refine n_ld rfl rfl rfl ?_
    replace h := h _ (i_add (x := 24) (y := a3) (show (24 : Int32).toInt = 24 by decide) rfl)
    refine n_c [.int (24 + a3), .int ((x16 + 1) + a3), .ref 21] xo_iadd rfl rfl ?_
    refine n_ctr [.ref 21, .int ((x16 + 1) + a3), .int (24 + a3)] [] rfl rfl rfl (hc (77, q_77) (List.mem_of_getElem? (i := 2) rfl)) ⟨⟨_, rfl, cmem_ok rfl⟩, vK_int _, vK_int _, trivial⟩ rfl rfl (fun vq sq hv hk => ?_)
    obtain ⟨sa20, sk21, sf22, sc23, sz24⟩ := sq
    obtain ⟨k1, k2, k3, k4, k5, k6, k7⟩ := hk
    obtain rfl : sa = sa20 := (k1 (wmem_no rfl)).symm
    obtain rfl : sk = sk21 := (k2).symm
    obtain rfl : sf = sf22 := (k3 (wmem_no rfl)).symm
    obtain rfl : sc = sc23 := (k5 (wmem_no rfl)).symm
    obtain rfl : sz = sz24 := (k6 (wmem_no rfl)).symm
    cases (show vq = none from hv)
    change Rn _ _ _ _ _ _ _ _ _ _ [] _ _
    replace h := h _ (i_add (x := a3) (y := 1) rfl (show (1 : Int32).toInt = 1 by decide))
    refine n_inc [.ref 84, .int a1, .int a2, .int (a3 + 1), .null, .null] rfl rfl rfl rfl ?_
    refine n_go rfl ?_
    exact r45 a1 a2 (a3 + 1) sa sk sf sc sz h
theorem kl_6_45_3 {d d0 : Nat} (hd : d = d0 + 4) (hc : ∀ p ∈ s_w6, CTR (yex d) p.1 p.2)  {a1 : Int32} {a2 : Int32} {a3 : Int32} {sa : Int32} {sk : Int32} {sf : Int32} {sc : Int32} {sz : Int32} {Q : Option Value → sW → Prop}  (h : wl_6_45 (fun k => Tt d wgL (wk_6 3 k) (wk_6 3 k)) 3  a1 a2 a3 sa sk sf sc sz Q) : Rn d wgL (((84, 5), 3, [(84, 2, 3), (84, 3, 4), (84, 4, 7), (83, 1, 3), (83, 2, 4), (75, 0, 3), (75, 1, 21), (75, 2, 25)]) : wW) (((84, 5), 3, [(84, 2, 3), (84, 3, 4), (84, 4, 7), (83, 1, 3), (83, 2, 4), (75, 0, 3), (75, 1, 21), (75, 2, 25)]) : wW) xL_1 4 (none) xE_6 (xE_6.drop 45) [.ref 84, .int a1, .int a2, .int a3, .null, .null] [] (sa, sk, sf, sc, sz) Q := by
  obtain ⟨I, μ, h0, h1⟩ := h
  have key : ∀ (n : Nat) (a1 : Int32) (a2 : Int32) (a3 : Int32) (sa : Int32) (sk : Int32) (sf : Int32) (sc : Int32) (sz : Int32), μ a1 a2 a3 sa sk sf sc sz = n → I a1 a2 a3 sa sk sf sc sz → Rn d wgL (((84, 5), 3, [(84, 2, 3), (84, 3, 4), (84, 4, 7), (83, 1, 3), (83, 2, 4), (75, 0, 3), (75, 1, 21), (75, 2, 25)]) : wW) (((84, 5), 3, [(84, 2, 3), (84, 3, 4), (84, 4, 7), (83, 1, 3), (83, 2, 4), (75, 0, 3), (75, 1, 21), (75, 2, 25)]) : wW) xL_1 4 (none) xE_6 (xE_6.drop 45) [.ref 84, .int a1, .int a2, .int a3, .null, .null] [] (sa, sk, sf, sc, sz) Q := by
    intro n
    induction n using Nat.strongRecOn with
    | ind n ih =>
      intro a1 a2 a3 sa sk sf sc sz e hI
      exact k_6_45_3 hd hc (fun a1' a2' a3' sa' sk' sf' sc' sz' q => ih _ (by rw [← e]; exact q.2) a1' a2' a3' sa' sk' sf' sc' sz' rfl q.1) (h1 a1 a2 a3 sa sk sf sc sz hI)
  exact key _ a1 a2 a3 sa sk sf sc sz rfl h0
set_option maxRecDepth 20000 in
theorem k_6_0_3 {d d0 : Nat} (hd : d = d0 + 4) (hc : ∀ p ∈ s_w6, CTR (yex d) p.1 p.2)  {a1 : Int32} {sa : Int32} {sk : Int32} {sf : Int32} {sc : Int32} {sz : Int32} {Q : Option Value → sW → Prop}  (h : w_6_0 (fun k => Tt d wgL (wk_6 3 k) (wk_6 3 k)) 3  a1 sa sk sf sc sz Q) : Rn d wgL (((84, 5), 3, [(84, 2, 3), (84, 3, 4), (84, 4, 7), (83, 1, 3), (83, 2, 4), (75, 0, 3), (75, 1, 21), (75, 2, 25)]) : wW) (((84, 5), 3, [(84, 2, 3), (84, 3, 4), (84, 4, 7), (83, 1, 3), (83, 2, 4), (75, 0, 3), (75, 1, 21), (75, 2, 25)]) : wW) xL_1 4 (none) xE_6 (xE_6.drop 0) [.ref 84, .int a1, .null, .null, .null, .null] [] (sa, sk, sf, sc, sz) Q := by
  unfold w_6_0 at h
  refine n_ld rfl rfl rfl ?_
  refine n_ld rfl rfl rfl ?_
  refine n_put (a := 84) (w1 := (((84, 5), 3, [(84, 2, 3), (84, 3, 4), (84, 4, 7), (83, 1, 3), (83, 2, 4), (75, 0, 3), (75, 1, 21), (75, 2, 25)]) : wW)) (s1 := (sa, sk, sf, sc, sz)) rfl rfl rfl rfl (vK_int _) rfl rfl rfl (Or.inr (Or.inl (by decide +kernel))) (ws_no (w := (((84, 5), 3, [(84, 2, 3), (84, 3, 4), (84, 4, 7), (83, 1, 3), (83, 2, 4), (75, 0, 3), (75, 1, 21), (75, 2, 25)]) : wW)) (s := (sa, sk, sf, sc, sz)) (a := 84) (k := 6) rfl) ?_
  refine n_ld rfl rfl rfl ?_
  refine n_get (v := .ref 3) rfl (hv_C (a := 84) (n := 0) rfl rfl rfl) ?_
  refine n_ld rfl rfl rfl ?_
  refine n_c [.int 2, .int a1, .ref 3] (xo_push (.int 2)) rfl rfl ?_
  refine n_ctr [.ref 3, .int a1, .int 2] [] rfl rfl rfl (hc (40, q_40) (List.mem_of_getElem? (i := 0) rfl)) ⟨⟨_, rfl, cmem_ok rfl⟩, vK_int _, vK_int _, trivial⟩ rfl rfl (fun vq sq hv hk => ?_)
  obtain ⟨sa1, sk2, sf3, sc4, sz5⟩ := sq
  obtain ⟨k1, k2, k3, k4, k5, k6, k7⟩ := hk
  obtain rfl : sa = sa1 := (k1 (wmem_no rfl)).symm
  obtain rfl : sk = sk2 := (k2).symm
  obtain rfl : sf = sf3 := (k3 (wmem_no rfl)).symm
  obtain rfl : sc = sc4 := (k5 (wmem_no rfl)).symm
  obtain rfl : sz = sz5 := (k6 (wmem_no rfl)).symm
  obtain ⟨vr, rfl, x6, rfl, hl, hu⟩ := hv
  replace h := h x6 hl hu
  change Rn _ _ _ _ _ _ _ _ _ _ [.int x6] _ _
  refine n_st [.ref 84, .int a1, .int x6, .null, .null, .null] rfl rfl rfl ?_
  refine n_ld rfl rfl rfl ?_
  refine n_get (v := .ref 75) rfl (hv_R (a := 84) rfl rfl) ?_
  refine n_ld rfl rfl rfl ?_
  refine n_ld rfl rfl rfl ?_
  refine n_get (v := .ref 3) rfl (hv_C (a := 84) (n := 0) rfl rfl rfl) ?_
  refine n_ld rfl rfl rfl ?_
  refine n_c [.int 3, .int a1, .ref 3, .int x6, .ref 75] (xo_push (.int 3)) rfl rfl ?_
  refine n_ctr [.ref 3, .int a1, .int 3] [.int x6, .ref 75] rfl rfl rfl (hc (40, q_40) (List.mem_of_getElem? (i := 0) rfl)) ⟨⟨_, rfl, cmem_ok rfl⟩, vK_int _, vK_int _, trivial⟩ rfl rfl (fun vq sq hv hk => ?_)
  obtain ⟨sa7, sk8, sf9, sc10, sz11⟩ := sq
  obtain ⟨k1, k2, k3, k4, k5, k6, k7⟩ := hk
  obtain rfl : sa = sa7 := (k1 (wmem_no rfl)).symm
  obtain rfl : sk = sk8 := (k2).symm
  obtain rfl : sf = sf9 := (k3 (wmem_no rfl)).symm
  obtain rfl : sc = sc10 := (k5 (wmem_no rfl)).symm
  obtain rfl : sz = sz11 := (k6 (wmem_no rfl)).symm
  obtain ⟨vr, rfl, x12, rfl, hl, hu⟩ := hv
  replace h := h x12 hl hu
  change Rn _ _ _ _ _ _ _ _ _ _ [.int x12, .int x6, .ref 75] _ _
  refine n_ld rfl rfl rfl ?_
  refine n_get (v := .ref 3) rfl (hv_C (a := 84) (n := 0) rfl rfl rfl) ?_
  refine n_ld rfl rfl rfl ?_
  refine n_c [.int 5, .int a1, .ref 3, .int x12, .int x6, .ref 75] (xo_push (.int 5)) rfl rfl ?_
  refine n_ctr [.ref 3, .int a1, .int 5] [.int x12, .int x6, .ref 75] rfl rfl rfl (hc (40, q_40) (List.mem_of_getElem? (i := 0) rfl)) ⟨⟨_, rfl, cmem_ok rfl⟩, vK_int _, vK_int _, trivial⟩ rfl rfl (fun vq sq hv hk => ?_)
  obtain ⟨sa13, sk14, sf15, sc16, sz17⟩ := sq
  obtain ⟨k1, k2, k3, k4, k5, k6, k7⟩ := hk
  obtain rfl : sa = sa13 := (k1 (wmem_no rfl)).symm
  obtain rfl : sk = sk14 := (k2).symm
  obtain rfl : sf = sf15 := (k3 (wmem_no rfl)).symm
  obtain rfl : sc = sc16 := (k5 (wmem_no rfl)).symm
  obtain rfl : sz = sz17 := (k6 (wmem_no rfl)).symm
  obtain ⟨vr, rfl, x18, rfl, hl, hu⟩ := hv
  replace h := h x18 hl hu
  change Rn _ _ _ _ _ _ _ _ _ _ [.int x18, .int x12, .int x6, .ref 75] _ _
  refine n_ctr [.ref 75, .int x6, .int x12, .int x18] [] rfl rfl rfl (hc (82, q_82) (List.mem_of_getElem? (i := 3) rfl)) ⟨⟨_, rfl, cmem_ok rfl⟩, vK_int _, vK_int _, vK_int _, trivial⟩ rfl rfl (fun vq sq hv hk => ?_)
  obtain ⟨sa19, sk20, sf21, sc22, sz23⟩ := sq
  obtain ⟨k1, k2, k3, k4, k5, k6, k7⟩ := hk
  obtain rfl : sa = sa19 := (k1 (wmem_no rfl)).symm
  obtain rfl : sk = sk20 := (k2).symm
  obtain rfl : sf = sf21 := (k3 (wmem_no rfl)).symm
  obtain rfl : sc = sc22 := (k5 (wmem_no rfl)).symm
  obtain rfl : sz = sz23 := (k6 (wmem_no rfl)).symm
  cases (show vq = none from hv)
  change Rn _ _ _ _ _ _ _ _ _ _ [] _ _
  refine n_ld rfl rfl rfl ?_
  refine n_c [.int 18, .ref 84] (xo_push (.int 18)) rfl rfl ?_
  refine n_put (a := 84) (w1 := (((84, 5), 3, [(84, 2, 3), (84, 3, 4), (84, 4, 7), (83, 1, 3), (83, 2, 4), (75, 0, 3), (75, 1, 21), (75, 2, 25)]) : wW)) (s1 := (sa, sk, sf, sc, sz)) rfl rfl rfl rfl (vK_int _) rfl rfl rfl (Or.inr (Or.inl (by decide +kernel))) (ws_no (w := (((84, 5), 3, [(84, 2, 3), (84, 3, 4), (84, 4, 7), (83, 1, 3), (83, 2, 4), (75, 0, 3), (75, 1, 21), (75, 2, 25)]) : wW)) (s := (sa, sk, sf, sc, sz)) (a := 84) (k := 7) rfl) ?_
  refine n_ld rfl rfl rfl ?_
  refine n_get (v := .ref 75) rfl (hv_R (a := 84) rfl rfl) ?_
  refine n_c [.int 19, .ref 75] (xo_push (.int 19)) rfl rfl ?_
  refine n_ld rfl rfl rfl ?_
  refine n_get (v := .ref 3) rfl (hv_C (a := 84) (n := 0) rfl rfl rfl) ?_
  refine n_get (v := .ref 25) rfl (hv_R (a := 3) rfl rfl) ?_
  refine n_ld rfl rfl rfl ?_
  refine n_row x6 [.int 19, .ref 75] (a := 25) hd rfl rfl rfl rfl (fun x24 g1 g2 g3 => ?_)
  replace h := h x24 g1
  replace h := h _ (i_add (x := 19) (y := x24) (show (19 : Int32).toInt = 19 by decide) rfl)
  refine n_c [.int (19 + x24), .ref 75] xo_iadd rfl rfl ?_
  refine n_put (a := 75) (w1 := (((84, 5), 3, [(84, 2, 3), (84, 3, 4), (84, 4, 7), (83, 1, 3), (83, 2, 4), (75, 0, 3), (75, 1, 21), (75, 2, 25)]) : wW)) (s1 := (sa, sk, sf, sc, sz)) rfl rfl rfl rfl (vK_int _) rfl rfl rfl (Or.inr (Or.inl (by decide +kernel))) (ws_no (w := (((84, 5), 3, [(84, 2, 3), (84, 3, 4), (84, 4, 7), (83, 1, 3), (83, 2, 4), (75, 0, 3), (75, 1, 21), (75, 2, 25)]) : wW)) (s := (sa, sk, sf, sc, sz)) (a := 75) (k := 3) rfl) ?_
  refine n_ld rfl rfl rfl ?_
  refine n_get (v := .ref 3) rfl (hv_C (a := 84) (n := 0) rfl rfl rfl) ?_
  refine n_get (v := .ref 21) rfl (hv_R (a := 3) rfl rfl) ?_
  refine n_ld rfl rfl rfl ?_
  refine n_getI (a := 84) rfl rfl rfl (fun x26 hl hu => ?_)
  replace h := h x26
  refine n_ld rfl rfl rfl ?_
  refine n_ctr [.ref 21, .int x26, .int x6] [] rfl rfl rfl (hc (77, q_77) (List.mem_of_getElem? (i := 2) rfl)) ⟨⟨_, rfl, cmem_ok rfl⟩, vK_int _, vK_int _, trivial⟩ rfl rfl (fun vq sq hv hk => ?_)
  obtain ⟨sa27, sk28, sf29, sc30, sz31⟩ := sq
  obtain ⟨k1, k2, k3, k4, k5, k6, k7⟩ := hk
  obtain rfl : sa = sa27 := (k1 (wmem_no rfl)).symm
  obtain rfl : sk = sk28 := (k2).symm
  obtain rfl : sf = sf29 := (k3 (wmem_no rfl)).symm
  obtain rfl : sc = sc30 := (k5 (wmem_no rfl)).symm
  obtain rfl : sz = sz31 := (k6 (wmem_no rfl)).symm
  cases (show vq = none from hv)
  change Rn _ _ _ _ _ _ _ _ _ _ [] _ _
  refine n_c [.int 0] (xo_push (.int 0)) rfl rfl ?_
  refine n_st [.ref 84, .int a1, .int x6, .int 0, .null, .null] rfl rfl rfl ?_
  exact kl_6_45_3 hd hc  h
theorem t_6_3 {d : Nat} (hc : ∀ p ∈ s_w6, CTR (yex (d + 4)) p.1 p.2) {a1 : Int32} {sa : Int32} {sk : Int32} {sf : Int32} {sc : Int32} {sz : Int32} {Q : Option Value → sW → Prop} (h : w_6_0 (fun k => Tt (d + 4) wgL (wk_6 3 k) (wk_6 3 k)) 3 a1 sa sk sf sc sz Q) : Tt (d + 5) wgL (((84, 5), 3, [(84, 2, 3), (84, 3, 4), (84, 4, 7), (83, 1, 3), (83, 2, 4), (75, 0, 3), (75, 1, 21), (75, 2, 25)]) : wW) (((84, 5), 3, [(84, 2, 3), (84, 3, 4), (84, 4, 7), (83, 1, 3), (83, 2, 4), (75, 0, 3), (75, 1, 21), (75, 2, 25)]) : wW) 6 [.ref 84, .int a1] (sa, sk, sf, sc, sz) Q := tt_of (E := xE_6) (L := xL_1) (ml := 4) (ret := none) rfl rfl rfl (k_6_0_3 rfl hc h)
set_option maxRecDepth 20000 in
theorem k_6_45_39 {d d0 : Nat} (hd : d = d0 + 4) (hc : ∀ p ∈ s_w6, CTR (yex d) p.1 p.2) {R45 : Int32 → Int32 → Int32 → Int32 → Int32 → Int32 → Int32 → Int32 → Prop} {a1 : Int32} {a2 : Int32} {a3 : Int32} {sa : Int32} {sk : Int32} {sf : Int32} {sc : Int32} {sz : Int32} {Q : Option Value → sW → Prop} (r45 : ∀ a1 a2 a3 sa sk sf sc sz, R45 a1 a2 a3 sa sk sf sc sz → Rn d wgL (((84, 5), 39, [(84, 2, 39), (84, 3, 40), (84, 4, 43), (83, 1, 39), (83, 2, 40), (75, 0, 39), (75, 1, 57), (75, 2, 61)]) : wW) (((84, 5), 39, [(84, 2, 39), (84, 3, 40), (84, 4, 43), (83, 1, 39), (83, 2, 40), (75, 0, 39), (75, 1, 57), (75, 2, 61)]) : wW) xL_1 4 (none) xE_6 (xE_6.drop 45) [.ref 84, .int a1, .int a2, .int a3, .null, .null] [] (sa, sk, sf, sc, sz) Q) (h : w_6_45 (fun k => Tt d wgL (wk_6 39 k) (wk_6 39 k)) 39 R45 a1 a2 a3 sa sk sf sc sz Q) : Rn d wgL (((84, 5), 39, [(84, 2, 39), (84, 3, 40), (84, 4, 43), (83, 1, 39), (83, 2, 40), (75, 0, 39), (75, 1, 57), (75, 2, 61)]) : wW) (((84, 5), 39, [(84, 2, 39), (84, 3, 40), (84, 4, 43), (83, 1, 39), (83, 2, 40), (75, 0, 39), (75, 1, 57), (75, 2, 61)]) : wW) xL_1 4 (none) xE_6 (xE_6.drop 45) [.ref 84, .int a1, .int a2, .int a3, .null, .null] [] (sa, sk, sf, sc, sz) Q := by
  unfold w_6_45 at h
  refine n_ld rfl rfl rfl ?_
  refine n_ld rfl rfl rfl ?_
  refine n_get (v := .ref 39) rfl (hv_C (a := 84) (n := 0) rfl rfl rfl) ?_
  refine n_get (v := .ref 61) rfl (hv_R (a := 39) rfl rfl) ?_
  refine n_ld rfl rfl rfl ?_
  refine n_row a2 [.int a3] (a := 61) hd rfl rfl rfl rfl (fun x1 g1 g2 g3 => ?_)
  replace h := h x1 g1
  refine n_brP rfl rfl ⟨fun hcn => ?_, fun hcn => ?_⟩
  · replace h := h.1 ((i_le (x := x1) (y := a3) rfl rfl).mp hcn)
    refine n_ld rfl rfl rfl ?_
    refine n_ld rfl rfl rfl ?_
    refine n_get (v := .ref 39) rfl (hv_C (a := 84) (n := 0) rfl rfl rfl) ?_
    refine n_ld rfl rfl rfl ?_
    refine n_c [.int 7, .int a1, .ref 39, .ref 84] (xo_push (.int 7)) rfl rfl ?_
    refine n_ctr [.ref 39, .int a1, .int 7] [.ref 84] rfl rfl rfl (hc (40, q_40) (List.mem_of_getElem? (i := 0) rfl)) ⟨⟨_, rfl, cmem_ok rfl⟩, vK_int _, vK_int _, trivial⟩ rfl rfl (fun vq sq hv hk => ?_)
    obtain ⟨sa2, sk3, sf4, sc5, sz6⟩ := sq
    obtain ⟨k1, k2, k3, k4, k5, k6, k7⟩ := hk
    obtain rfl : sa = sa2 := (k1 (wmem_no rfl)).symm
    obtain rfl : sk = sk3 := (k2).symm
    obtain rfl : sf = sf4 := (k3 (wmem_no rfl)).symm
    obtain rfl : sc = sc5 := (k5 (wmem_no rfl)).symm
    obtain rfl : sz = sz6 := (k6 (wmem_no rfl)).symm
    obtain ⟨vr, rfl, x7, rfl, hl, hu⟩ := hv
    replace h := h x7 hl hu
    change Rn _ _ _ _ _ _ _ _ _ _ [.int x7, .ref 84] _ _
    refine n_put (a := 84) (w1 := (((84, 5), 39, [(84, 2, 39), (84, 3, 40), (84, 4, 43), (83, 1, 39), (83, 2, 40), (75, 0, 39), (75, 1, 57), (75, 2, 61)]) : wW)) (s1 := (x7, sk, sf, sc, sz)) rfl rfl rfl rfl (vK_int _) rfl rfl rfl (Or.inr (Or.inl (by decide +kernel))) (ws_at (w := (((84, 5), 39, [(84, 2, 39), (84, 3, 40), (84, 4, 43), (83, 1, 39), (83, 2, 40), (75, 0, 39), (75, 1, 57), (75, 2, 61)]) : wW)) (s := (sa, sk, sf, sc, sz)) rfl) ?_
    refine n_ld rfl rfl rfl ?_
    refine n_get (v := .ref 39) rfl (hv_C (a := 84) (n := 0) rfl rfl rfl) ?_
    refine n_get (v := .ref 65) rfl (hv_R (a := 39) rfl rfl) ?_
    refine n_ld rfl rfl rfl ?_
    refine n_c [.int 10, .int a1, .ref 65] (xo_push (.int 10)) rfl rfl ?_
    replace h := h _ (i_mul (x := a1) (y := 10) rfl (show (10 : Int32).toInt = 10 by decide))
    refine n_c [.int (a1 * 10), .ref 65] xo_imul rfl rfl ?_
    refine n_c [.int 8, .int (a1 * 10), .ref 65] (xo_push (.int 8)) rfl rfl ?_
    replace h := h _ (i_add (x := (a1 * 10)) (y := 8) rfl (show (8 : Int32).toInt = 8 by decide))
    refine n_c [.int ((a1 * 10) + 8), .ref 65] xo_iadd rfl rfl ?_
    refine n_ld rfl rfl rfl ?_
    refine n_get (v := .ref 39) rfl (hv_C (a := 84) (n := 0) rfl rfl rfl) ?_
    refine n_get (v := .ref 73) rfl (hv_R (a := 39) rfl rfl) ?_
    refine n_get (v := .int sc) rfl (hv_f (a := 73) rfl rfl (fun _ _ hw => hw.1.2.2.2.1)) ?_
    refine n_c [.int 6, .int sc, .int ((a1 * 10) + 8), .ref 65] (xo_push (.int 6)) rfl rfl ?_
    replace h := h (sc / 6) (i_dv (x := sc) (y := 6) rfl (show (6 : Int32).toInt = 6 by decide) (by decide))
    refine n_c [.int (sc / 6), .int ((a1 * 10) + 8), .ref 65] xo_idiv rfl (o_idiv (by decide)) ?_
    refine n_ctr [.ref 65, .int ((a1 * 10) + 8), .int (sc / 6)] [] rfl rfl rfl (hc (77, q_77_3) (List.mem_of_getElem? (i := 1) rfl)) ⟨⟨_, rfl, cmem_ok rfl⟩, vK_int _, ⟨_, rfl, h.1.1, h.1.2⟩, trivial⟩ rfl rfl (fun vq sq hv hk => ?_)
    replace h := h.2
    obtain ⟨sa11, sk12, sf13, sc14, sz15⟩ := sq
    obtain ⟨k1, k2, k3, k4, k5, k6, k7⟩ := hk
    obtain rfl : x7 = sa11 := (k1 (wmem_no rfl)).symm
    obtain rfl : sk = sk12 := (k2).symm
    obtain rfl : sf = sf13 := (k3 (wmem_no rfl)).symm
    obtain rfl : sc = sc14 := (k5 (wmem_no rfl)).symm
    obtain rfl : sz = sz15 := (k6 (wmem_no rfl)).symm
    cases (show vq = none from hv)
    change Rn _ _ _ _ _ _ _ _ _ _ [] _ _
    exact n_ret0 rfl h
  · replace h := h.2 (fun q => hcn ((i_le (x := x1) (y := a3) rfl rfl).mpr q))
    refine n_ld rfl rfl rfl ?_
    refine n_get (v := .ref 39) rfl (hv_C (a := 84) (n := 0) rfl rfl rfl) ?_
    refine n_get (v := .ref 57) rfl (hv_R (a := 39) rfl rfl) ?_
    refine n_ld rfl rfl rfl ?_
    refine n_getI (a := 84) rfl rfl rfl (fun x16 hl hu => ?_)
    replace h := h x16
    refine n_c [.int 1, .int x16, .ref 57] (xo_push (.int 1)) rfl rfl ?_
    replace h := h _ (i_add (x := x16) (y := 1) rfl (show (1 : Int32).toInt = 1 by decide))
    refine n_c [.int (x16 + 1), .ref 57] xo_iadd rfl rfl ?_
    refine n_ld rfl rfl rfl ?_
    replace h := h _ (i_add (x := (x16 + 1)) (y := a3) rfl rfl)
    refine n_c [.int ((x16 + 1) + a3), .ref 57] xo_iadd rfl rfl ?_
    refine n_c [.int 24, .int ((x16 + 1) + a3), .ref 57] (xo_push (.int 24)) rfl rfl ?_
    refine n_ld rfl rfl rfl ?_
    replace h := h _ (i_add (x := 24) (y := a3) (show (24 : Int32).toInt = 24 by decide) rfl)
    refine n_c [.int (24 + a3), .int ((x16 + 1) + a3), .ref 57] xo_iadd rfl rfl ?_
    refine n_ctr [.ref 57, .int ((x16 + 1) + a3), .int (24 + a3)] [] rfl rfl rfl (hc (77, q_77) (List.mem_of_getElem? (i := 2) rfl)) ⟨⟨_, rfl, cmem_ok rfl⟩, vK_int _, vK_int _, trivial⟩ rfl rfl (fun vq sq hv hk => ?_)
    obtain ⟨sa20, sk21, sf22, sc23, sz24⟩ := sq
    obtain ⟨k1, k2, k3, k4, k5, k6, k7⟩ := hk
    obtain rfl : sa = sa20 := (k1 (wmem_no rfl)).symm
    obtain rfl : sk = sk21 := (k2).symm
    obtain rfl : sf = sf22 := (k3 (wmem_no rfl)).symm
    obtain rfl : sc = sc23 := (k5 (wmem_no rfl)).symm
    obtain rfl : sz = sz24 := (k6 (wmem_no rfl)).symm
    cases (show vq = none from hv)
    change Rn _ _ _ _ _ _ _ _ _ _ [] _ _
    replace h := h _ (i_add (x := a3) (y := 1) rfl (show (1 : Int32).toInt = 1 by decide))
    refine n_inc [.ref 84, .int a1, .int a2, .int (a3 + 1), .null, .null] rfl rfl rfl rfl ?_
    refine n_go rfl ?_
    exact r45 a1 a2 (a3 + 1) sa sk sf sc sz h
theorem kl_6_45_39 {d d0 : Nat} (hd : d = d0 + 4) (hc : ∀ p ∈ s_w6, CTR (yex d) p.1 p.2)  {a1 : Int32} {a2 : Int32} {a3 : Int32} {sa : Int32} {sk : Int32} {sf : Int32} {sc : Int32} {sz : Int32} {Q : Option Value → sW → Prop}  (h : wl_6_45 (fun k => Tt d wgL (wk_6 39 k) (wk_6 39 k)) 39  a1 a2 a3 sa sk sf sc sz Q) : Rn d wgL (((84, 5), 39, [(84, 2, 39), (84, 3, 40), (84, 4, 43), (83, 1, 39), (83, 2, 40), (75, 0, 39), (75, 1, 57), (75, 2, 61)]) : wW) (((84, 5), 39, [(84, 2, 39), (84, 3, 40), (84, 4, 43), (83, 1, 39), (83, 2, 40), (75, 0, 39), (75, 1, 57), (75, 2, 61)]) : wW) xL_1 4 (none) xE_6 (xE_6.drop 45) [.ref 84, .int a1, .int a2, .int a3, .null, .null] [] (sa, sk, sf, sc, sz) Q := by
  obtain ⟨I, μ, h0, h1⟩ := h
  have key : ∀ (n : Nat) (a1 : Int32) (a2 : Int32) (a3 : Int32) (sa : Int32) (sk : Int32) (sf : Int32) (sc : Int32) (sz : Int32), μ a1 a2 a3 sa sk sf sc sz = n → I a1 a2 a3 sa sk sf sc sz → Rn d wgL (((84, 5), 39, [(84, 2, 39), (84, 3, 40), (84, 4, 43), (83, 1, 39), (83, 2, 40), (75, 0, 39), (75, 1, 57), (75, 2, 61)]) : wW) (((84, 5), 39, [(84, 2, 39), (84, 3, 40), (84, 4, 43), (83, 1, 39), (83, 2, 40), (75, 0, 39), (75, 1, 57), (75, 2, 61)]) : wW) xL_1 4 (none) xE_6 (xE_6.drop 45) [.ref 84, .int a1, .int a2, .int a3, .null, .null] [] (sa, sk, sf, sc, sz) Q := by
    intro n
    induction n using Nat.strongRecOn with
    | ind n ih =>
      intro a1 a2 a3 sa sk sf sc sz e hI
      exact k_6_45_39 hd hc (fun a1' a2' a3' sa' sk' sf' sc' sz' q => ih _ (by rw [← e]; exact q.2) a1' a2' a3' sa' sk' sf' sc' sz' rfl q.1) (h1 a1 a2 a3 sa sk sf sc sz hI)
  exact key _ a1 a2 a3 sa sk sf sc sz rfl h0
set_option maxRecDepth 20000 in
theorem k_6_0_39 {d d0 : Nat} (hd : d = d0 + 4) (hc : ∀ p ∈ s_w6, CTR (yex d) p.1 p.2)  {a1 : Int32} {sa : Int32} {sk : Int32} {sf : Int32} {sc : Int32} {sz : Int32} {Q : Option Value → sW → Prop}  (h : w_6_0 (fun k => Tt d wgL (wk_6 39 k) (wk_6 39 k)) 39  a1 sa sk sf sc sz Q) : Rn d wgL (((84, 5), 39, [(84, 2, 39), (84, 3, 40), (84, 4, 43), (83, 1, 39), (83, 2, 40), (75, 0, 39), (75, 1, 57), (75, 2, 61)]) : wW) (((84, 5), 39, [(84, 2, 39), (84, 3, 40), (84, 4, 43), (83, 1, 39), (83, 2, 40), (75, 0, 39), (75, 1, 57), (75, 2, 61)]) : wW) xL_1 4 (none) xE_6 (xE_6.drop 0) [.ref 84, .int a1, .null, .null, .null, .null] [] (sa, sk, sf, sc, sz) Q := by
  unfold w_6_0 at h
  refine n_ld rfl rfl rfl ?_
  refine n_ld rfl rfl rfl ?_
  refine n_put (a := 84) (w1 := (((84, 5), 39, [(84, 2, 39), (84, 3, 40), (84, 4, 43), (83, 1, 39), (83, 2, 40), (75, 0, 39), (75, 1, 57), (75, 2, 61)]) : wW)) (s1 := (sa, sk, sf, sc, sz)) rfl rfl rfl rfl (vK_int _) rfl rfl rfl (Or.inr (Or.inl (by decide +kernel))) (ws_no (w := (((84, 5), 39, [(84, 2, 39), (84, 3, 40), (84, 4, 43), (83, 1, 39), (83, 2, 40), (75, 0, 39), (75, 1, 57), (75, 2, 61)]) : wW)) (s := (sa, sk, sf, sc, sz)) (a := 84) (k := 6) rfl) ?_
  refine n_ld rfl rfl rfl ?_
  refine n_get (v := .ref 39) rfl (hv_C (a := 84) (n := 0) rfl rfl rfl) ?_
  refine n_ld rfl rfl rfl ?_
  refine n_c [.int 2, .int a1, .ref 39] (xo_push (.int 2)) rfl rfl ?_
  refine n_ctr [.ref 39, .int a1, .int 2] [] rfl rfl rfl (hc (40, q_40) (List.mem_of_getElem? (i := 0) rfl)) ⟨⟨_, rfl, cmem_ok rfl⟩, vK_int _, vK_int _, trivial⟩ rfl rfl (fun vq sq hv hk => ?_)
  obtain ⟨sa1, sk2, sf3, sc4, sz5⟩ := sq
  obtain ⟨k1, k2, k3, k4, k5, k6, k7⟩ := hk
  obtain rfl : sa = sa1 := (k1 (wmem_no rfl)).symm
  obtain rfl : sk = sk2 := (k2).symm
  obtain rfl : sf = sf3 := (k3 (wmem_no rfl)).symm
  obtain rfl : sc = sc4 := (k5 (wmem_no rfl)).symm
  obtain rfl : sz = sz5 := (k6 (wmem_no rfl)).symm
  obtain ⟨vr, rfl, x6, rfl, hl, hu⟩ := hv
  replace h := h x6 hl hu
  change Rn _ _ _ _ _ _ _ _ _ _ [.int x6] _ _
  refine n_st [.ref 84, .int a1, .int x6, .null, .null, .null] rfl rfl rfl ?_
  refine n_ld rfl rfl rfl ?_
  refine n_get (v := .ref 75) rfl (hv_R (a := 84) rfl rfl) ?_
  refine n_ld rfl rfl rfl ?_
  refine n_ld rfl rfl rfl ?_
  refine n_get (v := .ref 39) rfl (hv_C (a := 84) (n := 0) rfl rfl rfl) ?_
  refine n_ld rfl rfl rfl ?_
  refine n_c [.int 3, .int a1, .ref 39, .int x6, .ref 75] (xo_push (.int 3)) rfl rfl ?_
  refine n_ctr [.ref 39, .int a1, .int 3] [.int x6, .ref 75] rfl rfl rfl (hc (40, q_40) (List.mem_of_getElem? (i := 0) rfl)) ⟨⟨_, rfl, cmem_ok rfl⟩, vK_int _, vK_int _, trivial⟩ rfl rfl (fun vq sq hv hk => ?_)
  obtain ⟨sa7, sk8, sf9, sc10, sz11⟩ := sq
  obtain ⟨k1, k2, k3, k4, k5, k6, k7⟩ := hk
  obtain rfl : sa = sa7 := (k1 (wmem_no rfl)).symm
  obtain rfl : sk = sk8 := (k2).symm
  obtain rfl : sf = sf9 := (k3 (wmem_no rfl)).symm
  obtain rfl : sc = sc10 := (k5 (wmem_no rfl)).symm
  obtain rfl : sz = sz11 := (k6 (wmem_no rfl)).symm
  obtain ⟨vr, rfl, x12, rfl, hl, hu⟩ := hv
  replace h := h x12 hl hu
  change Rn _ _ _ _ _ _ _ _ _ _ [.int x12, .int x6, .ref 75] _ _
  refine n_ld rfl rfl rfl ?_
  refine n_get (v := .ref 39) rfl (hv_C (a := 84) (n := 0) rfl rfl rfl) ?_
  refine n_ld rfl rfl rfl ?_
  refine n_c [.int 5, .int a1, .ref 39, .int x12, .int x6, .ref 75] (xo_push (.int 5)) rfl rfl ?_
  refine n_ctr [.ref 39, .int a1, .int 5] [.int x12, .int x6, .ref 75] rfl rfl rfl (hc (40, q_40) (List.mem_of_getElem? (i := 0) rfl)) ⟨⟨_, rfl, cmem_ok rfl⟩, vK_int _, vK_int _, trivial⟩ rfl rfl (fun vq sq hv hk => ?_)
  obtain ⟨sa13, sk14, sf15, sc16, sz17⟩ := sq
  obtain ⟨k1, k2, k3, k4, k5, k6, k7⟩ := hk
  obtain rfl : sa = sa13 := (k1 (wmem_no rfl)).symm
  obtain rfl : sk = sk14 := (k2).symm
  obtain rfl : sf = sf15 := (k3 (wmem_no rfl)).symm
  obtain rfl : sc = sc16 := (k5 (wmem_no rfl)).symm
  obtain rfl : sz = sz17 := (k6 (wmem_no rfl)).symm
  obtain ⟨vr, rfl, x18, rfl, hl, hu⟩ := hv
  replace h := h x18 hl hu
  change Rn _ _ _ _ _ _ _ _ _ _ [.int x18, .int x12, .int x6, .ref 75] _ _
  refine n_ctr [.ref 75, .int x6, .int x12, .int x18] [] rfl rfl rfl (hc (82, q_82) (List.mem_of_getElem? (i := 3) rfl)) ⟨⟨_, rfl, cmem_ok rfl⟩, vK_int _, vK_int _, vK_int _, trivial⟩ rfl rfl (fun vq sq hv hk => ?_)
  obtain ⟨sa19, sk20, sf21, sc22, sz23⟩ := sq
  obtain ⟨k1, k2, k3, k4, k5, k6, k7⟩ := hk
  obtain rfl : sa = sa19 := (k1 (wmem_no rfl)).symm
  obtain rfl : sk = sk20 := (k2).symm
  obtain rfl : sf = sf21 := (k3 (wmem_no rfl)).symm
  obtain rfl : sc = sc22 := (k5 (wmem_no rfl)).symm
  obtain rfl : sz = sz23 := (k6 (wmem_no rfl)).symm
  cases (show vq = none from hv)
  change Rn _ _ _ _ _ _ _ _ _ _ [] _ _
  refine n_ld rfl rfl rfl ?_
  refine n_c [.int 18, .ref 84] (xo_push (.int 18)) rfl rfl ?_
  refine n_put (a := 84) (w1 := (((84, 5), 39, [(84, 2, 39), (84, 3, 40), (84, 4, 43), (83, 1, 39), (83, 2, 40), (75, 0, 39), (75, 1, 57), (75, 2, 61)]) : wW)) (s1 := (sa, sk, sf, sc, sz)) rfl rfl rfl rfl (vK_int _) rfl rfl rfl (Or.inr (Or.inl (by decide +kernel))) (ws_no (w := (((84, 5), 39, [(84, 2, 39), (84, 3, 40), (84, 4, 43), (83, 1, 39), (83, 2, 40), (75, 0, 39), (75, 1, 57), (75, 2, 61)]) : wW)) (s := (sa, sk, sf, sc, sz)) (a := 84) (k := 7) rfl) ?_
  refine n_ld rfl rfl rfl ?_
  refine n_get (v := .ref 75) rfl (hv_R (a := 84) rfl rfl) ?_
  refine n_c [.int 19, .ref 75] (xo_push (.int 19)) rfl rfl ?_
  refine n_ld rfl rfl rfl ?_
  refine n_get (v := .ref 39) rfl (hv_C (a := 84) (n := 0) rfl rfl rfl) ?_
  refine n_get (v := .ref 61) rfl (hv_R (a := 39) rfl rfl) ?_
  refine n_ld rfl rfl rfl ?_
  refine n_row x6 [.int 19, .ref 75] (a := 61) hd rfl rfl rfl rfl (fun x24 g1 g2 g3 => ?_)
  replace h := h x24 g1
  replace h := h _ (i_add (x := 19) (y := x24) (show (19 : Int32).toInt = 19 by decide) rfl)
  refine n_c [.int (19 + x24), .ref 75] xo_iadd rfl rfl ?_
  refine n_put (a := 75) (w1 := (((84, 5), 39, [(84, 2, 39), (84, 3, 40), (84, 4, 43), (83, 1, 39), (83, 2, 40), (75, 0, 39), (75, 1, 57), (75, 2, 61)]) : wW)) (s1 := (sa, sk, sf, sc, sz)) rfl rfl rfl rfl (vK_int _) rfl rfl rfl (Or.inr (Or.inl (by decide +kernel))) (ws_no (w := (((84, 5), 39, [(84, 2, 39), (84, 3, 40), (84, 4, 43), (83, 1, 39), (83, 2, 40), (75, 0, 39), (75, 1, 57), (75, 2, 61)]) : wW)) (s := (sa, sk, sf, sc, sz)) (a := 75) (k := 3) rfl) ?_
  refine n_ld rfl rfl rfl ?_
  refine n_get (v := .ref 39) rfl (hv_C (a := 84) (n := 0) rfl rfl rfl) ?_
  refine n_get (v := .ref 57) rfl (hv_R (a := 39) rfl rfl) ?_
  refine n_ld rfl rfl rfl ?_
  refine n_getI (a := 84) rfl rfl rfl (fun x26 hl hu => ?_)
  replace h := h x26
  refine n_ld rfl rfl rfl ?_
  refine n_ctr [.ref 57, .int x26, .int x6] [] rfl rfl rfl (hc (77, q_77) (List.mem_of_getElem? (i := 2) rfl)) ⟨⟨_, rfl, cmem_ok rfl⟩, vK_int _, vK_int _, trivial⟩ rfl rfl (fun vq sq hv hk => ?_)
  obtain ⟨sa27, sk28, sf29, sc30, sz31⟩ := sq
  obtain ⟨k1, k2, k3, k4, k5, k6, k7⟩ := hk
  obtain rfl : sa = sa27 := (k1 (wmem_no rfl)).symm
  obtain rfl : sk = sk28 := (k2).symm
  obtain rfl : sf = sf29 := (k3 (wmem_no rfl)).symm
  obtain rfl : sc = sc30 := (k5 (wmem_no rfl)).symm
  obtain rfl : sz = sz31 := (k6 (wmem_no rfl)).symm
  cases (show vq = none from hv)
  change Rn _ _ _ _ _ _ _ _ _ _ [] _ _
  refine n_c [.int 0] (xo_push (.int 0)) rfl rfl ?_
  refine n_st [.ref 84, .int a1, .int x6, .int 0, .null, .null] rfl rfl rfl ?_
  exact kl_6_45_39 hd hc  h
theorem t_6_39 {d : Nat} (hc : ∀ p ∈ s_w6, CTR (yex (d + 4)) p.1 p.2) {a1 : Int32} {sa : Int32} {sk : Int32} {sf : Int32} {sc : Int32} {sz : Int32} {Q : Option Value → sW → Prop} (h : w_6_0 (fun k => Tt (d + 4) wgL (wk_6 39 k) (wk_6 39 k)) 39 a1 sa sk sf sc sz Q) : Tt (d + 5) wgL (((84, 5), 39, [(84, 2, 39), (84, 3, 40), (84, 4, 43), (83, 1, 39), (83, 2, 40), (75, 0, 39), (75, 1, 57), (75, 2, 61)]) : wW) (((84, 5), 39, [(84, 2, 39), (84, 3, 40), (84, 4, 43), (83, 1, 39), (83, 2, 40), (75, 0, 39), (75, 1, 57), (75, 2, 61)]) : wW) 6 [.ref 84, .int a1] (sa, sk, sf, sc, sz) Q := tt_of (E := xE_6) (L := xL_1) (ml := 4) (ret := none) rfl rfl rfl (k_6_0_39 rfl hc h)
/-! FeatherBench$Bodies.field -/
def wk_12 (P : Nat) : Nat → wW
  | _ => (((84, 5), P, [(84, 2, P), (84, 3, (P + 1)), (84, 4, (P + 4)), (83, 1, P), (83, 2, (P + 1)), (75, 0, P), (75, 1, (P + 18)), (75, 2, (P + 22))]) : wW)
def s_w12 : List (Nat × cSg) := [(39, q_39), (42, q_42), (13, q_13), (49, q_49)]
def w_12_29 (T : Nat → Nat → List Value → sW → (Option Value → sW → Prop) → Prop) (P : Nat) (R29 : Int32 → Int32 → Int32 → Int32 → Int32 → Int32 → Int32 → Int32 → Int32 → Int32 → Prop) (a1 : Int32) (a2 : Int32) (a3 : Int32) (a4 : Int32) (a5 : Int32) (sa : Int32) (sk : Int32) (sf : Int32) (sc : Int32) (sz : Int32) (Q : Option Value → sW → Prop) : Prop :=
  ∀ x6 : Int32, -1 ≤ x6.toInt → x6.toInt ≤ 5000 → (x6.toInt ≤ a5.toInt → T 0 38 [.ref P, .int 2, .int a3] (sa, sk, sf, sc, sz) (fun v12 (sa7, sk8, sf9, sc10, sz11) => v12 = none ∧ (Q (some (.int a1)) (sa7, sk8, sf9, sc10, sz11)))) ∧ (¬ (x6.toInt ≤ a5.toInt) → ∀ x18 : Int32, -1 ≤ x18.toInt → x18.toInt ≤ 5000 → ∀ x19 : Int32, (-2147483648 ≤ x18.toInt + a5.toInt ∧ x18.toInt + a5.toInt ≤ 2147483647 → x19.toInt = x18.toInt + a5.toInt) → ∀ x25 : Int32, -1 ≤ x25.toInt → x25.toInt ≤ 2000000000 → ∀ x26 : Int32, (0 ≤ x26.toInt ∧ x26.toInt ≤ 5000) → ∀ x27 : Int32, (0 ≤ x27.toInt ∧ x27.toInt ≤ 5000) → (¬ (x26.toInt = x27.toInt) → ∀ x28 : Int32, (-2147483648 ≤ a5.toInt + 1 ∧ a5.toInt + 1 ≤ 2147483647 → x28.toInt = a5.toInt + 1) → R29 a1 a2 a3 a4 x28 sa sk sf sc sz) ∧ (x26.toInt = x27.toInt → T 0 59 [.ref P, .int 4, .int a5, .int 0, .int 0, .int 0, .int 0] (sa, sk, sf, sc, sz) (fun v34 (sa29, sk30, sf31, sc32, sz33) => v34 = none ∧ (∀ sf37 : Int32, (sf37.toInt = 0 → sf31.toInt = 0) → ∀ x40 : Int32, Q (some (.int x40)) (sa29, sk30, sf37, sc32, sz33)))))
def wl_12_29 (T : Nat → Nat → List Value → sW → (Option Value → sW → Prop) → Prop) (P : Nat)  (a1 : Int32) (a2 : Int32) (a3 : Int32) (a4 : Int32) (a5 : Int32) (sa : Int32) (sk : Int32) (sf : Int32) (sc : Int32) (sz : Int32) (Q : Option Value → sW → Prop) : Prop :=
  ∃ (I : Int32 → Int32 → Int32 → Int32 → Int32 → Int32 → Int32 → Int32 → Int32 → Int32 → Prop) (μ : Int32 → Int32 → Int32 → Int32 → Int32 → Int32 → Int32 → Int32 → Int32 → Int32 → Nat), I a1 a2 a3 a4 a5 sa sk sf sc sz ∧ ∀ (a1 : Int32) (a2 : Int32) (a3 : Int32) (a4 : Int32) (a5 : Int32) (sa : Int32) (sk : Int32) (sf : Int32) (sc : Int32) (sz : Int32), I a1 a2 a3 a4 a5 sa sk sf sc sz → w_12_29 T P (fun a1' a2' a3' a4' a5' sa' sk' sf' sc' sz' => I a1' a2' a3' a4' a5' sa' sk' sf' sc' sz' ∧ μ a1' a2' a3' a4' a5' sa' sk' sf' sc' sz' < μ a1 a2 a3 a4 a5 sa sk sf sc sz) a1 a2 a3 a4 a5 sa sk sf sc sz Q
def w_12_0 (T : Nat → Nat → List Value → sW → (Option Value → sW → Prop) → Prop) (P : Nat)  (a1 : Int32) (a2 : Int32) (sa : Int32) (sk : Int32) (sf : Int32) (sc : Int32) (sz : Int32) (Q : Option Value → sW → Prop) : Prop :=
  ∀ x1 : Int32, (-2147483648 ≤ sa.toInt + 1 ∧ sa.toInt + 1 ≤ 2147483647 → x1.toInt = sa.toInt + 1) → ∀ x2 : Int32, ∀ x8 : Int32, 0 ≤ x8.toInt → x8.toInt ≤ 1 → (¬ (x8.toInt = 0) → wl_12_29 T P  a1 a2 sa x2 0 x1 sk sf sc sz Q) ∧ (x8.toInt = 0 → T 0 38 [.ref P, .int 6, .int a2] (x1, sk, sf, sc, sz) (fun v14 (sa9, sk10, sf11, sc12, sz13) => v14 = none ∧ (Q (some (.int a1)) (sa9, sk10, sf11, sc12, sz13))))
set_option maxRecDepth 20000 in
theorem k_12_29_3 {d d0 : Nat} (hd : d = d0 + 4) (hc : ∀ p ∈ s_w12, CTR (yex d) p.1 p.2) {R29 : Int32 → Int32 → Int32 → Int32 → Int32 → Int32 → Int32 → Int32 → Int32 → Int32 → Prop} {a1 : Int32} {a2 : Int32} {a3 : Int32} {a4 : Int32} {a5 : Int32} {sa : Int32} {sk : Int32} {sf : Int32} {sc : Int32} {sz : Int32} {Q : Option Value → sW → Prop} (r29 : ∀ a1 a2 a3 a4 a5 sa sk sf sc sz, R29 a1 a2 a3 a4 a5 sa sk sf sc sz → Rn d wgL (((84, 5), 3, [(84, 2, 3), (84, 3, 4), (84, 4, 7), (83, 1, 3), (83, 2, 4), (75, 0, 3), (75, 1, 21), (75, 2, 25)]) : wW) (((84, 5), 3, [(84, 2, 3), (84, 3, 4), (84, 4, 7), (83, 1, 3), (83, 2, 4), (75, 0, 3), (75, 1, 21), (75, 2, 25)]) : wW) xL_1 7 (some .int) xE_12 (xE_12.drop 29) [.ref 84, .int a1, .int a2, .int a3, .int a4, .int a5, .null, .null, .null, .null] [] (sa, sk, sf, sc, sz) Q) (h : w_12_29 (fun k => Tt d wgL (wk_12 3 k) (wk_12 3 k)) 3 R29 a1 a2 a3 a4 a5 sa sk sf sc sz Q) : Rn d wgL (((84, 5), 3, [(84, 2, 3), (84, 3, 4), (84, 4, 7), (83, 1, 3), (83, 2, 4), (75, 0, 3), (75, 1, 21), (75, 2, 25)]) : wW) (((84, 5), 3, [(84, 2, 3), (84, 3, 4), (84, 4, 7), (83, 1, 3), (83, 2, 4), (75, 0, 3), (75, 1, 21), (75, 2, 25)]) : wW) xL_1 7 (some .int) xE_12 (xE_12.drop 29) [.ref 84, .int a1, .int a2, .int a3, .int a4, .int a5, .null, .null, .null, .null] [] (sa, sk, sf, sc, sz) Q := by
  unfold w_12_29 at h
  refine n_ld rfl rfl rfl ?_
  refine n_ld rfl rfl rfl ?_
  refine n_get (v := .ref 3) rfl (hv_C (a := 84) (n := 0) rfl rfl rfl) ?_
  refine n_ld rfl rfl rfl ?_
  refine n_c [.int 4, .int a4, .ref 3, .int a5] (xo_push (.int 4)) rfl rfl ?_
  refine n_ctr [.ref 3, .int a4, .int 4] [.int a5] rfl rfl rfl (hc (39, q_39) (List.mem_of_getElem? (i := 0) rfl)) ⟨⟨_, rfl, cmem_ok rfl⟩, vK_int _, vK_int _, trivial⟩ rfl rfl (fun vq sq hv hk => ?_)
  obtain ⟨sa1, sk2, sf3, sc4, sz5⟩ := sq
  obtain ⟨k1, k2, k3, k4, k5, k6, k7⟩ := hk
  obtain rfl : sa = sa1 := (k1 (wmem_no rfl)).symm
  obtain rfl : sk = sk2 := (k2).symm
  obtain rfl : sf = sf3 := (k3 (wmem_no rfl)).symm
  obtain rfl : sc = sc4 := (k5 (wmem_no rfl)).symm
  obtain rfl : sz = sz5 := (k6 (wmem_no rfl)).symm
  obtain ⟨vr, rfl, x6, rfl, hl, hu⟩ := hv
  replace h := h x6 hl hu
  change Rn _ _ _ _ _ _ _ _ _ _ [.int x6, .int a5] _ _
  refine n_brP rfl rfl ⟨fun hcn => ?_, fun hcn => ?_⟩
  · replace h := h.1 ((i_le (x := x6) (y := a5) rfl rfl).mp hcn)
    refine n_ld rfl rfl rfl ?_
    refine n_get (v := .ref 3) rfl (hv_C (a := 84) (n := 0) rfl rfl rfl) ?_
    refine n_c [.int 2, .ref 3] (xo_push (.int 2)) rfl rfl ?_
    refine n_ld rfl rfl rfl ?_
    refine n_tt [.ref 3, .int 2, .int a3] [] rfl rfl rfl rfl (Tt.imp h (fun v12 sq h => ?_))
    obtain ⟨sa7, sk8, sf9, sc10, sz11⟩ := sq
    obtain ⟨rfl, h⟩ := h
    change Rn _ _ _ _ _ _ _ _ _ _ [] _ _
    refine n_ld rfl rfl rfl ?_
    exact n_retI rfl h
  · replace h := h.2 (fun q => hcn ((i_le (x := x6) (y := a5) rfl rfl).mpr q))
    refine n_ld rfl rfl rfl ?_
    refine n_get (v := .ref 3) rfl (hv_C (a := 84) (n := 0) rfl rfl rfl) ?_
    refine n_ld rfl rfl rfl ?_
    refine n_c [.int 3, .int a4, .ref 3] (xo_push (.int 3)) rfl rfl ?_
    refine n_ctr [.ref 3, .int a4, .int 3] [] rfl rfl rfl (hc (39, q_39) (List.mem_of_getElem? (i := 0) rfl)) ⟨⟨_, rfl, cmem_ok rfl⟩, vK_int _, vK_int _, trivial⟩ rfl rfl (fun vq sq hv hk => ?_)
    obtain ⟨sa13, sk14, sf15, sc16, sz17⟩ := sq
    obtain ⟨k1, k2, k3, k4, k5, k6, k7⟩ := hk
    obtain rfl : sa = sa13 := (k1 (wmem_no rfl)).symm
    obtain rfl : sk = sk14 := (k2).symm
    obtain rfl : sf = sf15 := (k3 (wmem_no rfl)).symm
    obtain rfl : sc = sc16 := (k5 (wmem_no rfl)).symm
    obtain rfl : sz = sz17 := (k6 (wmem_no rfl)).symm
    obtain ⟨vr, rfl, x18, rfl, hl, hu⟩ := hv
    replace h := h x18 hl hu
    change Rn _ _ _ _ _ _ _ _ _ _ [.int x18] _ _
    refine n_ld rfl rfl rfl ?_
    replace h := h _ (i_add (x := x18) (y := a5) rfl rfl)
    refine n_c [.int (x18 + a5)] xo_iadd rfl rfl ?_
    refine n_st [.ref 84, .int a1, .int a2, .int a3, .int a4, .int a5, .int (x18 + a5), .null, .null, .null] rfl rfl rfl ?_
    refine n_ld rfl rfl rfl ?_
    refine n_get (v := .ref 4) rfl (hv_C (a := 84) (n := 1) rfl rfl rfl) ?_
    refine n_get (v := .ref 13) rfl (hv_R (a := 4) rfl rfl) ?_
    refine n_ld rfl rfl rfl ?_
    refine n_get (v := .ref 3) rfl (hv_C (a := 84) (n := 0) rfl rfl rfl) ?_
    refine n_ld rfl rfl rfl ?_
    refine n_c [.int 0, .int (x18 + a5), .ref 3, .ref 13] (xo_push (.int 0)) rfl rfl ?_
    refine n_ctr [.ref 3, .int (x18 + a5), .int 0] [.ref 13] rfl rfl rfl (hc (42, q_42) (List.mem_of_getElem? (i := 1) rfl)) ⟨⟨_, rfl, cmem_ok rfl⟩, vK_int _, vK_int _, trivial⟩ rfl rfl (fun vq sq hv hk => ?_)
    obtain ⟨sa20, sk21, sf22, sc23, sz24⟩ := sq
    obtain ⟨k1, k2, k3, k4, k5, k6, k7⟩ := hk
    obtain rfl : sa = sa20 := (k1 (wmem_no rfl)).symm
    obtain rfl : sk = sk21 := (k2).symm
    obtain rfl : sf = sf22 := (k3 (wmem_no rfl)).symm
    obtain rfl : sc = sc23 := (k5 (wmem_no rfl)).symm
    obtain rfl : sz = sz24 := (k6 (wmem_no rfl)).symm
    obtain ⟨vr, rfl, x25, rfl, hl, hu⟩ := hv
    replace h := h x25 hl hu
    change Rn _ _ _ _ _ _ _ _ _ _ [.int x25, .ref 13] _ _
    refine n_row x25 [] (a := 13) hd rfl rfl rfl rfl (fun x26 g1 g2 g3 => ?_)
    replace h := h x26 g1
    refine n_ld rfl rfl rfl ?_
    refine n_get (v := .ref 4) rfl (hv_C (a := 84) (n := 1) rfl rfl rfl) ?_
    refine n_get (v := .ref 13) rfl (hv_R (a := 4) rfl rfl) ?_
    refine n_ld rfl rfl rfl ?_
    refine n_row a3 [.int x26] (a := 13) hd rfl rfl rfl rfl (fun x27 g1 g2 g3 => ?_)
    replace h := h x27 g1
    refine n_brN rfl rfl ⟨fun hcn => ?_, fun hcn => ?_⟩
    · replace h := h.1 (fun q => hcn ((i_eq (x := x26) (y := x27) rfl rfl).mpr q))
      replace h := h _ (i_add (x := a5) (y := 1) rfl (show (1 : Int32).toInt = 1 by decide))
      refine n_inc [.ref 84, .int a1, .int a2, .int a3, .int a4, .int (a5 + 1), .int (x18 + a5), .null, .null, .null] rfl rfl rfl rfl ?_
      refine n_go rfl ?_
      refine n_fg 6 ?_
      exact r29 a1 a2 a3 a4 (a5 + 1) sa sk sf sc sz h
    · replace h := h.2 ((i_eq (x := x26) (y := x27) rfl rfl).mp hcn)
      refine n_ld rfl rfl rfl ?_
      refine n_get (v := .ref 3) rfl (hv_C (a := 84) (n := 0) rfl rfl rfl) ?_
      refine n_c [.int 4, .ref 3] (xo_push (.int 4)) rfl rfl ?_
      refine n_ld rfl rfl rfl ?_
      refine n_c [.int 0, .int a5, .int 4, .ref 3] (xo_push (.int 0)) rfl rfl ?_
      refine n_c [.int 0, .int 0, .int a5, .int 4, .ref 3] (xo_push (.int 0)) rfl rfl ?_
      refine n_c [.int 0, .int 0, .int 0, .int a5, .int 4, .ref 3] (xo_push (.int 0)) rfl rfl ?_
      refine n_c [.int 0, .int 0, .int 0, .int 0, .int a5, .int 4, .ref 3] (xo_push (.int 0)) rfl rfl ?_
      refine n_tt [.ref 3, .int 4, .int a5, .int 0, .int 0, .int 0, .int 0] [] rfl rfl rfl rfl (Tt.imp h (fun v34 sq h => ?_))
      obtain ⟨sa29, sk30, sf31, sc32, sz33⟩ := sq
      obtain ⟨rfl, h⟩ := h
      change Rn _ _ _ _ _ _ _ _ _ _ [] _ _
      refine n_ld rfl rfl rfl ?_
      refine n_ld rfl rfl rfl ?_
      refine n_ld rfl rfl rfl ?_
      refine n_c [.int 0, .int a1, .int (x18 + a5), .ref 84] (xo_push (.int 0)) rfl rfl ?_
      refine n_c [.int 0, .int 0, .int a1, .int (x18 + a5), .ref 84] (xo_push (.int 0)) rfl rfl ?_
      refine n_ld rfl rfl rfl ?_
      refine n_ctr [.ref 84, .int (x18 + a5), .int a1, .int 0, .int 0, .int a3] [] rfl rfl rfl (hc (13, q_13) (List.mem_of_getElem? (i := 2) rfl)) ⟨⟨_, rfl, cmem_ok rfl⟩, vK_int _, vK_int _, vK_int _, vK_int _, vK_int _, trivial⟩ rfl rfl (fun vq sq hv hk => ?_)
      obtain ⟨sa35, sk36, sf37, sc38, sz39⟩ := sq
      obtain ⟨k1, k2, k3, k4, k5, k6, k7⟩ := hk
      obtain rfl : sa29 = sa35 := (k1 (wmem_no rfl)).symm
      obtain rfl : sk30 = sk36 := (k2).symm
      replace h := h sf37 (k4 (wmem_no rfl))
      obtain rfl : sc32 = sc38 := (k5 (wmem_no rfl)).symm
      obtain rfl : sz33 = sz39 := (k6 (wmem_no rfl)).symm
      obtain ⟨vr, rfl, x40, rfl, hl, hu⟩ := hv
      replace h := h x40
      change Rn _ _ _ _ _ _ _ _ _ _ [.int x40] _ _
      exact n_retI rfl h
theorem kl_12_29_3 {d d0 : Nat} (hd : d = d0 + 4) (hc : ∀ p ∈ s_w12, CTR (yex d) p.1 p.2)  {a1 : Int32} {a2 : Int32} {a3 : Int32} {a4 : Int32} {a5 : Int32} {sa : Int32} {sk : Int32} {sf : Int32} {sc : Int32} {sz : Int32} {Q : Option Value → sW → Prop}  (h : wl_12_29 (fun k => Tt d wgL (wk_12 3 k) (wk_12 3 k)) 3  a1 a2 a3 a4 a5 sa sk sf sc sz Q) : Rn d wgL (((84, 5), 3, [(84, 2, 3), (84, 3, 4), (84, 4, 7), (83, 1, 3), (83, 2, 4), (75, 0, 3), (75, 1, 21), (75, 2, 25)]) : wW) (((84, 5), 3, [(84, 2, 3), (84, 3, 4), (84, 4, 7), (83, 1, 3), (83, 2, 4), (75, 0, 3), (75, 1, 21), (75, 2, 25)]) : wW) xL_1 7 (some .int) xE_12 (xE_12.drop 29) [.ref 84, .int a1, .int a2, .int a3, .int a4, .int a5, .null, .null, .null, .null] [] (sa, sk, sf, sc, sz) Q := by
  obtain ⟨I, μ, h0, h1⟩ := h
  have key : ∀ (n : Nat) (a1 : Int32) (a2 : Int32) (a3 : Int32) (a4 : Int32) (a5 : Int32) (sa : Int32) (sk : Int32) (sf : Int32) (sc : Int32) (sz : Int32), μ a1 a2 a3 a4 a5 sa sk sf sc sz = n → I a1 a2 a3 a4 a5 sa sk sf sc sz → Rn d wgL (((84, 5), 3, [(84, 2, 3), (84, 3, 4), (84, 4, 7), (83, 1, 3), (83, 2, 4), (75, 0, 3), (75, 1, 21), (75, 2, 25)]) : wW) (((84, 5), 3, [(84, 2, 3), (84, 3, 4), (84, 4, 7), (83, 1, 3), (83, 2, 4), (75, 0, 3), (75, 1, 21), (75, 2, 25)]) : wW) xL_1 7 (some .int) xE_12 (xE_12.drop 29) [.ref 84, .int a1, .int a2, .int a3, .int a4, .int a5, .null, .null, .null, .null] [] (sa, sk, sf, sc, sz) Q := by
    intro n
    induction n using Nat.strongRecOn with
    | ind n ih =>
      intro a1 a2 a3 a4 a5 sa sk sf sc sz e hI
      exact k_12_29_3 hd hc (fun a1' a2' a3' a4' a5' sa' sk' sf' sc' sz' q => ih _ (by rw [← e]; exact q.2) a1' a2' a3' a4' a5' sa' sk' sf' sc' sz' rfl q.1) (h1 a1 a2 a3 a4 a5 sa sk sf sc sz hI)
  exact key _ a1 a2 a3 a4 a5 sa sk sf sc sz rfl h0
set_option maxRecDepth 20000 in
theorem k_12_0_3 {d d0 : Nat} (hd : d = d0 + 4) (hc : ∀ p ∈ s_w12, CTR (yex d) p.1 p.2)  {a1 : Int32} {a2 : Int32} {sa : Int32} {sk : Int32} {sf : Int32} {sc : Int32} {sz : Int32} {Q : Option Value → sW → Prop}  (h : w_12_0 (fun k => Tt d wgL (wk_12 3 k) (wk_12 3 k)) 3  a1 a2 sa sk sf sc sz Q) : Rn d wgL (((84, 5), 3, [(84, 2, 3), (84, 3, 4), (84, 4, 7), (83, 1, 3), (83, 2, 4), (75, 0, 3), (75, 1, 21), (75, 2, 25)]) : wW) (((84, 5), 3, [(84, 2, 3), (84, 3, 4), (84, 4, 7), (83, 1, 3), (83, 2, 4), (75, 0, 3), (75, 1, 21), (75, 2, 25)]) : wW) xL_1 7 (some .int) xE_12 (xE_12.drop 0) [.ref 84, .int a1, .int a2, .null, .null, .null, .null, .null, .null, .null] [] (sa, sk, sf, sc, sz) Q := by
  unfold w_12_0 at h
  refine n_ld rfl rfl rfl ?_
  refine n_get (v := .int sa) rfl (hv_f (a := 84) rfl rfl (fun _ _ hw => hw.1.1)) ?_
  refine n_st [.ref 84, .int a1, .int a2, .int sa, .null, .null, .null, .null, .null, .null] rfl rfl rfl ?_
  refine n_ld rfl rfl rfl ?_
  refine n_c [.ref 84, .ref 84] xo_dup rfl rfl ?_
  refine n_get (v := .int sa) rfl (hv_f (a := 84) rfl rfl (fun _ _ hw => hw.1.1)) ?_
  refine n_c [.int 1, .int sa, .ref 84] (xo_push (.int 1)) rfl rfl ?_
  replace h := h _ (i_add (x := sa) (y := 1) rfl (show (1 : Int32).toInt = 1 by decide))
  refine n_c [.int (sa + 1), .ref 84] xo_iadd rfl rfl ?_
  refine n_put (a := 84) (w1 := (((84, 5), 3, [(84, 2, 3), (84, 3, 4), (84, 4, 7), (83, 1, 3), (83, 2, 4), (75, 0, 3), (75, 1, 21), (75, 2, 25)]) : wW)) (s1 := ((sa + 1), sk, sf, sc, sz)) rfl rfl rfl rfl (vK_int _) rfl rfl rfl (Or.inr (Or.inl (by decide +kernel))) (ws_at (w := (((84, 5), 3, [(84, 2, 3), (84, 3, 4), (84, 4, 7), (83, 1, 3), (83, 2, 4), (75, 0, 3), (75, 1, 21), (75, 2, 25)]) : wW)) (s := (sa, sk, sf, sc, sz)) rfl) ?_
  refine n_ld rfl rfl rfl ?_
  refine n_get (v := .ref 3) rfl (hv_C (a := 84) (n := 0) rfl rfl rfl) ?_
  refine n_get (v := .ref 21) rfl (hv_R (a := 3) rfl rfl) ?_
  refine n_ld rfl rfl rfl ?_
  refine n_row a1 [] (a := 21) hd rfl rfl rfl rfl (fun x2 g1 g2 g3 => ?_)
  replace h := h x2 
  refine n_st [.ref 84, .int a1, .int a2, .int sa, .int x2, .null, .null, .null, .null, .null] rfl rfl rfl ?_
  refine n_ld rfl rfl rfl ?_
  refine n_get (v := .ref 3) rfl (hv_C (a := 84) (n := 0) rfl rfl rfl) ?_
  refine n_ld rfl rfl rfl ?_
  refine n_ctr [.ref 3, .int x2] [] rfl rfl rfl (hc (49, q_49) (List.mem_of_getElem? (i := 3) rfl)) ⟨⟨_, rfl, cmem_ok rfl⟩, vK_int _, trivial⟩ rfl rfl (fun vq sq hv hk => ?_)
  obtain ⟨sa3, sk4, sf5, sc6, sz7⟩ := sq
  obtain ⟨k1, k2, k3, k4, k5, k6, k7⟩ := hk
  obtain rfl : (sa + 1) = sa3 := (k1 (wmem_no rfl)).symm
  obtain rfl : sk = sk4 := (k2).symm
  obtain rfl : sf = sf5 := (k3 (wmem_no rfl)).symm
  obtain rfl : sc = sc6 := (k5 (wmem_no rfl)).symm
  obtain rfl : sz = sz7 := (k6 (wmem_no rfl)).symm
  obtain ⟨vr, rfl, x8, rfl, hl, hu⟩ := hv
  replace h := h x8 hl hu
  change Rn _ _ _ _ _ _ _ _ _ _ [.int x8] _ _
  refine n_brN rfl rfl ⟨fun hcn => ?_, fun hcn => ?_⟩
  · replace h := h.1 (fun q => hcn ((i_eq (x := x8) (y := 0) rfl (show (0 : Int32).toInt = 0 by decide)).mpr q))
    refine n_c [.int 0] (xo_push (.int 0)) rfl rfl ?_
    refine n_st [.ref 84, .int a1, .int a2, .int sa, .int x2, .int 0, .null, .null, .null, .null] rfl rfl rfl ?_
    exact kl_12_29_3 hd hc  h
  · replace h := h.2 ((i_eq (x := x8) (y := 0) rfl (show (0 : Int32).toInt = 0 by decide)).mp hcn)
    refine n_ld rfl rfl rfl ?_
    refine n_get (v := .ref 3) rfl (hv_C (a := 84) (n := 0) rfl rfl rfl) ?_
    refine n_c [.int 6, .ref 3] (xo_push (.int 6)) rfl rfl ?_
    refine n_ld rfl rfl rfl ?_
    refine n_tt [.ref 3, .int 6, .int a2] [] rfl rfl rfl rfl (Tt.imp h (fun v14 sq h => ?_))
    obtain ⟨sa9, sk10, sf11, sc12, sz13⟩ := sq
    obtain ⟨rfl, h⟩ := h
    change Rn _ _ _ _ _ _ _ _ _ _ [] _ _
    refine n_ld rfl rfl rfl ?_
    exact n_retI rfl h
theorem t_12_3 {d : Nat} (hc : ∀ p ∈ s_w12, CTR (yex (d + 4)) p.1 p.2) {a1 : Int32} {a2 : Int32} {sa : Int32} {sk : Int32} {sf : Int32} {sc : Int32} {sz : Int32} {Q : Option Value → sW → Prop} (h : w_12_0 (fun k => Tt (d + 4) wgL (wk_12 3 k) (wk_12 3 k)) 3 a1 a2 sa sk sf sc sz Q) : Tt (d + 5) wgL (((84, 5), 3, [(84, 2, 3), (84, 3, 4), (84, 4, 7), (83, 1, 3), (83, 2, 4), (75, 0, 3), (75, 1, 21), (75, 2, 25)]) : wW) (((84, 5), 3, [(84, 2, 3), (84, 3, 4), (84, 4, 7), (83, 1, 3), (83, 2, 4), (75, 0, 3), (75, 1, 21), (75, 2, 25)]) : wW) 12 [.ref 84, .int a1, .int a2] (sa, sk, sf, sc, sz) Q := tt_of (E := xE_12) (L := xL_1) (ml := 7) (ret := some .int) rfl rfl rfl (k_12_0_3 rfl hc h)
set_option maxRecDepth 20000 in
theorem k_12_29_39 {d d0 : Nat} (hd : d = d0 + 4) (hc : ∀ p ∈ s_w12, CTR (yex d) p.1 p.2) {R29 : Int32 → Int32 → Int32 → Int32 → Int32 → Int32 → Int32 → Int32 → Int32 → Int32 → Prop} {a1 : Int32} {a2 : Int32} {a3 : Int32} {a4 : Int32} {a5 : Int32} {sa : Int32} {sk : Int32} {sf : Int32} {sc : Int32} {sz : Int32} {Q : Option Value → sW → Prop} (r29 : ∀ a1 a2 a3 a4 a5 sa sk sf sc sz, R29 a1 a2 a3 a4 a5 sa sk sf sc sz → Rn d wgL (((84, 5), 39, [(84, 2, 39), (84, 3, 40), (84, 4, 43), (83, 1, 39), (83, 2, 40), (75, 0, 39), (75, 1, 57), (75, 2, 61)]) : wW) (((84, 5), 39, [(84, 2, 39), (84, 3, 40), (84, 4, 43), (83, 1, 39), (83, 2, 40), (75, 0, 39), (75, 1, 57), (75, 2, 61)]) : wW) xL_1 7 (some .int) xE_12 (xE_12.drop 29) [.ref 84, .int a1, .int a2, .int a3, .int a4, .int a5, .null, .null, .null, .null] [] (sa, sk, sf, sc, sz) Q) (h : w_12_29 (fun k => Tt d wgL (wk_12 39 k) (wk_12 39 k)) 39 R29 a1 a2 a3 a4 a5 sa sk sf sc sz Q) : Rn d wgL (((84, 5), 39, [(84, 2, 39), (84, 3, 40), (84, 4, 43), (83, 1, 39), (83, 2, 40), (75, 0, 39), (75, 1, 57), (75, 2, 61)]) : wW) (((84, 5), 39, [(84, 2, 39), (84, 3, 40), (84, 4, 43), (83, 1, 39), (83, 2, 40), (75, 0, 39), (75, 1, 57), (75, 2, 61)]) : wW) xL_1 7 (some .int) xE_12 (xE_12.drop 29) [.ref 84, .int a1, .int a2, .int a3, .int a4, .int a5, .null, .null, .null, .null] [] (sa, sk, sf, sc, sz) Q := by
  unfold w_12_29 at h
  refine n_ld rfl rfl rfl ?_
  refine n_ld rfl rfl rfl ?_
  refine n_get (v := .ref 39) rfl (hv_C (a := 84) (n := 0) rfl rfl rfl) ?_
  refine n_ld rfl rfl rfl ?_
  refine n_c [.int 4, .int a4, .ref 39, .int a5] (xo_push (.int 4)) rfl rfl ?_
  refine n_ctr [.ref 39, .int a4, .int 4] [.int a5] rfl rfl rfl (hc (39, q_39) (List.mem_of_getElem? (i := 0) rfl)) ⟨⟨_, rfl, cmem_ok rfl⟩, vK_int _, vK_int _, trivial⟩ rfl rfl (fun vq sq hv hk => ?_)
  obtain ⟨sa1, sk2, sf3, sc4, sz5⟩ := sq
  obtain ⟨k1, k2, k3, k4, k5, k6, k7⟩ := hk
  obtain rfl : sa = sa1 := (k1 (wmem_no rfl)).symm
  obtain rfl : sk = sk2 := (k2).symm
  obtain rfl : sf = sf3 := (k3 (wmem_no rfl)).symm
  obtain rfl : sc = sc4 := (k5 (wmem_no rfl)).symm
  obtain rfl : sz = sz5 := (k6 (wmem_no rfl)).symm
  obtain ⟨vr, rfl, x6, rfl, hl, hu⟩ := hv
  replace h := h x6 hl hu
  change Rn _ _ _ _ _ _ _ _ _ _ [.int x6, .int a5] _ _
  refine n_brP rfl rfl ⟨fun hcn => ?_, fun hcn => ?_⟩
  · replace h := h.1 ((i_le (x := x6) (y := a5) rfl rfl).mp hcn)
    refine n_ld rfl rfl rfl ?_
    refine n_get (v := .ref 39) rfl (hv_C (a := 84) (n := 0) rfl rfl rfl) ?_
    refine n_c [.int 2, .ref 39] (xo_push (.int 2)) rfl rfl ?_
    refine n_ld rfl rfl rfl ?_
    refine n_tt [.ref 39, .int 2, .int a3] [] rfl rfl rfl rfl (Tt.imp h (fun v12 sq h => ?_))
    obtain ⟨sa7, sk8, sf9, sc10, sz11⟩ := sq
    obtain ⟨rfl, h⟩ := h
    change Rn _ _ _ _ _ _ _ _ _ _ [] _ _
    refine n_ld rfl rfl rfl ?_
    exact n_retI rfl h
  · replace h := h.2 (fun q => hcn ((i_le (x := x6) (y := a5) rfl rfl).mpr q))
    refine n_ld rfl rfl rfl ?_
    refine n_get (v := .ref 39) rfl (hv_C (a := 84) (n := 0) rfl rfl rfl) ?_
    refine n_ld rfl rfl rfl ?_
    refine n_c [.int 3, .int a4, .ref 39] (xo_push (.int 3)) rfl rfl ?_
    refine n_ctr [.ref 39, .int a4, .int 3] [] rfl rfl rfl (hc (39, q_39) (List.mem_of_getElem? (i := 0) rfl)) ⟨⟨_, rfl, cmem_ok rfl⟩, vK_int _, vK_int _, trivial⟩ rfl rfl (fun vq sq hv hk => ?_)
    obtain ⟨sa13, sk14, sf15, sc16, sz17⟩ := sq
    obtain ⟨k1, k2, k3, k4, k5, k6, k7⟩ := hk
    obtain rfl : sa = sa13 := (k1 (wmem_no rfl)).symm
    obtain rfl : sk = sk14 := (k2).symm
    obtain rfl : sf = sf15 := (k3 (wmem_no rfl)).symm
    obtain rfl : sc = sc16 := (k5 (wmem_no rfl)).symm
    obtain rfl : sz = sz17 := (k6 (wmem_no rfl)).symm
    obtain ⟨vr, rfl, x18, rfl, hl, hu⟩ := hv
    replace h := h x18 hl hu
    change Rn _ _ _ _ _ _ _ _ _ _ [.int x18] _ _
    refine n_ld rfl rfl rfl ?_
    replace h := h _ (i_add (x := x18) (y := a5) rfl rfl)
    refine n_c [.int (x18 + a5)] xo_iadd rfl rfl ?_
    refine n_st [.ref 84, .int a1, .int a2, .int a3, .int a4, .int a5, .int (x18 + a5), .null, .null, .null] rfl rfl rfl ?_
    refine n_ld rfl rfl rfl ?_
    refine n_get (v := .ref 40) rfl (hv_C (a := 84) (n := 1) rfl rfl rfl) ?_
    refine n_get (v := .ref 49) rfl (hv_R (a := 40) rfl rfl) ?_
    refine n_ld rfl rfl rfl ?_
    refine n_get (v := .ref 39) rfl (hv_C (a := 84) (n := 0) rfl rfl rfl) ?_
    refine n_ld rfl rfl rfl ?_
    refine n_c [.int 0, .int (x18 + a5), .ref 39, .ref 49] (xo_push (.int 0)) rfl rfl ?_
    refine n_ctr [.ref 39, .int (x18 + a5), .int 0] [.ref 49] rfl rfl rfl (hc (42, q_42) (List.mem_of_getElem? (i := 1) rfl)) ⟨⟨_, rfl, cmem_ok rfl⟩, vK_int _, vK_int _, trivial⟩ rfl rfl (fun vq sq hv hk => ?_)
    obtain ⟨sa20, sk21, sf22, sc23, sz24⟩ := sq
    obtain ⟨k1, k2, k3, k4, k5, k6, k7⟩ := hk
    obtain rfl : sa = sa20 := (k1 (wmem_no rfl)).symm
    obtain rfl : sk = sk21 := (k2).symm
    obtain rfl : sf = sf22 := (k3 (wmem_no rfl)).symm
    obtain rfl : sc = sc23 := (k5 (wmem_no rfl)).symm
    obtain rfl : sz = sz24 := (k6 (wmem_no rfl)).symm
    obtain ⟨vr, rfl, x25, rfl, hl, hu⟩ := hv
    replace h := h x25 hl hu
    change Rn _ _ _ _ _ _ _ _ _ _ [.int x25, .ref 49] _ _
    refine n_row x25 [] (a := 49) hd rfl rfl rfl rfl (fun x26 g1 g2 g3 => ?_)
    replace h := h x26 g1
    refine n_ld rfl rfl rfl ?_
    refine n_get (v := .ref 40) rfl (hv_C (a := 84) (n := 1) rfl rfl rfl) ?_
    refine n_get (v := .ref 49) rfl (hv_R (a := 40) rfl rfl) ?_
    refine n_ld rfl rfl rfl ?_
    refine n_row a3 [.int x26] (a := 49) hd rfl rfl rfl rfl (fun x27 g1 g2 g3 => ?_)
    replace h := h x27 g1
    refine n_brN rfl rfl ⟨fun hcn => ?_, fun hcn => ?_⟩
    · replace h := h.1 (fun q => hcn ((i_eq (x := x26) (y := x27) rfl rfl).mpr q))
      replace h := h _ (i_add (x := a5) (y := 1) rfl (show (1 : Int32).toInt = 1 by decide))
      refine n_inc [.ref 84, .int a1, .int a2, .int a3, .int a4, .int (a5 + 1), .int (x18 + a5), .null, .null, .null] rfl rfl rfl rfl ?_
      refine n_go rfl ?_
      refine n_fg 6 ?_
      exact r29 a1 a2 a3 a4 (a5 + 1) sa sk sf sc sz h
    · replace h := h.2 ((i_eq (x := x26) (y := x27) rfl rfl).mp hcn)
      refine n_ld rfl rfl rfl ?_
      refine n_get (v := .ref 39) rfl (hv_C (a := 84) (n := 0) rfl rfl rfl) ?_
      refine n_c [.int 4, .ref 39] (xo_push (.int 4)) rfl rfl ?_
      refine n_ld rfl rfl rfl ?_
      refine n_c [.int 0, .int a5, .int 4, .ref 39] (xo_push (.int 0)) rfl rfl ?_
      refine n_c [.int 0, .int 0, .int a5, .int 4, .ref 39] (xo_push (.int 0)) rfl rfl ?_
      refine n_c [.int 0, .int 0, .int 0, .int a5, .int 4, .ref 39] (xo_push (.int 0)) rfl rfl ?_
      refine n_c [.int 0, .int 0, .int 0, .int 0, .int a5, .int 4, .ref 39] (xo_push (.int 0)) rfl rfl ?_
      refine n_tt [.ref 39, .int 4, .int a5, .int 0, .int 0, .int 0, .int 0] [] rfl rfl rfl rfl (Tt.imp h (fun v34 sq h => ?_))
      obtain ⟨sa29, sk30, sf31, sc32, sz33⟩ := sq
      obtain ⟨rfl, h⟩ := h
      change Rn _ _ _ _ _ _ _ _ _ _ [] _ _
      refine n_ld rfl rfl rfl ?_
      refine n_ld rfl rfl rfl ?_
      refine n_ld rfl rfl rfl ?_
      refine n_c [.int 0, .int a1, .int (x18 + a5), .ref 84] (xo_push (.int 0)) rfl rfl ?_
      refine n_c [.int 0, .int 0, .int a1, .int (x18 + a5), .ref 84] (xo_push (.int 0)) rfl rfl ?_
      refine n_ld rfl rfl rfl ?_
      refine n_ctr [.ref 84, .int (x18 + a5), .int a1, .int 0, .int 0, .int a3] [] rfl rfl rfl (hc (13, q_13) (List.mem_of_getElem? (i := 2) rfl)) ⟨⟨_, rfl, cmem_ok rfl⟩, vK_int _, vK_int _, vK_int _, vK_int _, vK_int _, trivial⟩ rfl rfl (fun vq sq hv hk => ?_)
      obtain ⟨sa35, sk36, sf37, sc38, sz39⟩ := sq
      obtain ⟨k1, k2, k3, k4, k5, k6, k7⟩ := hk
      obtain rfl : sa29 = sa35 := (k1 (wmem_no rfl)).symm
      obtain rfl : sk30 = sk36 := (k2).symm
      replace h := h sf37 (k4 (wmem_no rfl))
      obtain rfl : sc32 = sc38 := (k5 (wmem_no rfl)).symm
      obtain rfl : sz33 = sz39 := (k6 (wmem_no rfl)).symm
      obtain ⟨vr, rfl, x40, rfl, hl, hu⟩ := hv
      replace h := h x40
      change Rn _ _ _ _ _ _ _ _ _ _ [.int x40] _ _
      exact n_retI rfl h
theorem kl_12_29_39 {d d0 : Nat} (hd : d = d0 + 4) (hc : ∀ p ∈ s_w12, CTR (yex d) p.1 p.2)  {a1 : Int32} {a2 : Int32} {a3 : Int32} {a4 : Int32} {a5 : Int32} {sa : Int32} {sk : Int32} {sf : Int32} {sc : Int32} {sz : Int32} {Q : Option Value → sW → Prop}  (h : wl_12_29 (fun k => Tt d wgL (wk_12 39 k) (wk_12 39 k)) 39  a1 a2 a3 a4 a5 sa sk sf sc sz Q) : Rn d wgL (((84, 5), 39, [(84, 2, 39), (84, 3, 40), (84, 4, 43), (83, 1, 39), (83, 2, 40), (75, 0, 39), (75, 1, 57), (75, 2, 61)]) : wW) (((84, 5), 39, [(84, 2, 39), (84, 3, 40), (84, 4, 43), (83, 1, 39), (83, 2, 40), (75, 0, 39), (75, 1, 57), (75, 2, 61)]) : wW) xL_1 7 (some .int) xE_12 (xE_12.drop 29) [.ref 84, .int a1, .int a2, .int a3, .int a4, .int a5, .null, .null, .null, .null] [] (sa, sk, sf, sc, sz) Q := by
  obtain ⟨I, μ, h0, h1⟩ := h
  have key : ∀ (n : Nat) (a1 : Int32) (a2 : Int32) (a3 : Int32) (a4 : Int32) (a5 : Int32) (sa : Int32) (sk : Int32) (sf : Int32) (sc : Int32) (sz : Int32), μ a1 a2 a3 a4 a5 sa sk sf sc sz = n → I a1 a2 a3 a4 a5 sa sk sf sc sz → Rn d wgL (((84, 5), 39, [(84, 2, 39), (84, 3, 40), (84, 4, 43), (83, 1, 39), (83, 2, 40), (75, 0, 39), (75, 1, 57), (75, 2, 61)]) : wW) (((84, 5), 39, [(84, 2, 39), (84, 3, 40), (84, 4, 43), (83, 1, 39), (83, 2, 40), (75, 0, 39), (75, 1, 57), (75, 2, 61)]) : wW) xL_1 7 (some .int) xE_12 (xE_12.drop 29) [.ref 84, .int a1, .int a2, .int a3, .int a4, .int a5, .null, .null, .null, .null] [] (sa, sk, sf, sc, sz) Q := by
    intro n
    induction n using Nat.strongRecOn with
    | ind n ih =>
      intro a1 a2 a3 a4 a5 sa sk sf sc sz e hI
      exact k_12_29_39 hd hc (fun a1' a2' a3' a4' a5' sa' sk' sf' sc' sz' q => ih _ (by rw [← e]; exact q.2) a1' a2' a3' a4' a5' sa' sk' sf' sc' sz' rfl q.1) (h1 a1 a2 a3 a4 a5 sa sk sf sc sz hI)
  exact key _ a1 a2 a3 a4 a5 sa sk sf sc sz rfl h0
set_option maxRecDepth 20000 in
theorem k_12_0_39 {d d0 : Nat} (hd : d = d0 + 4) (hc : ∀ p ∈ s_w12, CTR (yex d) p.1 p.2)  {a1 : Int32} {a2 : Int32} {sa : Int32} {sk : Int32} {sf : Int32} {sc : Int32} {sz : Int32} {Q : Option Value → sW → Prop}  (h : w_12_0 (fun k => Tt d wgL (wk_12 39 k) (wk_12 39 k)) 39  a1 a2 sa sk sf sc sz Q) : Rn d wgL (((84, 5), 39, [(84, 2, 39), (84, 3, 40), (84, 4, 43), (83, 1, 39), (83, 2, 40), (75, 0, 39), (75, 1, 57), (75, 2, 61)]) : wW) (((84, 5), 39, [(84, 2, 39), (84, 3, 40), (84, 4, 43), (83, 1, 39), (83, 2, 40), (75, 0, 39), (75, 1, 57), (75, 2, 61)]) : wW) xL_1 7 (some .int) xE_12 (xE_12.drop 0) [.ref 84, .int a1, .int a2, .null, .null, .null, .null, .null, .null, .null] [] (sa, sk, sf, sc, sz) Q := by
  unfold w_12_0 at h
  refine n_ld rfl rfl rfl ?_
  refine n_get (v := .int sa) rfl (hv_f (a := 84) rfl rfl (fun _ _ hw => hw.1.1)) ?_
  refine n_st [.ref 84, .int a1, .int a2, .int sa, .null, .null, .null, .null, .null, .null] rfl rfl rfl ?_
  refine n_ld rfl rfl rfl ?_
  refine n_c [.ref 84, .ref 84] xo_dup rfl rfl ?_
  refine n_get (v := .int sa) rfl (hv_f (a := 84) rfl rfl (fun _ _ hw => hw.1.1)) ?_
  refine n_c [.int 1, .int sa, .ref 84] (xo_push (.int 1)) rfl rfl ?_
  replace h := h _ (i_add (x := sa) (y := 1) rfl (show (1 : Int32).toInt = 1 by decide))
  refine n_c [.int (sa + 1), .ref 84] xo_iadd rfl rfl ?_
  refine n_put (a := 84) (w1 := (((84, 5), 39, [(84, 2, 39), (84, 3, 40), (84, 4, 43), (83, 1, 39), (83, 2, 40), (75, 0, 39), (75, 1, 57), (75, 2, 61)]) : wW)) (s1 := ((sa + 1), sk, sf, sc, sz)) rfl rfl rfl rfl (vK_int _) rfl rfl rfl (Or.inr (Or.inl (by decide +kernel))) (ws_at (w := (((84, 5), 39, [(84, 2, 39), (84, 3, 40), (84, 4, 43), (83, 1, 39), (83, 2, 40), (75, 0, 39), (75, 1, 57), (75, 2, 61)]) : wW)) (s := (sa, sk, sf, sc, sz)) rfl) ?_
  refine n_ld rfl rfl rfl ?_
  refine n_get (v := .ref 39) rfl (hv_C (a := 84) (n := 0) rfl rfl rfl) ?_
  refine n_get (v := .ref 57) rfl (hv_R (a := 39) rfl rfl) ?_
  refine n_ld rfl rfl rfl ?_
  refine n_row a1 [] (a := 57) hd rfl rfl rfl rfl (fun x2 g1 g2 g3 => ?_)
  replace h := h x2 
  refine n_st [.ref 84, .int a1, .int a2, .int sa, .int x2, .null, .null, .null, .null, .null] rfl rfl rfl ?_
  refine n_ld rfl rfl rfl ?_
  refine n_get (v := .ref 39) rfl (hv_C (a := 84) (n := 0) rfl rfl rfl) ?_
  refine n_ld rfl rfl rfl ?_
  refine n_ctr [.ref 39, .int x2] [] rfl rfl rfl (hc (49, q_49) (List.mem_of_getElem? (i := 3) rfl)) ⟨⟨_, rfl, cmem_ok rfl⟩, vK_int _, trivial⟩ rfl rfl (fun vq sq hv hk => ?_)
  obtain ⟨sa3, sk4, sf5, sc6, sz7⟩ := sq
  obtain ⟨k1, k2, k3, k4, k5, k6, k7⟩ := hk
  obtain rfl : (sa + 1) = sa3 := (k1 (wmem_no rfl)).symm
  obtain rfl : sk = sk4 := (k2).symm
  obtain rfl : sf = sf5 := (k3 (wmem_no rfl)).symm
  obtain rfl : sc = sc6 := (k5 (wmem_no rfl)).symm
  obtain rfl : sz = sz7 := (k6 (wmem_no rfl)).symm
  obtain ⟨vr, rfl, x8, rfl, hl, hu⟩ := hv
  replace h := h x8 hl hu
  change Rn _ _ _ _ _ _ _ _ _ _ [.int x8] _ _
  refine n_brN rfl rfl ⟨fun hcn => ?_, fun hcn => ?_⟩
  · replace h := h.1 (fun q => hcn ((i_eq (x := x8) (y := 0) rfl (show (0 : Int32).toInt = 0 by decide)).mpr q))
    refine n_c [.int 0] (xo_push (.int 0)) rfl rfl ?_
    refine n_st [.ref 84, .int a1, .int a2, .int sa, .int x2, .int 0, .null, .null, .null, .null] rfl rfl rfl ?_
    exact kl_12_29_39 hd hc  h
  · replace h := h.2 ((i_eq (x := x8) (y := 0) rfl (show (0 : Int32).toInt = 0 by decide)).mp hcn)
    refine n_ld rfl rfl rfl ?_
    refine n_get (v := .ref 39) rfl (hv_C (a := 84) (n := 0) rfl rfl rfl) ?_
    refine n_c [.int 6, .ref 39] (xo_push (.int 6)) rfl rfl ?_
    refine n_ld rfl rfl rfl ?_
    refine n_tt [.ref 39, .int 6, .int a2] [] rfl rfl rfl rfl (Tt.imp h (fun v14 sq h => ?_))
    obtain ⟨sa9, sk10, sf11, sc12, sz13⟩ := sq
    obtain ⟨rfl, h⟩ := h
    change Rn _ _ _ _ _ _ _ _ _ _ [] _ _
    refine n_ld rfl rfl rfl ?_
    exact n_retI rfl h
theorem t_12_39 {d : Nat} (hc : ∀ p ∈ s_w12, CTR (yex (d + 4)) p.1 p.2) {a1 : Int32} {a2 : Int32} {sa : Int32} {sk : Int32} {sf : Int32} {sc : Int32} {sz : Int32} {Q : Option Value → sW → Prop} (h : w_12_0 (fun k => Tt (d + 4) wgL (wk_12 39 k) (wk_12 39 k)) 39 a1 a2 sa sk sf sc sz Q) : Tt (d + 5) wgL (((84, 5), 39, [(84, 2, 39), (84, 3, 40), (84, 4, 43), (83, 1, 39), (83, 2, 40), (75, 0, 39), (75, 1, 57), (75, 2, 61)]) : wW) (((84, 5), 39, [(84, 2, 39), (84, 3, 40), (84, 4, 43), (83, 1, 39), (83, 2, 40), (75, 0, 39), (75, 1, 57), (75, 2, 61)]) : wW) 12 [.ref 84, .int a1, .int a2] (sa, sk, sf, sc, sz) Q := tt_of (E := xE_12) (L := xL_1) (ml := 7) (ret := some .int) rfl rfl rfl (k_12_0_39 rfl hc h)
/-! FeatherBench$Bodies.literal -/
def wk_10 (P : Nat) : Nat → wW
  | _ => (((84, 5), P, [(84, 2, P), (84, 3, (P + 1)), (84, 4, (P + 4)), (83, 1, P), (83, 2, (P + 1)), (75, 0, P), (75, 1, (P + 18)), (75, 2, (P + 22))]) : wW)
def s_w10 : List (Nat × cSg) := [(39, q_39), (135, q_135), (49, q_49)]
def w_10_58 (T : Nat → Nat → List Value → sW → (Option Value → sW → Prop) → Prop) (P : Nat)  (a1 : Int32) (a2 : Int32) (a3 : Int32) (a4 : Int32) (a5 : Int32) (sa : Int32) (sk : Int32) (sf : Int32) (sc : Int32) (sz : Int32) (Q : Option Value → sW → Prop) : Prop :=
  T 0 59 [.ref P, .int 2, .int a3, .int 0, .int 0, .int 0, .int 0] (sa, sk, sf, sc, sz) (fun v6 (sa1, sk2, sf3, sc4, sz5) => v6 = none ∧ (∀ x12 : Int32, -1 ≤ x12.toInt → x12.toInt ≤ 5000 → T 0 11 [.ref 84, .int x12, .int a5, .int a3, .int 0, .int 0, .int a1] (sa1, sk2, sf3, sc4, sz5) (fun v18 (sa13, sk14, sf15, sc16, sz17) => v18 = none ∧ (T 0 59 [.ref P, .int 3, .int 0, .int a5, .int 0, .int 0, .int 0] (sa13, sk14, sf15, sc16, sz17) (fun v24 (sa19, sk20, sf21, sc22, sz23) => v24 = none ∧ (Q (some (.int a3)) (sa19, sk20, sf21, sc22, sz23)))))))
def w_10_0 (T : Nat → Nat → List Value → sW → (Option Value → sW → Prop) → Prop) (P : Nat)  (a1 : Int32) (sa : Int32) (sk : Int32) (sf : Int32) (sc : Int32) (sz : Int32) (Q : Option Value → sW → Prop) : Prop :=
  T 0 132 [.ref 83, .int sa, .int 1] (sa, sk, sf, sc, sz) (fun v6 (sa1, sk2, sf3, sc4, sz5) => ∃ x7, v6 = some (.int x7) ∧ ((0 ≤ sk.toInt ∧ sk.toInt ≤ 2147483647) ∧ (∀ sf10 : Int32, (sf10.toInt = 0 → sf3.toInt = 0) → ∀ x13 : Int32, ∀ x19 : Int32, -1 ≤ x19.toInt → x19.toInt ≤ 5000 → ∀ x25 : Int32, 0 ≤ x25.toInt → x25.toInt ≤ 1 → (¬ (x25.toInt = 0) → ∀ x26 : Int32, (0 ≤ x26.toInt ∧ x26.toInt ≤ 7) → (x26.toInt = x19.toInt → w_10_58 T P  a1 sa sk x13 x19 x7 sk2 sf10 sc4 sz5 Q) ∧ (¬ (x26.toInt = x19.toInt) → T 0 38 [.ref P, .int 4, .int sa] (x7, sk2, sf10, sc4, sz5) (fun v32 (sa27, sk28, sf29, sc30, sz31) => v32 = none ∧ (w_10_58 T P  a1 sa sk x13 x19 sa27 sk28 sf29 sc30 sz31 Q)))) ∧ (x25.toInt = 0 → T 0 38 [.ref P, .int 6, .int sa] (x7, sk2, sf10, sc4, sz5) (fun v38 (sa33, sk34, sf35, sc36, sz37) => v38 = none ∧ (w_10_58 T P  a1 sa sk x13 x19 sa33 sk34 sf35 sc36 sz37 Q))))))
set_option maxRecDepth 20000 in
theorem k_10_58_3 {d d0 : Nat} (hd : d = d0 + 4) (hc : ∀ p ∈ s_w10, CTR (yex d) p.1 p.2)  {a1 : Int32} {a2 : Int32} {a3 : Int32} {a4 : Int32} {a5 : Int32} {sa : Int32} {sk : Int32} {sf : Int32} {sc : Int32} {sz : Int32} {Q : Option Value → sW → Prop}  (h : w_10_58 (fun k => Tt d wgL (wk_10 3 k) (wk_10 3 k)) 3  a1 a2 a3 a4 a5 sa sk sf sc sz Q) : Rn d wgL (((84, 5), 3, [(84, 2, 3), (84, 3, 4), (84, 4, 7), (83, 1, 3), (83, 2, 4), (75, 0, 3), (75, 1, 21), (75, 2, 25)]) : wW) (((84, 5), 3, [(84, 2, 3), (84, 3, 4), (84, 4, 7), (83, 1, 3), (83, 2, 4), (75, 0, 3), (75, 1, 21), (75, 2, 25)]) : wW) xL_1 6 (some .int) xE_10 (xE_10.drop 58) [.ref 84, .int a1, .int a2, .int a3, .int a4, .int a5, .null, .null] [] (sa, sk, sf, sc, sz) Q := by
  unfold w_10_58 at h
  refine n_ld rfl rfl rfl ?_
  refine n_get (v := .ref 3) rfl (hv_C (a := 84) (n := 0) rfl rfl rfl) ?_
  refine n_c [.int 2, .ref 3] (xo_push (.int 2)) rfl rfl ?_
  refine n_ld rfl rfl rfl ?_
  refine n_c [.int 0, .int a3, .int 2, .ref 3] (xo_push (.int 0)) rfl rfl ?_
  refine n_c [.int 0, .int 0, .int a3, .int 2, .ref 3] (xo_push (.int 0)) rfl rfl ?_
  refine n_c [.int 0, .int 0, .int 0, .int a3, .int 2, .ref 3] (xo_push (.int 0)) rfl rfl ?_
  refine n_c [.int 0, .int 0, .int 0, .int 0, .int a3, .int 2, .ref 3] (xo_push (.int 0)) rfl rfl ?_
  refine n_tt [.ref 3, .int 2, .int a3, .int 0, .int 0, .int 0, .int 0] [] rfl rfl rfl rfl (Tt.imp h (fun v6 sq h => ?_))
  obtain ⟨sa1, sk2, sf3, sc4, sz5⟩ := sq
  obtain ⟨rfl, h⟩ := h
  change Rn _ _ _ _ _ _ _ _ _ _ [] _ _
  refine n_ld rfl rfl rfl ?_
  refine n_ld rfl rfl rfl ?_
  refine n_get (v := .ref 3) rfl (hv_C (a := 84) (n := 0) rfl rfl rfl) ?_
  refine n_ld rfl rfl rfl ?_
  refine n_c [.int 3, .int a4, .ref 3, .ref 84] (xo_push (.int 3)) rfl rfl ?_
  refine n_ctr [.ref 3, .int a4, .int 3] [.ref 84] rfl rfl rfl (hc (39, q_39) (List.mem_of_getElem? (i := 0) rfl)) ⟨⟨_, rfl, cmem_ok rfl⟩, vK_int _, vK_int _, trivial⟩ rfl rfl (fun vq sq hv hk => ?_)
  obtain ⟨sa7, sk8, sf9, sc10, sz11⟩ := sq
  obtain ⟨k1, k2, k3, k4, k5, k6, k7⟩ := hk
  obtain rfl : sa1 = sa7 := (k1 (wmem_no rfl)).symm
  obtain rfl : sk2 = sk8 := (k2).symm
  obtain rfl : sf3 = sf9 := (k3 (wmem_no rfl)).symm
  obtain rfl : sc4 = sc10 := (k5 (wmem_no rfl)).symm
  obtain rfl : sz5 = sz11 := (k6 (wmem_no rfl)).symm
  obtain ⟨vr, rfl, x12, rfl, hl, hu⟩ := hv
  replace h := h x12 hl hu
  change Rn _ _ _ _ _ _ _ _ _ _ [.int x12, .ref 84] _ _
  refine n_ld rfl rfl rfl ?_
  refine n_ld rfl rfl rfl ?_
  refine n_c [.int 0, .int a3, .int a5, .int x12, .ref 84] (xo_push (.int 0)) rfl rfl ?_
  refine n_c [.int 0, .int 0, .int a3, .int a5, .int x12, .ref 84] (xo_push (.int 0)) rfl rfl ?_
  refine n_ld rfl rfl rfl ?_
  refine n_tt [.ref 84, .int x12, .int a5, .int a3, .int 0, .int 0, .int a1] [] rfl rfl rfl rfl (Tt.imp h (fun v18 sq h => ?_))
  obtain ⟨sa13, sk14, sf15, sc16, sz17⟩ := sq
  obtain ⟨rfl, h⟩ := h
  change Rn _ _ _ _ _ _ _ _ _ _ [] _ _
  refine n_ld rfl rfl rfl ?_
  refine n_get (v := .ref 3) rfl (hv_C (a := 84) (n := 0) rfl rfl rfl) ?_
  refine n_c [.int 3, .ref 3] (xo_push (.int 3)) rfl rfl ?_
  refine n_c [.int 0, .int 3, .ref 3] (xo_push (.int 0)) rfl rfl ?_
  refine n_ld rfl rfl rfl ?_
  refine n_c [.int 0, .int a5, .int 0, .int 3, .ref 3] (xo_push (.int 0)) rfl rfl ?_
  refine n_c [.int 0, .int 0, .int a5, .int 0, .int 3, .ref 3] (xo_push (.int 0)) rfl rfl ?_
  refine n_c [.int 0, .int 0, .int 0, .int a5, .int 0, .int 3, .ref 3] (xo_push (.int 0)) rfl rfl ?_
  refine n_tt [.ref 3, .int 3, .int 0, .int a5, .int 0, .int 0, .int 0] [] rfl rfl rfl rfl (Tt.imp h (fun v24 sq h => ?_))
  obtain ⟨sa19, sk20, sf21, sc22, sz23⟩ := sq
  obtain ⟨rfl, h⟩ := h
  change Rn _ _ _ _ _ _ _ _ _ _ [] _ _
  refine n_ld rfl rfl rfl ?_
  exact n_retI rfl h
set_option maxRecDepth 20000 in
theorem k_10_0_3 {d d0 : Nat} (hd : d = d0 + 4) (hc : ∀ p ∈ s_w10, CTR (yex d) p.1 p.2)  {a1 : Int32} {sa : Int32} {sk : Int32} {sf : Int32} {sc : Int32} {sz : Int32} {Q : Option Value → sW → Prop}  (h : w_10_0 (fun k => Tt d wgL (wk_10 3 k) (wk_10 3 k)) 3  a1 sa sk sf sc sz Q) : Rn d wgL (((84, 5), 3, [(84, 2, 3), (84, 3, 4), (84, 4, 7), (83, 1, 3), (83, 2, 4), (75, 0, 3), (75, 1, 21), (75, 2, 25)]) : wW) (((84, 5), 3, [(84, 2, 3), (84, 3, 4), (84, 4, 7), (83, 1, 3), (83, 2, 4), (75, 0, 3), (75, 1, 21), (75, 2, 25)]) : wW) xL_1 6 (some .int) xE_10 (xE_10.drop 0) [.ref 84, .int a1, .null, .null, .null, .null, .null, .null] [] (sa, sk, sf, sc, sz) Q := by
  unfold w_10_0 at h
  refine n_ld rfl rfl rfl ?_
  refine n_get (v := .int sa) rfl (hv_f (a := 84) rfl rfl (fun _ _ hw => hw.1.1)) ?_
  refine n_st [.ref 84, .int a1, .int sa, .null, .null, .null, .null, .null] rfl rfl rfl ?_
  refine n_ld rfl rfl rfl ?_
  refine n_get (v := .ref 3) rfl (hv_C (a := 84) (n := 0) rfl rfl rfl) ?_
  refine n_get (v := .int sk) rfl (hv_f (a := 3) rfl rfl (fun _ _ hw => hw.1.2.1)) ?_
  refine n_st [.ref 84, .int a1, .int sa, .int sk, .null, .null, .null, .null] rfl rfl rfl ?_
  refine n_ld rfl rfl rfl ?_
  refine n_ld rfl rfl rfl ?_
  refine n_get (v := .ref 83) rfl (hv_R (a := 84) rfl rfl) ?_
  refine n_ld rfl rfl rfl ?_
  refine n_get (v := .int sa) rfl (hv_f (a := 84) rfl rfl (fun _ _ hw => hw.1.1)) ?_
  refine n_c [.int 1, .int sa, .ref 83, .ref 84] (xo_push (.int 1)) rfl rfl ?_
  refine n_tt [.ref 83, .int sa, .int 1] [.ref 84] rfl rfl rfl rfl (Tt.imp h (fun v6 sq h => ?_))
  obtain ⟨sa1, sk2, sf3, sc4, sz5⟩ := sq
  obtain ⟨x7, rfl, h⟩ := h
  change Rn _ _ _ _ _ _ _ _ _ _ [.int x7, .ref 84] _ _
  refine n_put (a := 84) (w1 := (((84, 5), 3, [(84, 2, 3), (84, 3, 4), (84, 4, 7), (83, 1, 3), (83, 2, 4), (75, 0, 3), (75, 1, 21), (75, 2, 25)]) : wW)) (s1 := (x7, sk2, sf3, sc4, sz5)) rfl rfl rfl rfl (vK_int _) rfl rfl rfl (Or.inr (Or.inl (by decide +kernel))) (ws_at (w := (((84, 5), 3, [(84, 2, 3), (84, 3, 4), (84, 4, 7), (83, 1, 3), (83, 2, 4), (75, 0, 3), (75, 1, 21), (75, 2, 25)]) : wW)) (s := (sa1, sk2, sf3, sc4, sz5)) rfl) ?_
  refine n_ld rfl rfl rfl ?_
  refine n_get (v := .ref 83) rfl (hv_R (a := 84) rfl rfl) ?_
  refine n_ld rfl rfl rfl ?_
  refine n_ld rfl rfl rfl ?_
  refine n_get (v := .ref 3) rfl (hv_C (a := 84) (n := 0) rfl rfl rfl) ?_
  refine n_get (v := .int sk2) rfl (hv_f (a := 3) rfl rfl (fun _ _ hw => hw.1.2.1)) ?_
  refine n_ctr [.ref 83, .int sk, .int sk2] [] rfl rfl rfl (hc (135, q_135) (List.mem_of_getElem? (i := 1) rfl)) ⟨⟨_, rfl, cmem_ok rfl⟩, ⟨_, rfl, h.1.1, h.1.2⟩, vK_int _, trivial⟩ rfl rfl (fun vq sq hv hk => ?_)
  replace h := h.2
  obtain ⟨sa8, sk9, sf10, sc11, sz12⟩ := sq
  obtain ⟨k1, k2, k3, k4, k5, k6, k7⟩ := hk
  obtain rfl : x7 = sa8 := (k1 (wmem_no rfl)).symm
  obtain rfl : sk2 = sk9 := (k2).symm
  replace h := h sf10 (k4 (wmem_no rfl))
  obtain rfl : sc4 = sc11 := (k5 (wmem_no rfl)).symm
  obtain rfl : sz5 = sz12 := (k6 (wmem_no rfl)).symm
  cases (show vq = none from hv)
  change Rn _ _ _ _ _ _ _ _ _ _ [] _ _
  refine n_ld rfl rfl rfl ?_
  refine n_get (v := .ref 3) rfl (hv_C (a := 84) (n := 0) rfl rfl rfl) ?_
  refine n_get (v := .ref 21) rfl (hv_R (a := 3) rfl rfl) ?_
  refine n_ld rfl rfl rfl ?_
  refine n_row sk [] (a := 21) hd rfl rfl rfl rfl (fun x13 g1 g2 g3 => ?_)
  replace h := h x13 
  refine n_st [.ref 84, .int a1, .int sa, .int sk, .int x13, .null, .null, .null] rfl rfl rfl ?_
  refine n_ld rfl rfl rfl ?_
  refine n_get (v := .ref 3) rfl (hv_C (a := 84) (n := 0) rfl rfl rfl) ?_
  refine n_ld rfl rfl rfl ?_
  refine n_c [.int 4, .int x13, .ref 3] (xo_push (.int 4)) rfl rfl ?_
  refine n_ctr [.ref 3, .int x13, .int 4] [] rfl rfl rfl (hc (39, q_39) (List.mem_of_getElem? (i := 0) rfl)) ⟨⟨_, rfl, cmem_ok rfl⟩, vK_int _, vK_int _, trivial⟩ rfl rfl (fun vq sq hv hk => ?_)
  obtain ⟨sa14, sk15, sf16, sc17, sz18⟩ := sq
  obtain ⟨k1, k2, k3, k4, k5, k6, k7⟩ := hk
  obtain rfl : x7 = sa14 := (k1 (wmem_no rfl)).symm
  obtain rfl : sk2 = sk15 := (k2).symm
  obtain rfl : sf10 = sf16 := (k3 (wmem_no rfl)).symm
  obtain rfl : sc4 = sc17 := (k5 (wmem_no rfl)).symm
  obtain rfl : sz5 = sz18 := (k6 (wmem_no rfl)).symm
  obtain ⟨vr, rfl, x19, rfl, hl, hu⟩ := hv
  replace h := h x19 hl hu
  change Rn _ _ _ _ _ _ _ _ _ _ [.int x19] _ _
  refine n_st [.ref 84, .int a1, .int sa, .int sk, .int x13, .int x19, .null, .null] rfl rfl rfl ?_
  refine n_ld rfl rfl rfl ?_
  refine n_get (v := .ref 3) rfl (hv_C (a := 84) (n := 0) rfl rfl rfl) ?_
  refine n_ld rfl rfl rfl ?_
  refine n_ctr [.ref 3, .int x13] [] rfl rfl rfl (hc (49, q_49) (List.mem_of_getElem? (i := 2) rfl)) ⟨⟨_, rfl, cmem_ok rfl⟩, vK_int _, trivial⟩ rfl rfl (fun vq sq hv hk => ?_)
  obtain ⟨sa20, sk21, sf22, sc23, sz24⟩ := sq
  obtain ⟨k1, k2, k3, k4, k5, k6, k7⟩ := hk
  obtain rfl : x7 = sa20 := (k1 (wmem_no rfl)).symm
  obtain rfl : sk2 = sk21 := (k2).symm
  obtain rfl : sf10 = sf22 := (k3 (wmem_no rfl)).symm
  obtain rfl : sc4 = sc23 := (k5 (wmem_no rfl)).symm
  obtain rfl : sz5 = sz24 := (k6 (wmem_no rfl)).symm
  obtain ⟨vr, rfl, x25, rfl, hl, hu⟩ := hv
  replace h := h x25 hl hu
  change Rn _ _ _ _ _ _ _ _ _ _ [.int x25] _ _
  refine n_brN rfl rfl ⟨fun hcn => ?_, fun hcn => ?_⟩
  · replace h := h.1 (fun q => hcn ((i_eq (x := x25) (y := 0) rfl (show (0 : Int32).toInt = 0 by decide)).mpr q))
    refine n_ld rfl rfl rfl ?_
    refine n_get (v := .ref 4) rfl (hv_C (a := 84) (n := 1) rfl rfl rfl) ?_
    refine n_get (v := .ref 15) rfl (hv_R (a := 4) rfl rfl) ?_
    refine n_ld rfl rfl rfl ?_
    refine n_get (v := .int x7) rfl (hv_f (a := 84) rfl rfl (fun _ _ hw => hw.1.1)) ?_
    refine n_row x7 [] (a := 15) hd rfl rfl rfl rfl (fun x26 g1 g2 g3 => ?_)
    replace h := h x26 g1
    refine n_ld rfl rfl rfl ?_
    refine n_brP rfl rfl ⟨fun hcn => ?_, fun hcn => ?_⟩
    · replace h := h.1 ((i_eq (x := x26) (y := x19) rfl rfl).mp hcn)
      exact k_10_58_3 hd hc  h
    · replace h := h.2 (fun q => hcn ((i_eq (x := x26) (y := x19) rfl rfl).mpr q))
      refine n_ld rfl rfl rfl ?_
      refine n_get (v := .ref 3) rfl (hv_C (a := 84) (n := 0) rfl rfl rfl) ?_
      refine n_c [.int 4, .ref 3] (xo_push (.int 4)) rfl rfl ?_
      refine n_ld rfl rfl rfl ?_
      refine n_tt [.ref 3, .int 4, .int sa] [] rfl rfl rfl rfl (Tt.imp h (fun v32 sq h => ?_))
      obtain ⟨sa27, sk28, sf29, sc30, sz31⟩ := sq
      obtain ⟨rfl, h⟩ := h
      change Rn _ _ _ _ _ _ _ _ _ _ [] _ _
      exact k_10_58_3 hd hc  h
  · replace h := h.2 ((i_eq (x := x25) (y := 0) rfl (show (0 : Int32).toInt = 0 by decide)).mp hcn)
    refine n_ld rfl rfl rfl ?_
    refine n_get (v := .ref 3) rfl (hv_C (a := 84) (n := 0) rfl rfl rfl) ?_
    refine n_c [.int 6, .ref 3] (xo_push (.int 6)) rfl rfl ?_
    refine n_ld rfl rfl rfl ?_
    refine n_tt [.ref 3, .int 6, .int sa] [] rfl rfl rfl rfl (Tt.imp h (fun v38 sq h => ?_))
    obtain ⟨sa33, sk34, sf35, sc36, sz37⟩ := sq
    obtain ⟨rfl, h⟩ := h
    change Rn _ _ _ _ _ _ _ _ _ _ [] _ _
    refine n_go rfl ?_
    exact k_10_58_3 hd hc  h
theorem t_10_3 {d : Nat} (hc : ∀ p ∈ s_w10, CTR (yex (d + 4)) p.1 p.2) {a1 : Int32} {sa : Int32} {sk : Int32} {sf : Int32} {sc : Int32} {sz : Int32} {Q : Option Value → sW → Prop} (h : w_10_0 (fun k => Tt (d + 4) wgL (wk_10 3 k) (wk_10 3 k)) 3 a1 sa sk sf sc sz Q) : Tt (d + 5) wgL (((84, 5), 3, [(84, 2, 3), (84, 3, 4), (84, 4, 7), (83, 1, 3), (83, 2, 4), (75, 0, 3), (75, 1, 21), (75, 2, 25)]) : wW) (((84, 5), 3, [(84, 2, 3), (84, 3, 4), (84, 4, 7), (83, 1, 3), (83, 2, 4), (75, 0, 3), (75, 1, 21), (75, 2, 25)]) : wW) 10 [.ref 84, .int a1] (sa, sk, sf, sc, sz) Q := tt_of (E := xE_10) (L := xL_1) (ml := 6) (ret := some .int) rfl rfl rfl (k_10_0_3 rfl hc h)
set_option maxRecDepth 20000 in
theorem k_10_58_39 {d d0 : Nat} (hd : d = d0 + 4) (hc : ∀ p ∈ s_w10, CTR (yex d) p.1 p.2)  {a1 : Int32} {a2 : Int32} {a3 : Int32} {a4 : Int32} {a5 : Int32} {sa : Int32} {sk : Int32} {sf : Int32} {sc : Int32} {sz : Int32} {Q : Option Value → sW → Prop}  (h : w_10_58 (fun k => Tt d wgL (wk_10 39 k) (wk_10 39 k)) 39  a1 a2 a3 a4 a5 sa sk sf sc sz Q) : Rn d wgL (((84, 5), 39, [(84, 2, 39), (84, 3, 40), (84, 4, 43), (83, 1, 39), (83, 2, 40), (75, 0, 39), (75, 1, 57), (75, 2, 61)]) : wW) (((84, 5), 39, [(84, 2, 39), (84, 3, 40), (84, 4, 43), (83, 1, 39), (83, 2, 40), (75, 0, 39), (75, 1, 57), (75, 2, 61)]) : wW) xL_1 6 (some .int) xE_10 (xE_10.drop 58) [.ref 84, .int a1, .int a2, .int a3, .int a4, .int a5, .null, .null] [] (sa, sk, sf, sc, sz) Q := by
  unfold w_10_58 at h
  refine n_ld rfl rfl rfl ?_
  refine n_get (v := .ref 39) rfl (hv_C (a := 84) (n := 0) rfl rfl rfl) ?_
  refine n_c [.int 2, .ref 39] (xo_push (.int 2)) rfl rfl ?_
  refine n_ld rfl rfl rfl ?_
  refine n_c [.int 0, .int a3, .int 2, .ref 39] (xo_push (.int 0)) rfl rfl ?_
  refine n_c [.int 0, .int 0, .int a3, .int 2, .ref 39] (xo_push (.int 0)) rfl rfl ?_
  refine n_c [.int 0, .int 0, .int 0, .int a3, .int 2, .ref 39] (xo_push (.int 0)) rfl rfl ?_
  refine n_c [.int 0, .int 0, .int 0, .int 0, .int a3, .int 2, .ref 39] (xo_push (.int 0)) rfl rfl ?_
  refine n_tt [.ref 39, .int 2, .int a3, .int 0, .int 0, .int 0, .int 0] [] rfl rfl rfl rfl (Tt.imp h (fun v6 sq h => ?_))
  obtain ⟨sa1, sk2, sf3, sc4, sz5⟩ := sq
  obtain ⟨rfl, h⟩ := h
  change Rn _ _ _ _ _ _ _ _ _ _ [] _ _
  refine n_ld rfl rfl rfl ?_
  refine n_ld rfl rfl rfl ?_
  refine n_get (v := .ref 39) rfl (hv_C (a := 84) (n := 0) rfl rfl rfl) ?_
  refine n_ld rfl rfl rfl ?_
  refine n_c [.int 3, .int a4, .ref 39, .ref 84] (xo_push (.int 3)) rfl rfl ?_
  refine n_ctr [.ref 39, .int a4, .int 3] [.ref 84] rfl rfl rfl (hc (39, q_39) (List.mem_of_getElem? (i := 0) rfl)) ⟨⟨_, rfl, cmem_ok rfl⟩, vK_int _, vK_int _, trivial⟩ rfl rfl (fun vq sq hv hk => ?_)
  obtain ⟨sa7, sk8, sf9, sc10, sz11⟩ := sq
  obtain ⟨k1, k2, k3, k4, k5, k6, k7⟩ := hk
  obtain rfl : sa1 = sa7 := (k1 (wmem_no rfl)).symm
  obtain rfl : sk2 = sk8 := (k2).symm
  obtain rfl : sf3 = sf9 := (k3 (wmem_no rfl)).symm
  obtain rfl : sc4 = sc10 := (k5 (wmem_no rfl)).symm
  obtain rfl : sz5 = sz11 := (k6 (wmem_no rfl)).symm
  obtain ⟨vr, rfl, x12, rfl, hl, hu⟩ := hv
  replace h := h x12 hl hu
  change Rn _ _ _ _ _ _ _ _ _ _ [.int x12, .ref 84] _ _
  refine n_ld rfl rfl rfl ?_
  refine n_ld rfl rfl rfl ?_
  refine n_c [.int 0, .int a3, .int a5, .int x12, .ref 84] (xo_push (.int 0)) rfl rfl ?_
  refine n_c [.int 0, .int 0, .int a3, .int a5, .int x12, .ref 84] (xo_push (.int 0)) rfl rfl ?_
  refine n_ld rfl rfl rfl ?_
  refine n_tt [.ref 84, .int x12, .int a5, .int a3, .int 0, .int 0, .int a1] [] rfl rfl rfl rfl (Tt.imp h (fun v18 sq h => ?_))
  obtain ⟨sa13, sk14, sf15, sc16, sz17⟩ := sq
  obtain ⟨rfl, h⟩ := h
  change Rn _ _ _ _ _ _ _ _ _ _ [] _ _
  refine n_ld rfl rfl rfl ?_
  refine n_get (v := .ref 39) rfl (hv_C (a := 84) (n := 0) rfl rfl rfl) ?_
  refine n_c [.int 3, .ref 39] (xo_push (.int 3)) rfl rfl ?_
  refine n_c [.int 0, .int 3, .ref 39] (xo_push (.int 0)) rfl rfl ?_
  refine n_ld rfl rfl rfl ?_
  refine n_c [.int 0, .int a5, .int 0, .int 3, .ref 39] (xo_push (.int 0)) rfl rfl ?_
  refine n_c [.int 0, .int 0, .int a5, .int 0, .int 3, .ref 39] (xo_push (.int 0)) rfl rfl ?_
  refine n_c [.int 0, .int 0, .int 0, .int a5, .int 0, .int 3, .ref 39] (xo_push (.int 0)) rfl rfl ?_
  refine n_tt [.ref 39, .int 3, .int 0, .int a5, .int 0, .int 0, .int 0] [] rfl rfl rfl rfl (Tt.imp h (fun v24 sq h => ?_))
  obtain ⟨sa19, sk20, sf21, sc22, sz23⟩ := sq
  obtain ⟨rfl, h⟩ := h
  change Rn _ _ _ _ _ _ _ _ _ _ [] _ _
  refine n_ld rfl rfl rfl ?_
  exact n_retI rfl h
set_option maxRecDepth 20000 in
theorem k_10_0_39 {d d0 : Nat} (hd : d = d0 + 4) (hc : ∀ p ∈ s_w10, CTR (yex d) p.1 p.2)  {a1 : Int32} {sa : Int32} {sk : Int32} {sf : Int32} {sc : Int32} {sz : Int32} {Q : Option Value → sW → Prop}  (h : w_10_0 (fun k => Tt d wgL (wk_10 39 k) (wk_10 39 k)) 39  a1 sa sk sf sc sz Q) : Rn d wgL (((84, 5), 39, [(84, 2, 39), (84, 3, 40), (84, 4, 43), (83, 1, 39), (83, 2, 40), (75, 0, 39), (75, 1, 57), (75, 2, 61)]) : wW) (((84, 5), 39, [(84, 2, 39), (84, 3, 40), (84, 4, 43), (83, 1, 39), (83, 2, 40), (75, 0, 39), (75, 1, 57), (75, 2, 61)]) : wW) xL_1 6 (some .int) xE_10 (xE_10.drop 0) [.ref 84, .int a1, .null, .null, .null, .null, .null, .null] [] (sa, sk, sf, sc, sz) Q := by
  unfold w_10_0 at h
  refine n_ld rfl rfl rfl ?_
  refine n_get (v := .int sa) rfl (hv_f (a := 84) rfl rfl (fun _ _ hw => hw.1.1)) ?_
  refine n_st [.ref 84, .int a1, .int sa, .null, .null, .null, .null, .null] rfl rfl rfl ?_
  refine n_ld rfl rfl rfl ?_
  refine n_get (v := .ref 39) rfl (hv_C (a := 84) (n := 0) rfl rfl rfl) ?_
  refine n_get (v := .int sk) rfl (hv_f (a := 39) rfl rfl (fun _ _ hw => hw.1.2.1)) ?_
  refine n_st [.ref 84, .int a1, .int sa, .int sk, .null, .null, .null, .null] rfl rfl rfl ?_
  refine n_ld rfl rfl rfl ?_
  refine n_ld rfl rfl rfl ?_
  refine n_get (v := .ref 83) rfl (hv_R (a := 84) rfl rfl) ?_
  refine n_ld rfl rfl rfl ?_
  refine n_get (v := .int sa) rfl (hv_f (a := 84) rfl rfl (fun _ _ hw => hw.1.1)) ?_
  refine n_c [.int 1, .int sa, .ref 83, .ref 84] (xo_push (.int 1)) rfl rfl ?_
  refine n_tt [.ref 83, .int sa, .int 1] [.ref 84] rfl rfl rfl rfl (Tt.imp h (fun v6 sq h => ?_))
  obtain ⟨sa1, sk2, sf3, sc4, sz5⟩ := sq
  obtain ⟨x7, rfl, h⟩ := h
  change Rn _ _ _ _ _ _ _ _ _ _ [.int x7, .ref 84] _ _
  refine n_put (a := 84) (w1 := (((84, 5), 39, [(84, 2, 39), (84, 3, 40), (84, 4, 43), (83, 1, 39), (83, 2, 40), (75, 0, 39), (75, 1, 57), (75, 2, 61)]) : wW)) (s1 := (x7, sk2, sf3, sc4, sz5)) rfl rfl rfl rfl (vK_int _) rfl rfl rfl (Or.inr (Or.inl (by decide +kernel))) (ws_at (w := (((84, 5), 39, [(84, 2, 39), (84, 3, 40), (84, 4, 43), (83, 1, 39), (83, 2, 40), (75, 0, 39), (75, 1, 57), (75, 2, 61)]) : wW)) (s := (sa1, sk2, sf3, sc4, sz5)) rfl) ?_
  refine n_ld rfl rfl rfl ?_
  refine n_get (v := .ref 83) rfl (hv_R (a := 84) rfl rfl) ?_
  refine n_ld rfl rfl rfl ?_
  refine n_ld rfl rfl rfl ?_
  refine n_get (v := .ref 39) rfl (hv_C (a := 84) (n := 0) rfl rfl rfl) ?_
  refine n_get (v := .int sk2) rfl (hv_f (a := 39) rfl rfl (fun _ _ hw => hw.1.2.1)) ?_
  refine n_ctr [.ref 83, .int sk, .int sk2] [] rfl rfl rfl (hc (135, q_135) (List.mem_of_getElem? (i := 1) rfl)) ⟨⟨_, rfl, cmem_ok rfl⟩, ⟨_, rfl, h.1.1, h.1.2⟩, vK_int _, trivial⟩ rfl rfl (fun vq sq hv hk => ?_)
  replace h := h.2
  obtain ⟨sa8, sk9, sf10, sc11, sz12⟩ := sq
  obtain ⟨k1, k2, k3, k4, k5, k6, k7⟩ := hk
  obtain rfl : x7 = sa8 := (k1 (wmem_no rfl)).symm
  obtain rfl : sk2 = sk9 := (k2).symm
  replace h := h sf10 (k4 (wmem_no rfl))
  obtain rfl : sc4 = sc11 := (k5 (wmem_no rfl)).symm
  obtain rfl : sz5 = sz12 := (k6 (wmem_no rfl)).symm
  cases (show vq = none from hv)
  change Rn _ _ _ _ _ _ _ _ _ _ [] _ _
  refine n_ld rfl rfl rfl ?_
  refine n_get (v := .ref 39) rfl (hv_C (a := 84) (n := 0) rfl rfl rfl) ?_
  refine n_get (v := .ref 57) rfl (hv_R (a := 39) rfl rfl) ?_
  refine n_ld rfl rfl rfl ?_
  refine n_row sk [] (a := 57) hd rfl rfl rfl rfl (fun x13 g1 g2 g3 => ?_)
  replace h := h x13 
  refine n_st [.ref 84, .int a1, .int sa, .int sk, .int x13, .null, .null, .null] rfl rfl rfl ?_
  refine n_ld rfl rfl rfl ?_
  refine n_get (v := .ref 39) rfl (hv_C (a := 84) (n := 0) rfl rfl rfl) ?_
  refine n_ld rfl rfl rfl ?_
  refine n_c [.int 4, .int x13, .ref 39] (xo_push (.int 4)) rfl rfl ?_
  refine n_ctr [.ref 39, .int x13, .int 4] [] rfl rfl rfl (hc (39, q_39) (List.mem_of_getElem? (i := 0) rfl)) ⟨⟨_, rfl, cmem_ok rfl⟩, vK_int _, vK_int _, trivial⟩ rfl rfl (fun vq sq hv hk => ?_)
  obtain ⟨sa14, sk15, sf16, sc17, sz18⟩ := sq
  obtain ⟨k1, k2, k3, k4, k5, k6, k7⟩ := hk
  obtain rfl : x7 = sa14 := (k1 (wmem_no rfl)).symm
  obtain rfl : sk2 = sk15 := (k2).symm
  obtain rfl : sf10 = sf16 := (k3 (wmem_no rfl)).symm
  obtain rfl : sc4 = sc17 := (k5 (wmem_no rfl)).symm
  obtain rfl : sz5 = sz18 := (k6 (wmem_no rfl)).symm
  obtain ⟨vr, rfl, x19, rfl, hl, hu⟩ := hv
  replace h := h x19 hl hu
  change Rn _ _ _ _ _ _ _ _ _ _ [.int x19] _ _
  refine n_st [.ref 84, .int a1, .int sa, .int sk, .int x13, .int x19, .null, .null] rfl rfl rfl ?_
  refine n_ld rfl rfl rfl ?_
  refine n_get (v := .ref 39) rfl (hv_C (a := 84) (n := 0) rfl rfl rfl) ?_
  refine n_ld rfl rfl rfl ?_
  refine n_ctr [.ref 39, .int x13] [] rfl rfl rfl (hc (49, q_49) (List.mem_of_getElem? (i := 2) rfl)) ⟨⟨_, rfl, cmem_ok rfl⟩, vK_int _, trivial⟩ rfl rfl (fun vq sq hv hk => ?_)
  obtain ⟨sa20, sk21, sf22, sc23, sz24⟩ := sq
  obtain ⟨k1, k2, k3, k4, k5, k6, k7⟩ := hk
  obtain rfl : x7 = sa20 := (k1 (wmem_no rfl)).symm
  obtain rfl : sk2 = sk21 := (k2).symm
  obtain rfl : sf10 = sf22 := (k3 (wmem_no rfl)).symm
  obtain rfl : sc4 = sc23 := (k5 (wmem_no rfl)).symm
  obtain rfl : sz5 = sz24 := (k6 (wmem_no rfl)).symm
  obtain ⟨vr, rfl, x25, rfl, hl, hu⟩ := hv
  replace h := h x25 hl hu
  change Rn _ _ _ _ _ _ _ _ _ _ [.int x25] _ _
  refine n_brN rfl rfl ⟨fun hcn => ?_, fun hcn => ?_⟩
  · replace h := h.1 (fun q => hcn ((i_eq (x := x25) (y := 0) rfl (show (0 : Int32).toInt = 0 by decide)).mpr q))
    refine n_ld rfl rfl rfl ?_
    refine n_get (v := .ref 40) rfl (hv_C (a := 84) (n := 1) rfl rfl rfl) ?_
    refine n_get (v := .ref 51) rfl (hv_R (a := 40) rfl rfl) ?_
    refine n_ld rfl rfl rfl ?_
    refine n_get (v := .int x7) rfl (hv_f (a := 84) rfl rfl (fun _ _ hw => hw.1.1)) ?_
    refine n_row x7 [] (a := 51) hd rfl rfl rfl rfl (fun x26 g1 g2 g3 => ?_)
    replace h := h x26 g1
    refine n_ld rfl rfl rfl ?_
    refine n_brP rfl rfl ⟨fun hcn => ?_, fun hcn => ?_⟩
    · replace h := h.1 ((i_eq (x := x26) (y := x19) rfl rfl).mp hcn)
      exact k_10_58_39 hd hc  h
    · replace h := h.2 (fun q => hcn ((i_eq (x := x26) (y := x19) rfl rfl).mpr q))
      refine n_ld rfl rfl rfl ?_
      refine n_get (v := .ref 39) rfl (hv_C (a := 84) (n := 0) rfl rfl rfl) ?_
      refine n_c [.int 4, .ref 39] (xo_push (.int 4)) rfl rfl ?_
      refine n_ld rfl rfl rfl ?_
      refine n_tt [.ref 39, .int 4, .int sa] [] rfl rfl rfl rfl (Tt.imp h (fun v32 sq h => ?_))
      obtain ⟨sa27, sk28, sf29, sc30, sz31⟩ := sq
      obtain ⟨rfl, h⟩ := h
      change Rn _ _ _ _ _ _ _ _ _ _ [] _ _
      exact k_10_58_39 hd hc  h
  · replace h := h.2 ((i_eq (x := x25) (y := 0) rfl (show (0 : Int32).toInt = 0 by decide)).mp hcn)
    refine n_ld rfl rfl rfl ?_
    refine n_get (v := .ref 39) rfl (hv_C (a := 84) (n := 0) rfl rfl rfl) ?_
    refine n_c [.int 6, .ref 39] (xo_push (.int 6)) rfl rfl ?_
    refine n_ld rfl rfl rfl ?_
    refine n_tt [.ref 39, .int 6, .int sa] [] rfl rfl rfl rfl (Tt.imp h (fun v38 sq h => ?_))
    obtain ⟨sa33, sk34, sf35, sc36, sz37⟩ := sq
    obtain ⟨rfl, h⟩ := h
    change Rn _ _ _ _ _ _ _ _ _ _ [] _ _
    refine n_go rfl ?_
    exact k_10_58_39 hd hc  h
theorem t_10_39 {d : Nat} (hc : ∀ p ∈ s_w10, CTR (yex (d + 4)) p.1 p.2) {a1 : Int32} {sa : Int32} {sk : Int32} {sf : Int32} {sc : Int32} {sz : Int32} {Q : Option Value → sW → Prop} (h : w_10_0 (fun k => Tt (d + 4) wgL (wk_10 39 k) (wk_10 39 k)) 39 a1 sa sk sf sc sz Q) : Tt (d + 5) wgL (((84, 5), 39, [(84, 2, 39), (84, 3, 40), (84, 4, 43), (83, 1, 39), (83, 2, 40), (75, 0, 39), (75, 1, 57), (75, 2, 61)]) : wW) (((84, 5), 39, [(84, 2, 39), (84, 3, 40), (84, 4, 43), (83, 1, 39), (83, 2, 40), (75, 0, 39), (75, 1, 57), (75, 2, 61)]) : wW) 10 [.ref 84, .int a1] (sa, sk, sf, sc, sz) Q := tt_of (E := xE_10) (L := xL_1) (ml := 6) (ret := some .int) rfl rfl rfl (k_10_0_39 rfl hc h)
