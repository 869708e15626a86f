/-! ===== the class: what its methods must be given (by wip/p2/cdec.py) ===== -/
def wgL : List (Nat × Nat) := [(1, 5), (1, 6), (1, 7), (4, 10), (4, 14), (6, 1), (7, 3), (7, 4), (7, 5), (7, 6), (101, 1), (101, 2)]
/-! FeatherBench$Program.blame -/
def wk_38 (P : Nat) : Nat → wW
  | _ => (((84, 5), P, []) : wW)
def s_w38 : List (Nat × cSg) := []
def w_38_16 (T : Nat → Nat → List Value → sW → (Option Value → sW → Prop) → Prop) (P : Nat)  (a1 : Int32) (a2 : Int32) (sa : Int32) (sk : Int32) (sf : Int32) (sc : Int32) (sz : Int32) (Q : Option Value → sW → Prop) : Prop :=
  Q none (sa, sk, sf, sc, sz)
def w_38_0 (T : Nat → Nat → List Value → sW → (Option Value → sW → Prop) → Prop) (P : Nat)  (a1 : Int32) (a2 : Int32) (sa : Int32) (sk : Int32) (sf : Int32) (sc : Int32) (sz : Int32) (Q : Option Value → sW → Prop) : Prop :=
  (¬ (sf.toInt = 0) → w_38_16 T P  a1 a2 sa sk sf sc sz Q) ∧ (sf.toInt = 0 → (a1.toInt = 0 → w_38_16 T P  a1 a2 sa sk sf sc sz Q) ∧ (¬ (a1.toInt = 0) → ∀ x1 : Int32, (0 ≤ x1.toInt ∧ x1.toInt ≤ 5000) → ∀ x2 : Int32, (-2147483648 ≤ 16 * x1.toInt ∧ 16 * x1.toInt ≤ 2147483647 → x2.toInt = 16 * x1.toInt) → x2.toInt % 16 = (16 * x1.toInt) % 16 → ∀ x3 : Int32, (-2147483648 ≤ a1.toInt + x2.toInt ∧ a1.toInt + x2.toInt ≤ 2147483647 → x3.toInt = a1.toInt + x2.toInt) → x3.toInt % 16 = (a1.toInt + x2.toInt) % 16 → (¬ x3.toInt = 0) ∧ (w_38_16 T P  a1 a2 sa sk x3 sc sz Q)))
set_option maxRecDepth 20000 in
theorem k_38_16_3 {d d0 : Nat} (hd : d = d0 + 4) (hc : ∀ p ∈ s_w38, CTR (yex d) p.1 p.2)  {a1 : Int32} {a2 : Int32} {sa : Int32} {sk : Int32} {sf : Int32} {sc : Int32} {sz : Int32} {Q : Option Value → sW → Prop}  (h : w_38_16 (fun k => Tt d wgL (wk_38 3 k) (wk_38 3 k)) 3  a1 a2 sa sk sf sc sz Q) : Rn d wgL (((84, 5), 3, []) : wW) (((84, 5), 3, []) : wW) xL_4 3 (none) xE_38 (xE_38.drop 16) [.ref 3, .int a1, .int a2, .null, .null, .null] [] (sa, sk, sf, sc, sz) Q := by
  unfold w_38_16 at h
  exact n_ret0 rfl h
set_option maxRecDepth 20000 in
theorem k_38_0_3 {d d0 : Nat} (hd : d = d0 + 4) (hc : ∀ p ∈ s_w38, CTR (yex d) p.1 p.2)  {a1 : Int32} {a2 : Int32} {sa : Int32} {sk : Int32} {sf : Int32} {sc : Int32} {sz : Int32} {Q : Option Value → sW → Prop}  (h : w_38_0 (fun k => Tt d wgL (wk_38 3 k) (wk_38 3 k)) 3  a1 a2 sa sk sf sc sz Q) : Rn d wgL (((84, 5), 3, []) : wW) (((84, 5), 3, []) : wW) xL_4 3 (none) xE_38 (xE_38.drop 0) [.ref 3, .int a1, .int a2, .null, .null, .null] [] (sa, sk, sf, sc, sz) Q := by
  unfold w_38_0 at h
  refine n_ld rfl rfl rfl ?_
  refine n_get (v := .int sf) rfl (hv_f (a := 3) rfl rfl (fun _ _ hw => hw.1.2.2.1)) ?_
  refine n_brN rfl rfl ⟨fun hcn => ?_, fun hcn => ?_⟩
  · replace h := h.1 (fun q => hcn ((i_eq (x := sf) (y := 0) rfl (show (0 : Int32).toInt = 0 by decide)).mpr q))
    exact k_38_16_3 hd hc  h
  · replace h := h.2 ((i_eq (x := sf) (y := 0) rfl (show (0 : Int32).toInt = 0 by decide)).mp hcn)
    refine n_ld rfl rfl rfl ?_
    refine n_brP rfl rfl ⟨fun hcn => ?_, fun hcn => ?_⟩
    · replace h := h.1 ((i_eq (x := a1) (y := 0) rfl (show (0 : Int32).toInt = 0 by decide)).mp hcn)
      exact k_38_16_3 hd hc  h
    · replace h := h.2 (fun q => hcn ((i_eq (x := a1) (y := 0) rfl (show (0 : Int32).toInt = 0 by decide)).mpr q))
      refine n_ld rfl rfl rfl ?_
      refine n_ld rfl rfl rfl ?_
      refine n_c [.int 16, .int a1, .ref 3] (xo_push (.int 16)) rfl rfl ?_
      refine n_ld rfl rfl rfl ?_
      refine n_get (v := .ref 4) rfl (hv_R (a := 3) rfl rfl) ?_
      refine n_get (v := .ref 9) rfl (hv_R (a := 4) rfl rfl) ?_
      refine n_ld rfl rfl rfl ?_
      refine n_row a2 [.int 16, .int a1, .ref 3] (a := 9) hd rfl rfl rfl rfl (fun x1 g1 g2 g3 => ?_)
      replace h := h x1 g1
      replace h := h _ (i_mul (x := 16) (y := x1) (show (16 : Int32).toInt = 16 by decide) rfl)
      replace h := h (i_mulm (x := 16) (y := x1) (show (16 : Int32).toInt = 16 by decide) rfl)
      refine n_c [.int (16 * x1), .int a1, .ref 3] xo_imul rfl rfl ?_
      replace h := h _ (i_add (x := a1) (y := (16 * x1)) rfl rfl)
      replace h := h (i_addm (x := a1) (y := (16 * x1)) rfl rfl)
      refine n_c [.int (a1 + (16 * x1)), .ref 3] xo_iadd rfl rfl ?_
      refine n_put (a := 3) (w1 := (((84, 5), 3, []) : wW)) (s1 := (sa, sk, (a1 + (16 * x1)), sc, sz)) rfl rfl rfl rfl (vK_int _) rfl rfl rfl (Or.inr (Or.inr (fun q => h.1 (z32.mpr (Value.int.inj q))))) (ws_fl (w := (((84, 5), 3, []) : wW)) (s := (sa, sk, sf, sc, sz)) rfl) ?_
      replace h := h.2
      exact k_38_16_3 hd hc  h
theorem t_38_3 {d : Nat} (hc : ∀ p ∈ s_w38, CTR (yex (d + 4)) p.1 p.2) {a1 : Int32} {a2 : Int32} {sa : Int32} {sk : Int32} {sf : Int32} {sc : Int32} {sz : Int32} {Q : Option Value → sW → Prop} (h : w_38_0 (fun k => Tt (d + 4) wgL (wk_38 3 k) (wk_38 3 k)) 3 a1 a2 sa sk sf sc sz Q) : Tt (d + 5) wgL (((84, 5), 3, []) : wW) (((84, 5), 3, []) : wW) 38 [.ref 3, .int a1, .int a2] (sa, sk, sf, sc, sz) Q := tt_of (E := xE_38) (L := xL_4) (ml := 3) (ret := none) rfl rfl rfl (k_38_0_3 rfl hc h)
set_option maxRecDepth 20000 in
theorem k_38_16_39 {d d0 : Nat} (hd : d = d0 + 4) (hc : ∀ p ∈ s_w38, CTR (yex d) p.1 p.2)  {a1 : Int32} {a2 : Int32} {sa : Int32} {sk : Int32} {sf : Int32} {sc : Int32} {sz : Int32} {Q : Option Value → sW → Prop}  (h : w_38_16 (fun k => Tt d wgL (wk_38 39 k) (wk_38 39 k)) 39  a1 a2 sa sk sf sc sz Q) : Rn d wgL (((84, 5), 39, []) : wW) (((84, 5), 39, []) : wW) xL_4 3 (none) xE_38 (xE_38.drop 16) [.ref 39, .int a1, .int a2, .null, .null, .null] [] (sa, sk, sf, sc, sz) Q := by
  unfold w_38_16 at h
  exact n_ret0 rfl h
set_option maxRecDepth 20000 in
theorem k_38_0_39 {d d0 : Nat} (hd : d = d0 + 4) (hc : ∀ p ∈ s_w38, CTR (yex d) p.1 p.2)  {a1 : Int32} {a2 : Int32} {sa : Int32} {sk : Int32} {sf : Int32} {sc : Int32} {sz : Int32} {Q : Option Value → sW → Prop}  (h : w_38_0 (fun k => Tt d wgL (wk_38 39 k) (wk_38 39 k)) 39  a1 a2 sa sk sf sc sz Q) : Rn d wgL (((84, 5), 39, []) : wW) (((84, 5), 39, []) : wW) xL_4 3 (none) xE_38 (xE_38.drop 0) [.ref 39, .int a1, .int a2, .null, .null, .null] [] (sa, sk, sf, sc, sz) Q := by
  unfold w_38_0 at h
  refine n_ld rfl rfl rfl ?_
  refine n_get (v := .int sf) rfl (hv_f (a := 39) rfl rfl (fun _ _ hw => hw.1.2.2.1)) ?_
  refine n_brN rfl rfl ⟨fun hcn => ?_, fun hcn => ?_⟩
  · replace h := h.1 (fun q => hcn ((i_eq (x := sf) (y := 0) rfl (show (0 : Int32).toInt = 0 by decide)).mpr q))
    exact k_38_16_39 hd hc  h
  · replace h := h.2 ((i_eq (x := sf) (y := 0) rfl (show (0 : Int32).toInt = 0 by decide)).mp hcn)
    refine n_ld rfl rfl rfl ?_
    refine n_brP rfl rfl ⟨fun hcn => ?_, fun hcn => ?_⟩
    · replace h := h.1 ((i_eq (x := a1) (y := 0) rfl (show (0 : Int32).toInt = 0 by decide)).mp hcn)
      exact k_38_16_39 hd hc  h
    · replace h := h.2 (fun q => hcn ((i_eq (x := a1) (y := 0) rfl (show (0 : Int32).toInt = 0 by decide)).mpr q))
      refine n_ld rfl rfl rfl ?_
      refine n_ld rfl rfl rfl ?_
      refine n_c [.int 16, .int a1, .ref 39] (xo_push (.int 16)) rfl rfl ?_
      refine n_ld rfl rfl rfl ?_
      refine n_get (v := .ref 40) rfl (hv_R (a := 39) rfl rfl) ?_
      refine n_get (v := .ref 45) rfl (hv_R (a := 40) rfl rfl) ?_
      refine n_ld rfl rfl rfl ?_
      refine n_row a2 [.int 16, .int a1, .ref 39] (a := 45) hd rfl rfl rfl rfl (fun x1 g1 g2 g3 => ?_)
      replace h := h x1 g1
      replace h := h _ (i_mul (x := 16) (y := x1) (show (16 : Int32).toInt = 16 by decide) rfl)
      replace h := h (i_mulm (x := 16) (y := x1) (show (16 : Int32).toInt = 16 by decide) rfl)
      refine n_c [.int (16 * x1), .int a1, .ref 39] xo_imul rfl rfl ?_
      replace h := h _ (i_add (x := a1) (y := (16 * x1)) rfl rfl)
      replace h := h (i_addm (x := a1) (y := (16 * x1)) rfl rfl)
      refine n_c [.int (a1 + (16 * x1)), .ref 39] xo_iadd rfl rfl ?_
      refine n_put (a := 39) (w1 := (((84, 5), 39, []) : wW)) (s1 := (sa, sk, (a1 + (16 * x1)), sc, sz)) rfl rfl rfl rfl (vK_int _) rfl rfl rfl (Or.inr (Or.inr (fun q => h.1 (z32.mpr (Value.int.inj q))))) (ws_fl (w := (((84, 5), 39, []) : wW)) (s := (sa, sk, sf, sc, sz)) rfl) ?_
      replace h := h.2
      exact k_38_16_39 hd hc  h
theorem t_38_39 {d : Nat} (hc : ∀ p ∈ s_w38, CTR (yex (d + 4)) p.1 p.2) {a1 : Int32} {a2 : Int32} {sa : Int32} {sk : Int32} {sf : Int32} {sc : Int32} {sz : Int32} {Q : Option Value → sW → Prop} (h : w_38_0 (fun k => Tt (d + 4) wgL (wk_38 39 k) (wk_38 39 k)) 39 a1 a2 sa sk sf sc sz Q) : Tt (d + 5) wgL (((84, 5), 39, []) : wW) (((84, 5), 39, []) : wW) 38 [.ref 39, .int a1, .int a2] (sa, sk, sf, sc, sz) Q := tt_of (E := xE_38) (L := xL_4) (ml := 3) (ret := none) rfl rfl rfl (k_38_0_39 rfl hc h)
/-! FeatherBench$Shapes.end -/
def wk_83 (P : Nat) : Nat → wW
  | _ => (((84, 5), P, [(75, 0, P), (75, 1, (P + 18)), (75, 2, (P + 22))]) : wW)
def s_w83 : List (Nat × cSg) := []
def w_83_26 (T : Nat → Nat → List Value → sW → (Option Value → sW → Prop) → Prop) (P : Nat)  (a1 : Int32) (a2 : Int32) (a3 : Int32) (a4 : Int32) (sa : Int32) (sk : Int32) (sf : Int32) (sc : Int32) (sz : Int32) (Q : Option Value → sW → Prop) : Prop :=
  Q (some (.int a2)) (sa, sk, sf, sc, sz)
def w_83_6 (T : Nat → Nat → List Value → sW → (Option Value → sW → Prop) → Prop) (P : Nat) (R6 : Int32 → Int32 → Int32 → Int32 → Int32 → Int32 → Int32 → Int32 → Int32 → Prop) (a1 : Int32) (a2 : Int32) (a3 : Int32) (a4 : Int32) (sa : Int32) (sk : Int32) (sf : Int32) (sc : Int32) (sz : Int32) (Q : Option Value → sW → Prop) : Prop :=
  (4000 ≤ a4.toInt → w_83_26 T P  a1 a2 a3 a4 sa sk sf sc sz Q) ∧ (¬ (4000 ≤ a4.toInt) → (a3.toInt ≤ 0 → w_83_26 T P  a1 a2 a3 a4 sa sk sf sc sz Q) ∧ (¬ (a3.toInt ≤ 0) → ∀ x1 : Int32, ∀ x2 : Int32, (0 ≤ x2.toInt ∧ x2.toInt ≤ 7) → ∀ x3 : Int32, (-2147483648 ≤ x2.toInt - 1 ∧ x2.toInt - 1 ≤ 2147483647 → x3.toInt = x2.toInt - 1) → ∀ x4 : Int32, (-2147483648 ≤ a3.toInt + x3.toInt ∧ a3.toInt + x3.toInt ≤ 2147483647 → x4.toInt = a3.toInt + x3.toInt) → ∀ x5 : Int32, (-2147483648 ≤ a2.toInt + 1 ∧ a2.toInt + 1 ≤ 2147483647 → x5.toInt = a2.toInt + 1) → ∀ x6 : Int32, (-2147483648 ≤ a4.toInt + 1 ∧ a4.toInt + 1 ≤ 2147483647 → x6.toInt = a4.toInt + 1) → R6 a1 x5 x4 x6 sa sk sf sc sz))
def wl_83_6 (T : Nat → Nat → List Value → sW → (Option Value → sW → Prop) → Prop) (P : Nat)  (a1 : Int32) (a2 : Int32) (a3 : Int32) (a4 : Int32) (sa : Int32) (sk : Int32) (sf : Int32) (sc : Int32) (sz : Int32) (Q : Option Value → sW → Prop) : Prop :=
  ∃ (I : Int32 → Int32 → Int32 → Int32 → Int32 → Int32 → Int32 → Int32 → Int32 → Prop) (μ : Int32 → Int32 → Int32 → Int32 → Int32 → Int32 → Int32 → Int32 → Int32 → Nat), I a1 a2 a3 a4 sa sk sf sc sz ∧ ∀ (a1 : Int32) (a2 : Int32) (a3 : Int32) (a4 : Int32) (sa : Int32) (sk : Int32) (sf : Int32) (sc : Int32) (sz : Int32), I a1 a2 a3 a4 sa sk sf sc sz → w_83_6 T P (fun a1' a2' a3' a4' sa' sk' sf' sc' sz' => I a1' a2' a3' a4' sa' sk' sf' sc' sz' ∧ μ a1' a2' a3' a4' sa' sk' sf' sc' sz' < μ a1 a2 a3 a4 sa sk sf sc sz) a1 a2 a3 a4 sa sk sf sc sz Q
def w_83_0 (T : Nat → Nat → List Value → sW → (Option Value → sW → Prop) → Prop) (P : Nat)  (a1 : Int32) (sa : Int32) (sk : Int32) (sf : Int32) (sc : Int32) (sz : Int32) (Q : Option Value → sW → Prop) : Prop :=
  wl_83_6 T P  a1 a1 1 0 sa sk sf sc sz Q
set_option maxRecDepth 20000 in
theorem k_83_26_3 {d d0 : Nat} (hd : d = d0 + 4) (hc : ∀ p ∈ s_w83, CTR (yex d) p.1 p.2)  {a1 : Int32} {a2 : Int32} {a3 : Int32} {a4 : Int32} {sa : Int32} {sk : Int32} {sf : Int32} {sc : Int32} {sz : Int32} {Q : Option Value → sW → Prop}  (h : w_83_26 (fun k => Tt d wgL (wk_83 3 k) (wk_83 3 k)) 3  a1 a2 a3 a4 sa sk sf sc sz Q) : Rn d wgL (((84, 5), 3, [(75, 0, 3), (75, 1, 21), (75, 2, 25)]) : wW) (((84, 5), 3, [(75, 0, 3), (75, 1, 21), (75, 2, 25)]) : wW) xL_7 5 (some .int) xE_83 (xE_83.drop 26) [.ref 75, .int a1, .int a2, .int a3, .int a4, .null, .null] [] (sa, sk, sf, sc, sz) Q := by
  unfold w_83_26 at h
  refine n_ld rfl rfl rfl ?_
  exact n_retI rfl h
set_option maxRecDepth 20000 in
theorem k_83_6_3 {d d0 : Nat} (hd : d = d0 + 4) (hc : ∀ p ∈ s_w83, CTR (yex d) p.1 p.2) {R6 : Int32 → Int32 → Int32 → Int32 → Int32 → Int32 → Int32 → Int32 → Int32 → Prop} {a1 : Int32} {a2 : Int32} {a3 : Int32} {a4 : Int32} {sa : Int32} {sk : Int32} {sf : Int32} {sc : Int32} {sz : Int32} {Q : Option Value → sW → Prop} (r6 : ∀ a1 a2 a3 a4 sa sk sf sc sz, R6 a1 a2 a3 a4 sa sk sf sc sz → Rn d wgL (((84, 5), 3, [(75, 0, 3), (75, 1, 21), (75, 2, 25)]) : wW) (((84, 5), 3, [(75, 0, 3), (75, 1, 21), (75, 2, 25)]) : wW) xL_7 5 (some .int) xE_83 (xE_83.drop 6) [.ref 75, .int a1, .int a2, .int a3, .int a4, .null, .null] [] (sa, sk, sf, sc, sz) Q) (h : w_83_6 (fun k => Tt d wgL (wk_83 3 k) (wk_83 3 k)) 3 R6 a1 a2 a3 a4 sa sk sf sc sz Q) : Rn d wgL (((84, 5), 3, [(75, 0, 3), (75, 1, 21), (75, 2, 25)]) : wW) (((84, 5), 3, [(75, 0, 3), (75, 1, 21), (75, 2, 25)]) : wW) xL_7 5 (some .int) xE_83 (xE_83.drop 6) [.ref 75, .int a1, .int a2, .int a3, .int a4, .null, .null] [] (sa, sk, sf, sc, sz) Q := by
  unfold w_83_6 at h
  refine n_ld rfl rfl rfl ?_
  refine n_c [.int 4000, .int a4] (xo_push (.int 4000)) rfl rfl ?_
  refine n_brP rfl rfl ⟨fun hcn => ?_, fun hcn => ?_⟩
  · replace h := h.1 ((i_le (x := 4000) (y := a4) (show (4000 : Int32).toInt = 4000 by decide) rfl).mp hcn)
    exact k_83_26_3 hd hc  h
  · replace h := h.2 (fun q => hcn ((i_le (x := 4000) (y := a4) (show (4000 : Int32).toInt = 4000 by decide) rfl).mpr q))
    refine n_ld rfl rfl rfl ?_
    refine n_brP rfl rfl ⟨fun hcn => ?_, fun hcn => ?_⟩
    · replace h := h.1 ((i_le (x := a3) (y := 0) rfl (show (0 : Int32).toInt = 0 by decide)).mp hcn)
      exact k_83_26_3 hd hc  h
    · replace h := h.2 (fun q => hcn ((i_le (x := a3) (y := 0) rfl (show (0 : Int32).toInt = 0 by decide)).mpr q))
      refine n_ld rfl rfl rfl ?_
      refine n_ld rfl rfl rfl ?_
      refine n_get (v := .ref 25) rfl (hv_C (a := 75) (n := 2) rfl rfl rfl) ?_
      refine n_ld rfl rfl rfl ?_
      refine n_get (v := .ref 21) rfl (hv_C (a := 75) (n := 1) rfl rfl rfl) ?_
      refine n_ld rfl rfl rfl ?_
      refine n_row a2 [.ref 25, .int a3] (a := 21) hd rfl rfl rfl rfl (fun x1 g1 g2 g3 => ?_)
      replace h := h x1 
      refine n_row x1 [.int a3] (a := 25) hd rfl rfl rfl rfl (fun x2 g1 g2 g3 => ?_)
      replace h := h x2 g1
      refine n_c [.int 1, .int x2, .int a3] (xo_push (.int 1)) rfl rfl ?_
      replace h := h _ (i_sub (x := x2) (y := 1) rfl (show (1 : Int32).toInt = 1 by decide))
      refine n_c [.int (x2 - 1), .int a3] xo_isub rfl rfl ?_
      replace h := h _ (i_add (x := a3) (y := (x2 - 1)) rfl rfl)
      refine n_c [.int (a3 + (x2 - 1))] xo_iadd rfl rfl ?_
      refine n_st [.ref 75, .int a1, .int a2, .int (a3 + (x2 - 1)), .int a4, .null, .null] rfl rfl rfl ?_
      replace h := h _ (i_add (x := a2) (y := 1) rfl (show (1 : Int32).toInt = 1 by decide))
      refine n_inc [.ref 75, .int a1, .int (a2 + 1), .int (a3 + (x2 - 1)), .int a4, .null, .null] rfl rfl rfl rfl ?_
      replace h := h _ (i_add (x := a4) (y := 1) rfl (show (1 : Int32).toInt = 1 by decide))
      refine n_inc [.ref 75, .int a1, .int (a2 + 1), .int (a3 + (x2 - 1)), .int (a4 + 1), .null, .null] rfl rfl rfl rfl ?_
      refine n_go rfl ?_
      exact r6 a1 (a2 + 1) (a3 + (x2 - 1)) (a4 + 1) sa sk sf sc sz h
theorem kl_83_6_3 {d d0 : Nat} (hd : d = d0 + 4) (hc : ∀ p ∈ s_w83, CTR (yex d) p.1 p.2)  {a1 : Int32} {a2 : Int32} {a3 : Int32} {a4 : Int32} {sa : Int32} {sk : Int32} {sf : Int32} {sc : Int32} {sz : Int32} {Q : Option Value → sW → Prop}  (h : wl_83_6 (fun k => Tt d wgL (wk_83 3 k) (wk_83 3 k)) 3  a1 a2 a3 a4 sa sk sf sc sz Q) : Rn d wgL (((84, 5), 3, [(75, 0, 3), (75, 1, 21), (75, 2, 25)]) : wW) (((84, 5), 3, [(75, 0, 3), (75, 1, 21), (75, 2, 25)]) : wW) xL_7 5 (some .int) xE_83 (xE_83.drop 6) [.ref 75, .int a1, .int a2, .int a3, .int a4, .null, .null] [] (sa, sk, sf, sc, sz) Q := by
  obtain ⟨I, μ, h0, h1⟩ := h
  have key : ∀ (n : Nat) (a1 : Int32) (a2 : Int32) (a3 : Int32) (a4 : Int32) (sa : Int32) (sk : Int32) (sf : Int32) (sc : Int32) (sz : Int32), μ a1 a2 a3 a4 sa sk sf sc sz = n → I a1 a2 a3 a4 sa sk sf sc sz → Rn d wgL (((84, 5), 3, [(75, 0, 3), (75, 1, 21), (75, 2, 25)]) : wW) (((84, 5), 3, [(75, 0, 3), (75, 1, 21), (75, 2, 25)]) : wW) xL_7 5 (some .int) xE_83 (xE_83.drop 6) [.ref 75, .int a1, .int a2, .int a3, .int a4, .null, .null] [] (sa, sk, sf, sc, sz) Q := by
    intro n
    induction n using Nat.strongRecOn with
    | ind n ih =>
      intro a1 a2 a3 a4 sa sk sf sc sz e hI
      exact k_83_6_3 hd hc (fun a1' a2' a3' a4' sa' sk' sf' sc' sz' q => ih _ (by rw [← e]; exact q.2) a1' a2' a3' a4' sa' sk' sf' sc' sz' rfl q.1) (h1 a1 a2 a3 a4 sa sk sf sc sz hI)
  exact key _ a1 a2 a3 a4 sa sk sf sc sz rfl h0
set_option maxRecDepth 20000 in
theorem k_83_0_3 {d d0 : Nat} (hd : d = d0 + 4) (hc : ∀ p ∈ s_w83, CTR (yex d) p.1 p.2)  {a1 : Int32} {sa : Int32} {sk : Int32} {sf : Int32} {sc : Int32} {sz : Int32} {Q : Option Value → sW → Prop}  (h : w_83_0 (fun k => Tt d wgL (wk_83 3 k) (wk_83 3 k)) 3  a1 sa sk sf sc sz Q) : Rn d wgL (((84, 5), 3, [(75, 0, 3), (75, 1, 21), (75, 2, 25)]) : wW) (((84, 5), 3, [(75, 0, 3), (75, 1, 21), (75, 2, 25)]) : wW) xL_7 5 (some .int) xE_83 (xE_83.drop 0) [.ref 75, .int a1, .null, .null, .null, .null, .null] [] (sa, sk, sf, sc, sz) Q := by
  unfold w_83_0 at h
  refine n_ld rfl rfl rfl ?_
  refine n_st [.ref 75, .int a1, .int a1, .null, .null, .null, .null] rfl rfl rfl ?_
  refine n_c [.int 1] (xo_push (.int 1)) rfl rfl ?_
  refine n_st [.ref 75, .int a1, .int a1, .int 1, .null, .null, .null] rfl rfl rfl ?_
  refine n_c [.int 0] (xo_push (.int 0)) rfl rfl ?_
  refine n_st [.ref 75, .int a1, .int a1, .int 1, .int 0, .null, .null] rfl rfl rfl ?_
  exact kl_83_6_3 hd hc  h
theorem t_83_3 {d : Nat} (hc : ∀ p ∈ s_w83, CTR (yex (d + 4)) p.1 p.2) {a1 : Int32} {sa : Int32} {sk : Int32} {sf : Int32} {sc : Int32} {sz : Int32} {Q : Option Value → sW → Prop} (h : w_83_0 (fun k => Tt (d + 4) wgL (wk_83 3 k) (wk_83 3 k)) 3 a1 sa sk sf sc sz Q) : Tt (d + 5) wgL (((84, 5), 3, [(75, 0, 3), (75, 1, 21), (75, 2, 25)]) : wW) (((84, 5), 3, [(75, 0, 3), (75, 1, 21), (75, 2, 25)]) : wW) 83 [.ref 75, .int a1] (sa, sk, sf, sc, sz) Q := tt_of (E := xE_83) (L := xL_7) (ml := 5) (ret := some .int) rfl rfl rfl (k_83_0_3 rfl hc h)
set_option maxRecDepth 20000 in
theorem k_83_26_39 {d d0 : Nat} (hd : d = d0 + 4) (hc : ∀ p ∈ s_w83, CTR (yex d) p.1 p.2)  {a1 : Int32} {a2 : Int32} {a3 : Int32} {a4 : Int32} {sa : Int32} {sk : Int32} {sf : Int32} {sc : Int32} {sz : Int32} {Q : Option Value → sW → Prop}  (h : w_83_26 (fun k => Tt d wgL (wk_83 39 k) (wk_83 39 k)) 39  a1 a2 a3 a4 sa sk sf sc sz Q) : Rn d wgL (((84, 5), 39, [(75, 0, 39), (75, 1, 57), (75, 2, 61)]) : wW) (((84, 5), 39, [(75, 0, 39), (75, 1, 57), (75, 2, 61)]) : wW) xL_7 5 (some .int) xE_83 (xE_83.drop 26) [.ref 75, .int a1, .int a2, .int a3, .int a4, .null, .null] [] (sa, sk, sf, sc, sz) Q := by
  unfold w_83_26 at h
  refine n_ld rfl rfl rfl ?_
  exact n_retI rfl h
set_option maxRecDepth 20000 in
theorem k_83_6_39 {d d0 : Nat} (hd : d = d0 + 4) (hc : ∀ p ∈ s_w83, CTR (yex d) p.1 p.2) {R6 : Int32 → Int32 → Int32 → Int32 → Int32 → Int32 → Int32 → Int32 → Int32 → Prop} {a1 : Int32} {a2 : Int32} {a3 : Int32} {a4 : Int32} {sa : Int32} {sk : Int32} {sf : Int32} {sc : Int32} {sz : Int32} {Q : Option Value → sW → Prop} (r6 : ∀ a1 a2 a3 a4 sa sk sf sc sz, R6 a1 a2 a3 a4 sa sk sf sc sz → Rn d wgL (((84, 5), 39, [(75, 0, 39), (75, 1, 57), (75, 2, 61)]) : wW) (((84, 5), 39, [(75, 0, 39), (75, 1, 57), (75, 2, 61)]) : wW) xL_7 5 (some .int) xE_83 (xE_83.drop 6) [.ref 75, .int a1, .int a2, .int a3, .int a4, .null, .null] [] (sa, sk, sf, sc, sz) Q) (h : w_83_6 (fun k => Tt d wgL (wk_83 39 k) (wk_83 39 k)) 39 R6 a1 a2 a3 a4 sa sk sf sc sz Q) : Rn d wgL (((84, 5), 39, [(75, 0, 39), (75, 1, 57), (75, 2, 61)]) : wW) (((84, 5), 39, [(75, 0, 39), (75, 1, 57), (75, 2, 61)]) : wW) xL_7 5 (some .int) xE_83 (xE_83.drop 6) [.ref 75, .int a1, .int a2, .int a3, .int a4, .null, .null] [] (sa, sk, sf, sc, sz) Q := by
  unfold w_83_6 at h
  refine n_ld rfl rfl rfl ?_
  refine n_c [.int 4000, .int a4] (xo_push (.int 4000)) rfl rfl ?_
  refine n_brP rfl rfl ⟨fun hcn => ?_, fun hcn => ?_⟩
  · replace h := h.1 ((i_le (x := 4000) (y := a4) (show (4000 : Int32).toInt = 4000 by decide) rfl).mp hcn)
    exact k_83_26_39 hd hc  h
  · replace h := h.2 (fun q => hcn ((i_le (x := 4000) (y := a4) (show (4000 : Int32).toInt = 4000 by decide) rfl).mpr q))
    refine n_ld rfl rfl rfl ?_
    refine n_brP rfl rfl ⟨fun hcn => ?_, fun hcn => ?_⟩
    · replace h := h.1 ((i_le (x := a3) (y := 0) rfl (show (0 : Int32).toInt = 0 by decide)).mp hcn)
      exact k_83_26_39 hd hc  h
    · replace h := h.2 (fun q => hcn ((i_le (x := a3) (y := 0) rfl (show (0 : Int32).toInt = 0 by decide)).mpr q))
      refine n_ld rfl rfl rfl ?_
      refine n_ld rfl rfl rfl ?_
      refine n_get (v := .ref 61) rfl (hv_C (a := 75) (n := 2) rfl rfl rfl) ?_
      refine n_ld rfl rfl rfl ?_
      refine n_get (v := .ref 57) rfl (hv_C (a := 75) (n := 1) rfl rfl rfl) ?_
      refine n_ld rfl rfl rfl ?_
      refine n_row a2 [.ref 61, .int a3] (a := 57) hd rfl rfl rfl rfl (fun x1 g1 g2 g3 => ?_)
      replace h := h x1 
      refine n_row x1 [.int a3] (a := 61) hd rfl rfl rfl rfl (fun x2 g1 g2 g3 => ?_)
      replace h := h x2 g1
      refine n_c [.int 1, .int x2, .int a3] (xo_push (.int 1)) rfl rfl ?_
      replace h := h _ (i_sub (x := x2) (y := 1) rfl (show (1 : Int32).toInt = 1 by decide))
      refine n_c [.int (x2 - 1), .int a3] xo_isub rfl rfl ?_
      replace h := h _ (i_add (x := a3) (y := (x2 - 1)) rfl rfl)
      refine n_c [.int (a3 + (x2 - 1))] xo_iadd rfl rfl ?_
      refine n_st [.ref 75, .int a1, .int a2, .int (a3 + (x2 - 1)), .int a4, .null, .null] rfl rfl rfl ?_
      replace h := h _ (i_add (x := a2) (y := 1) rfl (show (1 : Int32).toInt = 1 by decide))
      refine n_inc [.ref 75, .int a1, .int (a2 + 1), .int (a3 + (x2 - 1)), .int a4, .null, .null] rfl rfl rfl rfl ?_
      replace h := h _ (i_add (x := a4) (y := 1) rfl (show (1 : Int32).toInt = 1 by decide))
      refine n_inc [.ref 75, .int a1, .int (a2 + 1), .int (a3 + (x2 - 1)), .int (a4 + 1), .null, .null] rfl rfl rfl rfl ?_
      refine n_go rfl ?_
      exact r6 a1 (a2 + 1) (a3 + (x2 - 1)) (a4 + 1) sa sk sf sc sz h
theorem kl_83_6_39 {d d0 : Nat} (hd : d = d0 + 4) (hc : ∀ p ∈ s_w83, CTR (yex d) p.1 p.2)  {a1 : Int32} {a2 : Int32} {a3 : Int32} {a4 : Int32} {sa : Int32} {sk : Int32} {sf : Int32} {sc : Int32} {sz : Int32} {Q : Option Value → sW → Prop}  (h : wl_83_6 (fun k => Tt d wgL (wk_83 39 k) (wk_83 39 k)) 39  a1 a2 a3 a4 sa sk sf sc sz Q) : Rn d wgL (((84, 5), 39, [(75, 0, 39), (75, 1, 57), (75, 2, 61)]) : wW) (((84, 5), 39, [(75, 0, 39), (75, 1, 57), (75, 2, 61)]) : wW) xL_7 5 (some .int) xE_83 (xE_83.drop 6) [.ref 75, .int a1, .int a2, .int a3, .int a4, .null, .null] [] (sa, sk, sf, sc, sz) Q := by
  obtain ⟨I, μ, h0, h1⟩ := h
  have key : ∀ (n : Nat) (a1 : Int32) (a2 : Int32) (a3 : Int32) (a4 : Int32) (sa : Int32) (sk : Int32) (sf : Int32) (sc : Int32) (sz : Int32), μ a1 a2 a3 a4 sa sk sf sc sz = n → I a1 a2 a3 a4 sa sk sf sc sz → Rn d wgL (((84, 5), 39, [(75, 0, 39), (75, 1, 57), (75, 2, 61)]) : wW) (((84, 5), 39, [(75, 0, 39), (75, 1, 57), (75, 2, 61)]) : wW) xL_7 5 (some .int) xE_83 (xE_83.drop 6) [.ref 75, .int a1, .int a2, .int a3, .int a4, .null, .null] [] (sa, sk, sf, sc, sz) Q := by
    intro n
    induction n using Nat.strongRecOn with
    | ind n ih =>
      intro a1 a2 a3 a4 sa sk sf sc sz e hI
      exact k_83_6_39 hd hc (fun a1' a2' a3' a4' sa' sk' sf' sc' sz' q => ih _ (by rw [← e]; exact q.2) a1' a2' a3' a4' sa' sk' sf' sc' sz' rfl q.1) (h1 a1 a2 a3 a4 sa sk sf sc sz hI)
  exact key _ a1 a2 a3 a4 sa sk sf sc sz rfl h0
set_option maxRecDepth 20000 in
theorem k_83_0_39 {d d0 : Nat} (hd : d = d0 + 4) (hc : ∀ p ∈ s_w83, CTR (yex d) p.1 p.2)  {a1 : Int32} {sa : Int32} {sk : Int32} {sf : Int32} {sc : Int32} {sz : Int32} {Q : Option Value → sW → Prop}  (h : w_83_0 (fun k => Tt d wgL (wk_83 39 k) (wk_83 39 k)) 39  a1 sa sk sf sc sz Q) : Rn d wgL (((84, 5), 39, [(75, 0, 39), (75, 1, 57), (75, 2, 61)]) : wW) (((84, 5), 39, [(75, 0, 39), (75, 1, 57), (75, 2, 61)]) : wW) xL_7 5 (some .int) xE_83 (xE_83.drop 0) [.ref 75, .int a1, .null, .null, .null, .null, .null] [] (sa, sk, sf, sc, sz) Q := by
  unfold w_83_0 at h
  refine n_ld rfl rfl rfl ?_
  refine n_st [.ref 75, .int a1, .int a1, .null, .null, .null, .null] rfl rfl rfl ?_
  refine n_c [.int 1] (xo_push (.int 1)) rfl rfl ?_
  refine n_st [.ref 75, .int a1, .int a1, .int 1, .null, .null, .null] rfl rfl rfl ?_
  refine n_c [.int 0] (xo_push (.int 0)) rfl rfl ?_
  refine n_st [.ref 75, .int a1, .int a1, .int 1, .int 0, .null, .null] rfl rfl rfl ?_
  exact kl_83_6_39 hd hc  h
theorem t_83_39 {d : Nat} (hc : ∀ p ∈ s_w83, CTR (yex (d + 4)) p.1 p.2) {a1 : Int32} {sa : Int32} {sk : Int32} {sf : Int32} {sc : Int32} {sz : Int32} {Q : Option Value → sW → Prop} (h : w_83_0 (fun k => Tt (d + 4) wgL (wk_83 39 k) (wk_83 39 k)) 39 a1 sa sk sf sc sz Q) : Tt (d + 5) wgL (((84, 5), 39, [(75, 0, 39), (75, 1, 57), (75, 2, 61)]) : wW) (((84, 5), 39, [(75, 0, 39), (75, 1, 57), (75, 2, 61)]) : wW) 83 [.ref 75, .int a1] (sa, sk, sf, sc, sz) Q := tt_of (E := xE_83) (L := xL_7) (ml := 5) (ret := some .int) rfl rfl rfl (k_83_0_39 rfl hc h)
/-! FeatherBench$Shapes.keep -/
def wk_92 (P : Nat) : Nat → wW
  | _ => (((84, 5), P, [(75, 0, P), (75, 1, (P + 18)), (75, 2, (P + 22))]) : wW)
def s_w92 : List (Nat × cSg) := [(77, q_77)]
def w_92_17 (T : Nat → Nat → List Value → sW → (Option Value → sW → Prop) → Prop) (P : Nat) (R17 : Int32 → Int32 → Int32 → Int32 → Int32 → Int32 → Int32 → Int32 → Int32 → Prop) (a1 : Int32) (a2 : Int32) (a3 : Int32) (a4 : Int32) (sa : Int32) (sk : Int32) (sf : Int32) (sc : Int32) (sz : Int32) (Q : Option Value → sW → Prop) : Prop :=
  (a3.toInt ≤ a4.toInt → ∀ x1 : Int32, (-2147483648 ≤ a2.toInt + a3.toInt ∧ a2.toInt + a3.toInt ≤ 2147483647 → x1.toInt = a2.toInt + a3.toInt) → (0 ≤ x1.toInt ∧ x1.toInt ≤ 2000000000) ∧ (Q (some (.int a2)) (sa, x1, sf, sc, sz))) ∧ (¬ (a3.toInt ≤ a4.toInt) → ∀ x2 : Int32, (-2147483648 ≤ a2.toInt + a4.toInt ∧ a2.toInt + a4.toInt ≤ 2147483647 → x2.toInt = a2.toInt + a4.toInt) → ∀ x3 : Int32, (-2147483648 ≤ a1.toInt + a4.toInt ∧ a1.toInt + a4.toInt ≤ 2147483647 → x3.toInt = a1.toInt + a4.toInt) → ∀ x4 : Int32, ∀ x10 : Int32, (-2147483648 ≤ a4.toInt + 1 ∧ a4.toInt + 1 ≤ 2147483647 → x10.toInt = a4.toInt + 1) → R17 a1 a2 a3 x10 sa sk sf sc sz)
def wl_92_17 (T : Nat → Nat → List Value → sW → (Option Value → sW → Prop) → Prop) (P : Nat)  (a1 : Int32) (a2 : Int32) (a3 : Int32) (a4 : Int32) (sa : Int32) (sk : Int32) (sf : Int32) (sc : Int32) (sz : Int32) (Q : Option Value → sW → Prop) : Prop :=
  ∃ (I : Int32 → Int32 → Int32 → Int32 → Int32 → Int32 → Int32 → Int32 → Int32 → Prop) (μ : Int32 → Int32 → Int32 → Int32 → Int32 → Int32 → Int32 → Int32 → Int32 → Nat), I a1 a2 a3 a4 sa sk sf sc sz ∧ ∀ (a1 : Int32) (a2 : Int32) (a3 : Int32) (a4 : Int32) (sa : Int32) (sk : Int32) (sf : Int32) (sc : Int32) (sz : Int32), I a1 a2 a3 a4 sa sk sf sc sz → w_92_17 T P (fun a1' a2' a3' a4' sa' sk' sf' sc' sz' => I a1' a2' a3' a4' sa' sk' sf' sc' sz' ∧ μ a1' a2' a3' a4' sa' sk' sf' sc' sz' < μ a1 a2 a3 a4 sa sk sf sc sz) a1 a2 a3 a4 sa sk sf sc sz Q
def w_92_0 (T : Nat → Nat → List Value → sW → (Option Value → sW → Prop) → Prop) (P : Nat)  (a1 : Int32) (sa : Int32) (sk : Int32) (sf : Int32) (sc : Int32) (sz : Int32) (Q : Option Value → sW → Prop) : Prop :=
  (a1.toInt < 18738 → T 0 83 [.ref 75, .int a1] (sa, sk, sf, sc, sz) (fun v6 (sa1, sk2, sf3, sc4, sz5) => ∃ x7, v6 = some (.int x7) ∧ (∀ x8 : Int32, (-2147483648 ≤ x7.toInt - a1.toInt ∧ x7.toInt - a1.toInt ≤ 2147483647 → x8.toInt = x7.toInt - a1.toInt) → wl_92_17 T P  a1 sk x8 0 sa1 sk2 sf3 sc4 sz5 Q))) ∧ (¬ (a1.toInt < 18738) → Q (some (.int a1)) (sa, sk, sf, sc, sz))
set_option maxRecDepth 20000 in
theorem k_92_17_3 {d d0 : Nat} (hd : d = d0 + 4) (hc : ∀ p ∈ s_w92, CTR (yex d) p.1 p.2) {R17 : Int32 → Int32 → Int32 → Int32 → Int32 → Int32 → Int32 → Int32 → Int32 → Prop} {a1 : Int32} {a2 : Int32} {a3 : Int32} {a4 : Int32} {sa : Int32} {sk : Int32} {sf : Int32} {sc : Int32} {sz : Int32} {Q : Option Value → sW → Prop} (r17 : ∀ a1 a2 a3 a4 sa sk sf sc sz, R17 a1 a2 a3 a4 sa sk sf sc sz → Rn d wgL (((84, 5), 3, [(75, 0, 3), (75, 1, 21), (75, 2, 25)]) : wW) (((84, 5), 3, [(75, 0, 3), (75, 1, 21), (75, 2, 25)]) : wW) xL_7 5 (some .int) xE_92 (xE_92.drop 17) [.ref 75, .int a1, .int a2, .int a3, .int a4, .null, .null] [] (sa, sk, sf, sc, sz) Q) (h : w_92_17 (fun k => Tt d wgL (wk_92 3 k) (wk_92 3 k)) 3 R17 a1 a2 a3 a4 sa sk sf sc sz Q) : Rn d wgL (((84, 5), 3, [(75, 0, 3), (75, 1, 21), (75, 2, 25)]) : wW) (((84, 5), 3, [(75, 0, 3), (75, 1, 21), (75, 2, 25)]) : wW) xL_7 5 (some .int) xE_92 (xE_92.drop 17) [.ref 75, .int a1, .int a2, .int a3, .int a4, .null, .null] [] (sa, sk, sf, sc, sz) Q := by
  unfold w_92_17 at h
  refine n_ld rfl rfl rfl ?_
  refine n_ld rfl rfl rfl ?_
  refine n_brP rfl rfl ⟨fun hcn => ?_, fun hcn => ?_⟩
  · replace h := h.1 ((i_le (x := a3) (y := a4) rfl rfl).mp hcn)
    refine n_ld rfl rfl rfl ?_
    refine n_get (v := .ref 3) rfl (hv_C (a := 75) (n := 0) rfl rfl rfl) ?_
    refine n_ld rfl rfl rfl ?_
    refine n_ld rfl rfl rfl ?_
    replace h := h _ (i_add (x := a2) (y := a3) rfl rfl)
    refine n_c [.int (a2 + a3), .ref 3] xo_iadd rfl rfl ?_
    refine n_put (a := 3) (w1 := (((84, 5), 3, [(75, 0, 3), (75, 1, 21), (75, 2, 25)]) : wW)) (s1 := (sa, (a2 + a3), sf, sc, sz)) rfl rfl rfl rfl ⟨_, rfl, h.1.1, h.1.2⟩ rfl rfl rfl (Or.inr (Or.inl (by decide +kernel))) (ws_kp (w := (((84, 5), 3, [(75, 0, 3), (75, 1, 21), (75, 2, 25)]) : wW)) (s := (sa, sk, sf, sc, sz)) rfl) ?_
    replace h := h.2
    refine n_ld rfl rfl rfl ?_
    exact n_retI rfl h
  · replace h := h.2 (fun q => hcn ((i_le (x := a3) (y := a4) rfl rfl).mpr q))
    refine n_ld rfl rfl rfl ?_
    refine n_get (v := .ref 21) rfl (hv_C (a := 75) (n := 1) rfl rfl rfl) ?_
    refine n_ld rfl rfl rfl ?_
    refine n_ld rfl rfl rfl ?_
    replace h := h _ (i_add (x := a2) (y := a4) rfl rfl)
    refine n_c [.int (a2 + a4), .ref 21] xo_iadd rfl rfl ?_
    refine n_ld rfl rfl rfl ?_
    refine n_get (v := .ref 21) rfl (hv_C (a := 75) (n := 1) rfl rfl rfl) ?_
    refine n_ld rfl rfl rfl ?_
    refine n_ld rfl rfl rfl ?_
    replace h := h _ (i_add (x := a1) (y := a4) rfl rfl)
    refine n_c [.int (a1 + a4), .ref 21, .int (a2 + a4), .ref 21] xo_iadd rfl rfl ?_
    refine n_row (a1 + a4) [.int (a2 + a4), .ref 21] (a := 21) hd rfl rfl rfl rfl (fun x4 g1 g2 g3 => ?_)
    replace h := h x4 
    refine n_ctr [.ref 21, .int (a2 + a4), .int x4] [] rfl rfl rfl (hc (77, q_77) (List.mem_of_getElem? (i := 0) rfl)) ⟨⟨_, rfl, cmem_ok rfl⟩, vK_int _, vK_int _, trivial⟩ rfl rfl (fun vq sq hv hk => ?_)
    obtain ⟨sa5, sk6, sf7, sc8, sz9⟩ := sq
    obtain ⟨k1, k2, k3, k4, k5, k6, k7⟩ := hk
    obtain rfl : sa = sa5 := (k1 (wmem_no rfl)).symm
    obtain rfl : sk = sk6 := (k2).symm
    obtain rfl : sf = sf7 := (k3 (wmem_no rfl)).symm
    obtain rfl : sc = sc8 := (k5 (wmem_no rfl)).symm
    obtain rfl : sz = sz9 := (k6 (wmem_no rfl)).symm
    cases (show vq = none from hv)
    change Rn _ _ _ _ _ _ _ _ _ _ [] _ _
    replace h := h _ (i_add (x := a4) (y := 1) rfl (show (1 : Int32).toInt = 1 by decide))
    refine n_inc [.ref 75, .int a1, .int a2, .int a3, .int (a4 + 1), .null, .null] rfl rfl rfl rfl ?_
    refine n_go rfl ?_
    exact r17 a1 a2 a3 (a4 + 1) sa sk sf sc sz h
theorem kl_92_17_3 {d d0 : Nat} (hd : d = d0 + 4) (hc : ∀ p ∈ s_w92, CTR (yex d) p.1 p.2)  {a1 : Int32} {a2 : Int32} {a3 : Int32} {a4 : Int32} {sa : Int32} {sk : Int32} {sf : Int32} {sc : Int32} {sz : Int32} {Q : Option Value → sW → Prop}  (h : wl_92_17 (fun k => Tt d wgL (wk_92 3 k) (wk_92 3 k)) 3  a1 a2 a3 a4 sa sk sf sc sz Q) : Rn d wgL (((84, 5), 3, [(75, 0, 3), (75, 1, 21), (75, 2, 25)]) : wW) (((84, 5), 3, [(75, 0, 3), (75, 1, 21), (75, 2, 25)]) : wW) xL_7 5 (some .int) xE_92 (xE_92.drop 17) [.ref 75, .int a1, .int a2, .int a3, .int a4, .null, .null] [] (sa, sk, sf, sc, sz) Q := by
  obtain ⟨I, μ, h0, h1⟩ := h
  have key : ∀ (n : Nat) (a1 : Int32) (a2 : Int32) (a3 : Int32) (a4 : Int32) (sa : Int32) (sk : Int32) (sf : Int32) (sc : Int32) (sz : Int32), μ a1 a2 a3 a4 sa sk sf sc sz = n → I a1 a2 a3 a4 sa sk sf sc sz → Rn d wgL (((84, 5), 3, [(75, 0, 3), (75, 1, 21), (75, 2, 25)]) : wW) (((84, 5), 3, [(75, 0, 3), (75, 1, 21), (75, 2, 25)]) : wW) xL_7 5 (some .int) xE_92 (xE_92.drop 17) [.ref 75, .int a1, .int a2, .int a3, .int a4, .null, .null] [] (sa, sk, sf, sc, sz) Q := by
    intro n
    induction n using Nat.strongRecOn with
    | ind n ih =>
      intro a1 a2 a3 a4 sa sk sf sc sz e hI
      exact k_92_17_3 hd hc (fun a1' a2' a3' a4' sa' sk' sf' sc' sz' q => ih _ (by rw [← e]; exact q.2) a1' a2' a3' a4' sa' sk' sf' sc' sz' rfl q.1) (h1 a1 a2 a3 a4 sa sk sf sc sz hI)
  exact key _ a1 a2 a3 a4 sa sk sf sc sz rfl h0
set_option maxRecDepth 20000 in
theorem k_92_0_3 {d d0 : Nat} (hd : d = d0 + 4) (hc : ∀ p ∈ s_w92, CTR (yex d) p.1 p.2)  {a1 : Int32} {sa : Int32} {sk : Int32} {sf : Int32} {sc : Int32} {sz : Int32} {Q : Option Value → sW → Prop}  (h : w_92_0 (fun k => Tt d wgL (wk_92 3 k) (wk_92 3 k)) 3  a1 sa sk sf sc sz Q) : Rn d wgL (((84, 5), 3, [(75, 0, 3), (75, 1, 21), (75, 2, 25)]) : wW) (((84, 5), 3, [(75, 0, 3), (75, 1, 21), (75, 2, 25)]) : wW) xL_7 5 (some .int) xE_92 (xE_92.drop 0) [.ref 75, .int a1, .null, .null, .null, .null, .null] [] (sa, sk, sf, sc, sz) Q := by
  unfold w_92_0 at h
  refine n_ld rfl rfl rfl ?_
  refine n_c [.int 18738, .int a1] (xo_push (.int 18738)) rfl rfl ?_
  refine n_brP rfl rfl ⟨fun hcn => ?_, fun hcn => ?_⟩
  · replace h := h.1 ((i_lt (x := a1) (y := 18738) rfl (show (18738 : Int32).toInt = 18738 by decide)).mp hcn)
    refine n_ld rfl rfl rfl ?_
    refine n_get (v := .ref 3) rfl (hv_C (a := 75) (n := 0) rfl rfl rfl) ?_
    refine n_get (v := .int sk) rfl (hv_f (a := 3) rfl rfl (fun _ _ hw => hw.1.2.1)) ?_
    refine n_st [.ref 75, .int a1, .int sk, .null, .null, .null, .null] rfl rfl rfl ?_
    refine n_ld rfl rfl rfl ?_
    refine n_ld rfl rfl rfl ?_
    refine n_tt [.ref 75, .int a1] [] rfl rfl rfl rfl (Tt.imp h (fun v6 sq h => ?_))
    obtain ⟨sa1, sk2, sf3, sc4, sz5⟩ := sq
    obtain ⟨x7, rfl, h⟩ := h
    change Rn _ _ _ _ _ _ _ _ _ _ [.int x7] _ _
    refine n_ld rfl rfl rfl ?_
    replace h := h _ (i_sub (x := x7) (y := a1) rfl rfl)
    refine n_c [.int (x7 - a1)] xo_isub rfl rfl ?_
    refine n_st [.ref 75, .int a1, .int sk, .int (x7 - a1), .null, .null, .null] rfl rfl rfl ?_
    refine n_c [.int 0] (xo_push (.int 0)) rfl rfl ?_
    refine n_st [.ref 75, .int a1, .int sk, .int (x7 - a1), .int 0, .null, .null] rfl rfl rfl ?_
    exact kl_92_17_3 hd hc  h
  · replace h := h.2 (fun q => hcn ((i_lt (x := a1) (y := 18738) rfl (show (18738 : Int32).toInt = 18738 by decide)).mpr q))
    refine n_ld rfl rfl rfl ?_
    exact n_retI rfl h
theorem t_92_3 {d : Nat} (hc : ∀ p ∈ s_w92, CTR (yex (d + 4)) p.1 p.2) {a1 : Int32} {sa : Int32} {sk : Int32} {sf : Int32} {sc : Int32} {sz : Int32} {Q : Option Value → sW → Prop} (h : w_92_0 (fun k => Tt (d + 4) wgL (wk_92 3 k) (wk_92 3 k)) 3 a1 sa sk sf sc sz Q) : Tt (d + 5) wgL (((84, 5), 3, [(75, 0, 3), (75, 1, 21), (75, 2, 25)]) : wW) (((84, 5), 3, [(75, 0, 3), (75, 1, 21), (75, 2, 25)]) : wW) 92 [.ref 75, .int a1] (sa, sk, sf, sc, sz) Q := tt_of (E := xE_92) (L := xL_7) (ml := 5) (ret := some .int) rfl rfl rfl (k_92_0_3 rfl hc h)
set_option maxRecDepth 20000 in
theorem k_92_17_39 {d d0 : Nat} (hd : d = d0 + 4) (hc : ∀ p ∈ s_w92, CTR (yex d) p.1 p.2) {R17 : Int32 → Int32 → Int32 → Int32 → Int32 → Int32 → Int32 → Int32 → Int32 → Prop} {a1 : Int32} {a2 : Int32} {a3 : Int32} {a4 : Int32} {sa : Int32} {sk : Int32} {sf : Int32} {sc : Int32} {sz : Int32} {Q : Option Value → sW → Prop} (r17 : ∀ a1 a2 a3 a4 sa sk sf sc sz, R17 a1 a2 a3 a4 sa sk sf sc sz → Rn d wgL (((84, 5), 39, [(75, 0, 39), (75, 1, 57), (75, 2, 61)]) : wW) (((84, 5), 39, [(75, 0, 39), (75, 1, 57), (75, 2, 61)]) : wW) xL_7 5 (some .int) xE_92 (xE_92.drop 17) [.ref 75, .int a1, .int a2, .int a3, .int a4, .null, .null] [] (sa, sk, sf, sc, sz) Q) (h : w_92_17 (fun k => Tt d wgL (wk_92 39 k) (wk_92 39 k)) 39 R17 a1 a2 a3 a4 sa sk sf sc sz Q) : Rn d wgL (((84, 5), 39, [(75, 0, 39), (75, 1, 57), (75, 2, 61)]) : wW) (((84, 5), 39, [(75, 0, 39), (75, 1, 57), (75, 2, 61)]) : wW) xL_7 5 (some .int) xE_92 (xE_92.drop 17) [.ref 75, .int a1, .int a2, .int a3, .int a4, .null, .null] [] (sa, sk, sf, sc, sz) Q := by
  unfold w_92_17 at h
  refine n_ld rfl rfl rfl ?_
  refine n_ld rfl rfl rfl ?_
  refine n_brP rfl rfl ⟨fun hcn => ?_, fun hcn => ?_⟩
  · replace h := h.1 ((i_le (x := a3) (y := a4) rfl rfl).mp hcn)
    refine n_ld rfl rfl rfl ?_
    refine n_get (v := .ref 39) rfl (hv_C (a := 75) (n := 0) rfl rfl rfl) ?_
    refine n_ld rfl rfl rfl ?_
    refine n_ld rfl rfl rfl ?_
    replace h := h _ (i_add (x := a2) (y := a3) rfl rfl)
    refine n_c [.int (a2 + a3), .ref 39] xo_iadd rfl rfl ?_
    refine n_put (a := 39) (w1 := (((84, 5), 39, [(75, 0, 39), (75, 1, 57), (75, 2, 61)]) : wW)) (s1 := (sa, (a2 + a3), sf, sc, sz)) rfl rfl rfl rfl ⟨_, rfl, h.1.1, h.1.2⟩ rfl rfl rfl (Or.inr (Or.inl (by decide +kernel))) (ws_kp (w := (((84, 5), 39, [(75, 0, 39), (75, 1, 57), (75, 2, 61)]) : wW)) (s := (sa, sk, sf, sc, sz)) rfl) ?_
    replace h := h.2
    refine n_ld rfl rfl rfl ?_
    exact n_retI rfl h
  · replace h := h.2 (fun q => hcn ((i_le (x := a3) (y := a4) rfl rfl).mpr q))
    refine n_ld rfl rfl rfl ?_
    refine n_get (v := .ref 57) rfl (hv_C (a := 75) (n := 1) rfl rfl rfl) ?_
    refine n_ld rfl rfl rfl ?_
    refine n_ld rfl rfl rfl ?_
    replace h := h _ (i_add (x := a2) (y := a4) rfl rfl)
    refine n_c [.int (a2 + a4), .ref 57] xo_iadd rfl rfl ?_
    refine n_ld rfl rfl rfl ?_
    refine n_get (v := .ref 57) rfl (hv_C (a := 75) (n := 1) rfl rfl rfl) ?_
    refine n_ld rfl rfl rfl ?_
    refine n_ld rfl rfl rfl ?_
    replace h := h _ (i_add (x := a1) (y := a4) rfl rfl)
    refine n_c [.int (a1 + a4), .ref 57, .int (a2 + a4), .ref 57] xo_iadd rfl rfl ?_
    refine n_row (a1 + a4) [.int (a2 + a4), .ref 57] (a := 57) hd rfl rfl rfl rfl (fun x4 g1 g2 g3 => ?_)
    replace h := h x4 
    refine n_ctr [.ref 57, .int (a2 + a4), .int x4] [] rfl rfl rfl (hc (77, q_77) (List.mem_of_getElem? (i := 0) rfl)) ⟨⟨_, rfl, cmem_ok rfl⟩, vK_int _, vK_int _, trivial⟩ rfl rfl (fun vq sq hv hk => ?_)
    obtain ⟨sa5, sk6, sf7, sc8, sz9⟩ := sq
    obtain ⟨k1, k2, k3, k4, k5, k6, k7⟩ := hk
    obtain rfl : sa = sa5 := (k1 (wmem_no rfl)).symm
    obtain rfl : sk = sk6 := (k2).symm
    obtain rfl : sf = sf7 := (k3 (wmem_no rfl)).symm
    obtain rfl : sc = sc8 := (k5 (wmem_no rfl)).symm
    obtain rfl : sz = sz9 := (k6 (wmem_no rfl)).symm
    cases (show vq = none from hv)
    change Rn _ _ _ _ _ _ _ _ _ _ [] _ _
    replace h := h _ (i_add (x := a4) (y := 1) rfl (show (1 : Int32).toInt = 1 by decide))
    refine n_inc [.ref 75, .int a1, .int a2, .int a3, .int (a4 + 1), .null, .null] rfl rfl rfl rfl ?_
    refine n_go rfl ?_
    exact r17 a1 a2 a3 (a4 + 1) sa sk sf sc sz h
theorem kl_92_17_39 {d d0 : Nat} (hd : d = d0 + 4) (hc : ∀ p ∈ s_w92, CTR (yex d) p.1 p.2)  {a1 : Int32} {a2 : Int32} {a3 : Int32} {a4 : Int32} {sa : Int32} {sk : Int32} {sf : Int32} {sc : Int32} {sz : Int32} {Q : Option Value → sW → Prop}  (h : wl_92_17 (fun k => Tt d wgL (wk_92 39 k) (wk_92 39 k)) 39  a1 a2 a3 a4 sa sk sf sc sz Q) : Rn d wgL (((84, 5), 39, [(75, 0, 39), (75, 1, 57), (75, 2, 61)]) : wW) (((84, 5), 39, [(75, 0, 39), (75, 1, 57), (75, 2, 61)]) : wW) xL_7 5 (some .int) xE_92 (xE_92.drop 17) [.ref 75, .int a1, .int a2, .int a3, .int a4, .null, .null] [] (sa, sk, sf, sc, sz) Q := by
  obtain ⟨I, μ, h0, h1⟩ := h
  have key : ∀ (n : Nat) (a1 : Int32) (a2 : Int32) (a3 : Int32) (a4 : Int32) (sa : Int32) (sk : Int32) (sf : Int32) (sc : Int32) (sz : Int32), μ a1 a2 a3 a4 sa sk sf sc sz = n → I a1 a2 a3 a4 sa sk sf sc sz → Rn d wgL (((84, 5), 39, [(75, 0, 39), (75, 1, 57), (75, 2, 61)]) : wW) (((84, 5), 39, [(75, 0, 39), (75, 1, 57), (75, 2, 61)]) : wW) xL_7 5 (some .int) xE_92 (xE_92.drop 17) [.ref 75, .int a1, .int a2, .int a3, .int a4, .null, .null] [] (sa, sk, sf, sc, sz) Q := by
    intro n
    induction n using Nat.strongRecOn with
    | ind n ih =>
      intro a1 a2 a3 a4 sa sk sf sc sz e hI
      exact k_92_17_39 hd hc (fun a1' a2' a3' a4' sa' sk' sf' sc' sz' q => ih _ (by rw [← e]; exact q.2) a1' a2' a3' a4' sa' sk' sf' sc' sz' rfl q.1) (h1 a1 a2 a3 a4 sa sk sf sc sz hI)
  exact key _ a1 a2 a3 a4 sa sk sf sc sz rfl h0
set_option maxRecDepth 20000 in
theorem k_92_0_39 {d d0 : Nat} (hd : d = d0 + 4) (hc : ∀ p ∈ s_w92, CTR (yex d) p.1 p.2)  {a1 : Int32} {sa : Int32} {sk : Int32} {sf : Int32} {sc : Int32} {sz : Int32} {Q : Option Value → sW → Prop}  (h : w_92_0 (fun k => Tt d wgL (wk_92 39 k) (wk_92 39 k)) 39  a1 sa sk sf sc sz Q) : Rn d wgL (((84, 5), 39, [(75, 0, 39), (75, 1, 57), (75, 2, 61)]) : wW) (((84, 5), 39, [(75, 0, 39), (75, 1, 57), (75, 2, 61)]) : wW) xL_7 5 (some .int) xE_92 (xE_92.drop 0) [.ref 75, .int a1, .null, .null, .null, .null, .null] [] (sa, sk, sf, sc, sz) Q := by
  unfold w_92_0 at h
  refine n_ld rfl rfl rfl ?_
  refine n_c [.int 18738, .int a1] (xo_push (.int 18738)) rfl rfl ?_
  refine n_brP rfl rfl ⟨fun hcn => ?_, fun hcn => ?_⟩
  · replace h := h.1 ((i_lt (x := a1) (y := 18738) rfl (show (18738 : Int32).toInt = 18738 by decide)).mp hcn)
    refine n_ld rfl rfl rfl ?_
    refine n_get (v := .ref 39) rfl (hv_C (a := 75) (n := 0) rfl rfl rfl) ?_
    refine n_get (v := .int sk) rfl (hv_f (a := 39) rfl rfl (fun _ _ hw => hw.1.2.1)) ?_
    refine n_st [.ref 75, .int a1, .int sk, .null, .null, .null, .null] rfl rfl rfl ?_
    refine n_ld rfl rfl rfl ?_
    refine n_ld rfl rfl rfl ?_
    refine n_tt [.ref 75, .int a1] [] rfl rfl rfl rfl (Tt.imp h (fun v6 sq h => ?_))
    obtain ⟨sa1, sk2, sf3, sc4, sz5⟩ := sq
    obtain ⟨x7, rfl, h⟩ := h
    change Rn _ _ _ _ _ _ _ _ _ _ [.int x7] _ _
    refine n_ld rfl rfl rfl ?_
    replace h := h _ (i_sub (x := x7) (y := a1) rfl rfl)
    refine n_c [.int (x7 - a1)] xo_isub rfl rfl ?_
    refine n_st [.ref 75, .int a1, .int sk, .int (x7 - a1), .null, .null, .null] rfl rfl rfl ?_
    refine n_c [.int 0] (xo_push (.int 0)) rfl rfl ?_
    refine n_st [.ref 75, .int a1, .int sk, .int (x7 - a1), .int 0, .null, .null] rfl rfl rfl ?_
    exact kl_92_17_39 hd hc  h
  · replace h := h.2 (fun q => hcn ((i_lt (x := a1) (y := 18738) rfl (show (18738 : Int32).toInt = 18738 by decide)).mpr q))
    refine n_ld rfl rfl rfl ?_
    exact n_retI rfl h
theorem t_92_39 {d : Nat} (hc : ∀ p ∈ s_w92, CTR (yex (d + 4)) p.1 p.2) {a1 : Int32} {sa : Int32} {sk : Int32} {sf : Int32} {sc : Int32} {sz : Int32} {Q : Option Value → sW → Prop} (h : w_92_0 (fun k => Tt (d + 4) wgL (wk_92 39 k) (wk_92 39 k)) 39 a1 sa sk sf sc sz Q) : Tt (d + 5) wgL (((84, 5), 39, [(75, 0, 39), (75, 1, 57), (75, 2, 61)]) : wW) (((84, 5), 39, [(75, 0, 39), (75, 1, 57), (75, 2, 61)]) : wW) 92 [.ref 75, .int a1] (sa, sk, sf, sc, sz) Q := tt_of (E := xE_92) (L := xL_7) (ml := 5) (ret := some .int) rfl rfl rfl (k_92_0_39 rfl hc h)
/-! FeatherBench$Told.tell -/
def wk_132 (P : Nat) : Nat → wW
  | _ => (((84, 5), P, [(83, 1, P), (83, 2, (P + 1)), (75, 0, P), (75, 1, (P + 18)), (75, 2, (P + 22))]) : wW)
def s_w132 : List (Nat × cSg) := [(77, q_77), (133, q_133)]
def wk_132a (P : Nat) : Nat → wW
  | _ => (((84, 5), P, [(83, 1, P), (83, 2, 86), (75, 0, P), (75, 1, (P + 18)), (75, 2, (P + 22))]) : wW)
def w_132_119 (T : Nat → Nat → List Value → sW → (Option Value → sW → Prop) → Prop) (P : Nat)  (a1 : Int32) (a2 : Int32) (a3 : Int32) (a4 : Int32) (a5 : Int32) (a6 : Int32) (a7 : Int32) (a8 : Int32) (t0 : Int32) (sa : Int32) (sk : Int32) (sf : Int32) (sc : Int32) (sz : Int32) (Q : Option Value → sW → Prop) : Prop :=
  Q (some (.int t0)) (sa, sk, sf, sc, sz)
def w_132_112 (T : Nat → Nat → List Value → sW → (Option Value → sW → Prop) → Prop) (P : Nat)  (a1 : Int32) (a2 : Int32) (a3 : Int32) (a4 : Int32) (a5 : Int32) (a6 : Int32) (a7 : Int32) (a8 : Int32) (sa : Int32) (sk : Int32) (sf : Int32) (sc : Int32) (sz : Int32) (Q : Option Value → sW → Prop) : Prop :=
  (a4.toInt = 0 → w_132_119 T P  a1 a2 a3 a4 a5 a6 a7 a8 a7 sa sk sf sc sz Q) ∧ (¬ (a4.toInt = 0) → ∀ x1 : Int32, (-2147483648 ≤ a7.toInt + 1 ∧ a7.toInt + 1 ≤ 2147483647 → x1.toInt = a7.toInt + 1) → w_132_119 T P  a1 a2 a3 a4 a5 a6 a7 a8 x1 sa sk sf sc sz Q)
def w_132_100 (T : Nat → Nat → List Value → sW → (Option Value → sW → Prop) → Prop) (P : Nat)  (a1 : Int32) (a2 : Int32) (a3 : Int32) (a4 : Int32) (a5 : Int32) (a6 : Int32) (a7 : Int32) (a8 : Int32) (sa : Int32) (sk : Int32) (sf : Int32) (sc : Int32) (sz : Int32) (Q : Option Value → sW → Prop) : Prop :=
  ∀ x1 : Int32, (-2147483648 ≤ sk.toInt - a6.toInt ∧ sk.toInt - a6.toInt ≤ 2147483647 → x1.toInt = sk.toInt - a6.toInt) → (x1.toInt ≤ 60 → w_132_112 T P  a1 a2 a3 a4 a5 a6 a7 a8 sa sk sf sc sz Q) ∧ (¬ (x1.toInt ≤ 60) → T 0 38 [.ref P, .int 9, .int a1] (sa, sk, sf, sc, sz) (fun v7 (sa2, sk3, sf4, sc5, sz6) => v7 = none ∧ (w_132_112 T P  a1 a2 a3 a4 a5 a6 a7 a8 sa2 sk3 sf4 sc5 sz6 Q)))
def w_132_79 (T : Nat → Nat → List Value → sW → (Option Value → sW → Prop) → Prop) (P : Nat) (R79 : Int32 → Int32 → Int32 → Int32 → Int32 → Int32 → Int32 → Int32 → Int32 → Int32 → Int32 → Int32 → Int32 → Prop) (a1 : Int32) (a2 : Int32) (a3 : Int32) (a4 : Int32) (a5 : Int32) (a6 : Int32) (a7 : Int32) (a8 : Int32) (sa : Int32) (sk : Int32) (sf : Int32) (sc : Int32) (sz : Int32) (Q : Option Value → sW → Prop) : Prop :=
  (a5.toInt ≤ a8.toInt → w_132_100 T P  a1 a2 a3 a4 a5 a6 a7 a8 sa sk sf sc sz Q) ∧ (¬ (a5.toInt ≤ a8.toInt) → (¬ (sf.toInt = 0) → w_132_100 T P  a1 a2 a3 a4 a5 a6 a7 a8 sa sk sf sc sz Q) ∧ (sf.toInt = 0 → (10 < a2.toInt → w_132_100 T P  a1 a2 a3 a4 a5 a6 a7 a8 sa sk sf sc sz Q) ∧ (¬ (10 < a2.toInt) → ∀ x1 : Int32, (-2147483648 ≤ a7.toInt + 1 ∧ a7.toInt + 1 ≤ 2147483647 → x1.toInt = a7.toInt + 1) → ∀ x2 : Int32, (-2147483648 ≤ a2.toInt + 1 ∧ a2.toInt + 1 ≤ 2147483647 → x2.toInt = a2.toInt + 1) → T 0 132 [.ref 83, .int x1, .int x2] (sa, sk, sf, sc, sz) (fun v8 (sa3, sk4, sf5, sc6, sz7) => ∃ x9, v8 = some (.int x9) ∧ (∀ x10 : Int32, (-2147483648 ≤ a8.toInt + 1 ∧ a8.toInt + 1 ≤ 2147483647 → x10.toInt = a8.toInt + 1) → R79 a1 a2 a3 a4 a5 a6 x9 x10 sa3 sk4 sf5 sc6 sz7)))))
def wl_132_79 (T : Nat → Nat → List Value → sW → (Option Value → sW → Prop) → Prop) (P : Nat)  (a1 : Int32) (a2 : Int32) (a3 : Int32) (a4 : Int32) (a5 : Int32) (a6 : Int32) (a7 : Int32) (a8 : Int32) (sa : Int32) (sk : Int32) (sf : Int32) (sc : Int32) (sz : Int32) (Q : Option Value → sW → Prop) : Prop :=
  ∃ (I : Int32 → Int32 → Int32 → Int32 → Int32 → Int32 → Int32 → Int32 → Int32 → Int32 → Int32 → Int32 → Int32 → Prop) (μ : Int32 → Int32 → Int32 → Int32 → Int32 → Int32 → Int32 → Int32 → Int32 → Int32 → Int32 → Int32 → Int32 → Nat), I a1 a2 a3 a4 a5 a6 a7 a8 sa sk sf sc sz ∧ ∀ (a1 : Int32) (a2 : Int32) (a3 : Int32) (a4 : Int32) (a5 : Int32) (a6 : Int32) (a7 : Int32) (a8 : Int32) (sa : Int32) (sk : Int32) (sf : Int32) (sc : Int32) (sz : Int32), I a1 a2 a3 a4 a5 a6 a7 a8 sa sk sf sc sz → w_132_79 T P (fun a1' a2' a3' a4' a5' a6' a7' a8' sa' sk' sf' sc' sz' => I a1' a2' a3' a4' a5' a6' a7' a8' sa' sk' sf' sc' sz' ∧ μ a1' a2' a3' a4' a5' a6' a7' a8' sa' sk' sf' sc' sz' < μ a1 a2 a3 a4 a5 a6 a7 a8 sa sk sf sc sz) a1 a2 a3 a4 a5 a6 a7 a8 sa sk sf sc sz Q
def w_132_49 (T : Nat → Nat → List Value → sW → (Option Value → sW → Prop) → Prop) (P : Nat)  (a1 : Int32) (a2 : Int32) (a3 : Int32) (a4 : Int32) (a5 : Int32) (sa : Int32) (sk : Int32) (sf : Int32) (sc : Int32) (sz : Int32) (Q : Option Value → sW → Prop) : Prop :=
  ∀ x6 : Int32, (-2147483648 ≤ sk.toInt - 18738 ∧ sk.toInt - 18738 ≤ 2147483647 → x6.toInt = sk.toInt - 18738) → ∀ x12 : Int32, (-2147483648 ≤ sk.toInt + 1 ∧ sk.toInt + 1 ≤ 2147483647 → x12.toInt = sk.toInt + 1) → (0 ≤ x12.toInt ∧ x12.toInt ≤ 2000000000) ∧ (∀ x13 : Int32, (-2147483648 ≤ a1.toInt + 1 ∧ a1.toInt + 1 ≤ 2147483647 → x13.toInt = a1.toInt + 1) → wl_132_79 T P  a1 a2 a3 a4 a5 sk x13 0 sa x12 sf sc sz Q)
def w_132_28 (T : Nat → Nat → List Value → sW → (Option Value → sW → Prop) → Prop) (P : Nat)  (a1 : Int32) (a2 : Int32) (a3 : Int32) (a4 : Int32) (t0 : Int32) (sa : Int32) (sk : Int32) (sf : Int32) (sc : Int32) (sz : Int32) (Q : Option Value → sW → Prop) : Prop :=
  (0 ≤ a3.toInt → ∀ x1 : Int32, (0 ≤ x1.toInt ∧ x1.toInt ≤ 7) → (t0.toInt = x1.toInt → w_132_49 T P  a1 a2 a3 a4 t0 sa sk sf sc sz Q) ∧ (¬ (t0.toInt = x1.toInt) → T 0 38 [.ref P, .int 4, .int a1] (sa, sk, sf, sc, sz) (fun v7 (sa2, sk3, sf4, sc5, sz6) => v7 = none ∧ (w_132_49 T P  a1 a2 a3 a4 t0 sa2 sk3 sf4 sc5 sz6 Q)))) ∧ (¬ (0 ≤ a3.toInt) → T 0 38 [.ref P, .int 2, .int a1] (sa, sk, sf, sc, sz) (fun v13 (sa8, sk9, sf10, sc11, sz12) => v13 = none ∧ (w_132_49 T P  a1 a2 a3 a4 t0 sa8 sk9 sf10 sc11 sz12 Q)))
def w_132_16 (T : Nat → Nat → List Value → sW → (Option Value → sW → Prop) → Prop) (P : Nat)  (a1 : Int32) (a2 : Int32) (a3 : Int32) (t0 : Int32) (sa : Int32) (sk : Int32) (sf : Int32) (sc : Int32) (sz : Int32) (Q : Option Value → sW → Prop) : Prop :=
  (t0.toInt = 0 → w_132_28 T P  a1 a2 a3 t0 0 sa sk sf sc sz Q) ∧ (¬ (t0.toInt = 0) → ∀ x1 : Int32, (-2147483648 ≤ a1.toInt + 1 ∧ a1.toInt + 1 ≤ 2147483647 → x1.toInt = a1.toInt + 1) → ∀ x2 : Int32, w_132_28 T P  a1 a2 a3 t0 x2 sa sk sf sc sz Q)
def w_132_0 (T : Nat → Nat → List Value → sW → (Option Value → sW → Prop) → Prop) (P : Nat)  (a1 : Int32) (a2 : Int32) (sa : Int32) (sk : Int32) (sf : Int32) (sc : Int32) (sz : Int32) (Q : Option Value → sW → Prop) : Prop :=
  ∀ x6 : Int32, ∀ x7 : Int32, (-2147483648 ≤ a1.toInt + 1 ∧ a1.toInt + 1 ≤ 2147483647 → x7.toInt = a1.toInt + 1) → ∀ x8 : Int32, (¬ x8.toInt = 0 → 0 ≤ x7.toInt ∧ x7.toInt < 4002) → (¬ (x8.toInt = 91) → w_132_16 T P  a1 a2 x6 0 sa sk sf sc sz Q) ∧ (x8.toInt = 91 → w_132_16 T P  a1 a2 x6 1 sa sk sf sc sz Q)
set_option maxRecDepth 20000 in
theorem k_132_119_3 {d d0 : Nat} (hd : d = d0 + 4) (hc : ∀ p ∈ s_w132, CTR (yex d) p.1 p.2)  {a1 : Int32} {a2 : Int32} {a3 : Int32} {a4 : Int32} {a5 : Int32} {a6 : Int32} {a7 : Int32} {a8 : Int32} {t0 : Int32} {sa : Int32} {sk : Int32} {sf : Int32} {sc : Int32} {sz : Int32} {Q : Option Value → sW → Prop}  (h : w_132_119 (fun k => Tt d wgL (wk_132 3 k) (wk_132 3 k)) 3  a1 a2 a3 a4 a5 a6 a7 a8 t0 sa sk sf sc sz Q) : Rn d wgL (((84, 5), 3, [(83, 1, 3), (83, 2, 4), (75, 0, 3), (75, 1, 21), (75, 2, 25)]) : wW) (((84, 5), 3, [(83, 1, 3), (83, 2, 4), (75, 0, 3), (75, 1, 21), (75, 2, 25)]) : wW) xL_10 9 (some .int) xE_132 (xE_132.drop 119) [.ref 83, .int a1, .int a2, .int a3, .int a4, .int a5, .int a6, .int a7, .int a8, .null, .null, .null] [.int t0] (sa, sk, sf, sc, sz) Q := by
  unfold w_132_119 at h
  exact n_retI rfl h
set_option maxRecDepth 20000 in
theorem k_132_112_3 {d d0 : Nat} (hd : d = d0 + 4) (hc : ∀ p ∈ s_w132, CTR (yex d) p.1 p.2)  {a1 : Int32} {a2 : Int32} {a3 : Int32} {a4 : Int32} {a5 : Int32} {a6 : Int32} {a7 : Int32} {a8 : Int32} {sa : Int32} {sk : Int32} {sf : Int32} {sc : Int32} {sz : Int32} {Q : Option Value → sW → Prop}  (h : w_132_112 (fun k => Tt d wgL (wk_132 3 k) (wk_132 3 k)) 3  a1 a2 a3 a4 a5 a6 a7 a8 sa sk sf sc sz Q) : Rn d wgL (((84, 5), 3, [(83, 1, 3), (83, 2, 4), (75, 0, 3), (75, 1, 21), (75, 2, 25)]) : wW) (((84, 5), 3, [(83, 1, 3), (83, 2, 4), (75, 0, 3), (75, 1, 21), (75, 2, 25)]) : wW) xL_10 9 (some .int) xE_132 (xE_132.drop 112) [.ref 83, .int a1, .int a2, .int a3, .int a4, .int a5, .int a6, .int a7, .int a8, .null, .null, .null] [] (sa, sk, sf, sc, sz) Q := by
  unfold w_132_112 at h
  refine n_ld rfl rfl rfl ?_
  refine n_brP rfl rfl ⟨fun hcn => ?_, fun hcn => ?_⟩
  · replace h := h.1 ((i_eq (x := a4) (y := 0) rfl (show (0 : Int32).toInt = 0 by decide)).mp hcn)
    refine n_ld rfl rfl rfl ?_
    exact k_132_119_3 hd hc  h
  · replace h := h.2 (fun q => hcn ((i_eq (x := a4) (y := 0) rfl (show (0 : Int32).toInt = 0 by decide)).mpr q))
    refine n_ld rfl rfl rfl ?_
    refine n_c [.int 1, .int a7] (xo_push (.int 1)) rfl rfl ?_
    replace h := h _ (i_add (x := a7) (y := 1) rfl (show (1 : Int32).toInt = 1 by decide))
    refine n_c [.int (a7 + 1)] xo_iadd rfl rfl ?_
    refine n_go rfl ?_
    exact k_132_119_3 hd hc  h
set_option maxRecDepth 20000 in
theorem k_132_100_3 {d d0 : Nat} (hd : d = d0 + 4) (hc : ∀ p ∈ s_w132, CTR (yex d) p.1 p.2)  {a1 : Int32} {a2 : Int32} {a3 : Int32} {a4 : Int32} {a5 : Int32} {a6 : Int32} {a7 : Int32} {a8 : Int32} {sa : Int32} {sk : Int32} {sf : Int32} {sc : Int32} {sz : Int32} {Q : Option Value → sW → Prop}  (h : w_132_100 (fun k => Tt d wgL (wk_132 3 k) (wk_132 3 k)) 3  a1 a2 a3 a4 a5 a6 a7 a8 sa sk sf sc sz Q) : Rn d wgL (((84, 5), 3, [(83, 1, 3), (83, 2, 4), (75, 0, 3), (75, 1, 21), (75, 2, 25)]) : wW) (((84, 5), 3, [(83, 1, 3), (83, 2, 4), (75, 0, 3), (75, 1, 21), (75, 2, 25)]) : wW) xL_10 9 (some .int) xE_132 (xE_132.drop 100) [.ref 83, .int a1, .int a2, .int a3, .int a4, .int a5, .int a6, .int a7, .int a8, .null, .null, .null] [] (sa, sk, sf, sc, sz) Q := by
  unfold w_132_100 at h
  refine n_ld rfl rfl rfl ?_
  refine n_get (v := .ref 3) rfl (hv_C (a := 83) (n := 0) rfl rfl rfl) ?_
  refine n_get (v := .int sk) rfl (hv_f (a := 3) rfl rfl (fun _ _ hw => hw.1.2.1)) ?_
  refine n_ld rfl rfl rfl ?_
  replace h := h _ (i_sub (x := sk) (y := a6) rfl rfl)
  refine n_c [.int (sk - a6)] xo_isub rfl rfl ?_
  refine n_c [.int 60, .int (sk - a6)] (xo_push (.int 60)) rfl rfl ?_
  refine n_brP rfl rfl ⟨fun hcn => ?_, fun hcn => ?_⟩
  · replace h := h.1 ((i_le (x := (sk - a6)) (y := 60) rfl (show (60 : Int32).toInt = 60 by decide)).mp hcn)
    exact k_132_112_3 hd hc  h
  · replace h := h.2 (fun q => hcn ((i_le (x := (sk - a6)) (y := 60) rfl (show (60 : Int32).toInt = 60 by decide)).mpr q))
    refine n_ld rfl rfl rfl ?_
    refine n_get (v := .ref 3) rfl (hv_C (a := 83) (n := 0) rfl rfl rfl) ?_
    refine n_c [.int 9, .ref 3] (xo_push (.int 9)) rfl rfl ?_
    refine n_ld rfl rfl rfl ?_
    refine n_tt [.ref 3, .int 9, .int a1] [] rfl rfl rfl rfl (Tt.imp h (fun v7 sq h => ?_))
    obtain ⟨sa2, sk3, sf4, sc5, sz6⟩ := sq
    obtain ⟨rfl, h⟩ := h
    change Rn _ _ _ _ _ _ _ _ _ _ [] _ _
    exact k_132_112_3 hd hc  h
set_option maxRecDepth 20000 in
theorem k_132_79_3 {d d0 : Nat} (hd : d = d0 + 4) (hc : ∀ p ∈ s_w132, CTR (yex d) p.1 p.2) {R79 : Int32 → Int32 → Int32 → Int32 → Int32 → Int32 → Int32 → Int32 → Int32 → Int32 → Int32 → Int32 → Int32 → Prop} {a1 : Int32} {a2 : Int32} {a3 : Int32} {a4 : Int32} {a5 : Int32} {a6 : Int32} {a7 : Int32} {a8 : Int32} {sa : Int32} {sk : Int32} {sf : Int32} {sc : Int32} {sz : Int32} {Q : Option Value → sW → Prop} (r79 : ∀ a1 a2 a3 a4 a5 a6 a7 a8 sa sk sf sc sz, R79 a1 a2 a3 a4 a5 a6 a7 a8 sa sk sf sc sz → Rn d wgL (((84, 5), 3, [(83, 1, 3), (83, 2, 4), (75, 0, 3), (75, 1, 21), (75, 2, 25)]) : wW) (((84, 5), 3, [(83, 1, 3), (83, 2, 4), (75, 0, 3), (75, 1, 21), (75, 2, 25)]) : wW) xL_10 9 (some .int) xE_132 (xE_132.drop 79) [.ref 83, .int a1, .int a2, .int a3, .int a4, .int a5, .int a6, .int a7, .int a8, .null, .null, .null] [] (sa, sk, sf, sc, sz) Q) (h : w_132_79 (fun k => Tt d wgL (wk_132 3 k) (wk_132 3 k)) 3 R79 a1 a2 a3 a4 a5 a6 a7 a8 sa sk sf sc sz Q) : Rn d wgL (((84, 5), 3, [(83, 1, 3), (83, 2, 4), (75, 0, 3), (75, 1, 21), (75, 2, 25)]) : wW) (((84, 5), 3, [(83, 1, 3), (83, 2, 4), (75, 0, 3), (75, 1, 21), (75, 2, 25)]) : wW) xL_10 9 (some .int) xE_132 (xE_132.drop 79) [.ref 83, .int a1, .int a2, .int a3, .int a4, .int a5, .int a6, .int a7, .int a8, .null, .null, .null] [] (sa, sk, sf, sc, sz) Q := by
  unfold w_132_79 at h
  refine n_ld rfl rfl rfl ?_
  refine n_ld rfl rfl rfl ?_
  refine n_brP rfl rfl ⟨fun hcn => ?_, fun hcn => ?_⟩
  · replace h := h.1 ((i_le (x := a5) (y := a8) rfl rfl).mp hcn)
    exact k_132_100_3 hd hc  h
  · replace h := h.2 (fun q => hcn ((i_le (x := a5) (y := a8) rfl rfl).mpr q))
    refine n_ld rfl rfl rfl ?_
    refine n_get (v := .ref 3) rfl (hv_C (a := 83) (n := 0) rfl rfl rfl) ?_
    refine n_get (v := .int sf) rfl (hv_f (a := 3) rfl rfl (fun _ _ hw => hw.1.2.2.1)) ?_
    refine n_brN rfl rfl ⟨fun hcn => ?_, fun hcn => ?_⟩
    · replace h := h.1 (fun q => hcn ((i_eq (x := sf) (y := 0) rfl (show (0 : Int32).toInt = 0 by decide)).mpr q))
      exact k_132_100_3 hd hc  h
    · replace h := h.2 ((i_eq (x := sf) (y := 0) rfl (show (0 : Int32).toInt = 0 by decide)).mp hcn)
      refine n_ld rfl rfl rfl ?_
      refine n_c [.int 10, .int a2] (xo_push (.int 10)) rfl rfl ?_
      refine n_brP rfl rfl ⟨fun hcn => ?_, fun hcn => ?_⟩
      · replace h := h.1 ((i_lt (x := 10) (y := a2) (show (10 : Int32).toInt = 10 by decide) rfl).mp hcn)
        exact k_132_100_3 hd hc  h
      · replace h := h.2 (fun q => hcn ((i_lt (x := 10) (y := a2) (show (10 : Int32).toInt = 10 by decide) rfl).mpr q))
        refine n_ld rfl rfl rfl ?_
        refine n_ld rfl rfl rfl ?_
        refine n_c [.int 1, .int a7, .ref 83] (xo_push (.int 1)) rfl rfl ?_
        replace h := h _ (i_add (x := a7) (y := 1) rfl (show (1 : Int32).toInt = 1 by decide))
        refine n_c [.int (a7 + 1), .ref 83] xo_iadd rfl rfl ?_
        refine n_ld rfl rfl rfl ?_
        refine n_c [.int 1, .int a2, .int (a7 + 1), .ref 83] (xo_push (.int 1)) rfl rfl ?_
        replace h := h _ (i_add (x := a2) (y := 1) rfl (show (1 : Int32).toInt = 1 by decide))
        refine n_c [.int (a2 + 1), .int (a7 + 1), .ref 83] xo_iadd rfl rfl ?_
        refine n_tt [.ref 83, .int (a7 + 1), .int (a2 + 1)] [] rfl rfl rfl rfl (Tt.imp h (fun v8 sq h => ?_))
        obtain ⟨sa3, sk4, sf5, sc6, sz7⟩ := sq
        obtain ⟨x9, rfl, h⟩ := h
        change Rn _ _ _ _ _ _ _ _ _ _ [.int x9] _ _
        refine n_st [.ref 83, .int a1, .int a2, .int a3, .int a4, .int a5, .int a6, .int x9, .int a8, .null, .null, .null] rfl rfl rfl ?_
        replace h := h _ (i_add (x := a8) (y := 1) rfl (show (1 : Int32).toInt = 1 by decide))
        refine n_inc [.ref 83, .int a1, .int a2, .int a3, .int a4, .int a5, .int a6, .int x9, .int (a8 + 1), .null, .null, .null] rfl rfl rfl rfl ?_
        refine n_go rfl ?_
        exact r79 a1 a2 a3 a4 a5 a6 x9 (a8 + 1) sa3 sk4 sf5 sc6 sz7 h
theorem kl_132_79_3 {d d0 : Nat} (hd : d = d0 + 4) (hc : ∀ p ∈ s_w132, CTR (yex d) p.1 p.2)  {a1 : Int32} {a2 : Int32} {a3 : Int32} {a4 : Int32} {a5 : Int32} {a6 : Int32} {a7 : Int32} {a8 : Int32} {sa : Int32} {sk : Int32} {sf : Int32} {sc : Int32} {sz : Int32} {Q : Option Value → sW → Prop}  (h : wl_132_79 (fun k => Tt d wgL (wk_132 3 k) (wk_132 3 k)) 3  a1 a2 a3 a4 a5 a6 a7 a8 sa sk sf sc sz Q) : Rn d wgL (((84, 5), 3, [(83, 1, 3), (83, 2, 4), (75, 0, 3), (75, 1, 21), (75, 2, 25)]) : wW) (((84, 5), 3, [(83, 1, 3), (83, 2, 4), (75, 0, 3), (75, 1, 21), (75, 2, 25)]) : wW) xL_10 9 (some .int) xE_132 (xE_132.drop 79) [.ref 83, .int a1, .int a2, .int a3, .int a4, .int a5, .int a6, .int a7, .int a8, .null, .null, .null] [] (sa, sk, sf, sc, sz) Q := by
  obtain ⟨I, μ, h0, h1⟩ := h
  have key : ∀ (n : Nat) (a1 : Int32) (a2 : Int32) (a3 : Int32) (a4 : Int32) (a5 : Int32) (a6 : Int32) (a7 : Int32) (a8 : Int32) (sa : Int32) (sk : Int32) (sf : Int32) (sc : Int32) (sz : Int32), μ a1 a2 a3 a4 a5 a6 a7 a8 sa sk sf sc sz = n → I a1 a2 a3 a4 a5 a6 a7 a8 sa sk sf sc sz → Rn d wgL (((84, 5), 3, [(83, 1, 3), (83, 2, 4), (75, 0, 3), (75, 1, 21), (75, 2, 25)]) : wW) (((84, 5), 3, [(83, 1, 3), (83, 2, 4), (75, 0, 3), (75, 1, 21), (75, 2, 25)]) : wW) xL_10 9 (some .int) xE_132 (xE_132.drop 79) [.ref 83, .int a1, .int a2, .int a3, .int a4, .int a5, .int a6, .int a7, .int a8, .null, .null, .null] [] (sa, sk, sf, sc, sz) Q := by
    intro n
    induction n using Nat.strongRecOn with
    | ind n ih =>
      intro a1 a2 a3 a4 a5 a6 a7 a8 sa sk sf sc sz e hI
      exact k_132_79_3 hd hc (fun a1' a2' a3' a4' a5' a6' a7' a8' sa' sk' sf' sc' sz' q => ih _ (by rw [← e]; exact q.2) a1' a2' a3' a4' a5' a6' a7' a8' sa' sk' sf' sc' sz' rfl q.1) (h1 a1 a2 a3 a4 a5 a6 a7 a8 sa sk sf sc sz hI)
  exact key _ a1 a2 a3 a4 a5 a6 a7 a8 sa sk sf sc sz rfl h0
set_option maxRecDepth 20000 in
theorem k_132_49_3 {d d0 : Nat} (hd : d = d0 + 4) (hc : ∀ p ∈ s_w132, CTR (yex d) p.1 p.2)  {a1 : Int32} {a2 : Int32} {a3 : Int32} {a4 : Int32} {a5 : Int32} {sa : Int32} {sk : Int32} {sf : Int32} {sc : Int32} {sz : Int32} {Q : Option Value → sW → Prop}  (h : w_132_49 (fun k => Tt d wgL (wk_132 3 k) (wk_132 3 k)) 3  a1 a2 a3 a4 a5 sa sk sf sc sz Q) : Rn d wgL (((84, 5), 3, [(83, 1, 3), (83, 2, 4), (75, 0, 3), (75, 1, 21), (75, 2, 25)]) : wW) (((84, 5), 3, [(83, 1, 3), (83, 2, 4), (75, 0, 3), (75, 1, 21), (75, 2, 25)]) : wW) xL_10 9 (some .int) xE_132 (xE_132.drop 49) [.ref 83, .int a1, .int a2, .int a3, .int a4, .int a5, .null, .null, .null, .null, .null, .null] [] (sa, sk, sf, sc, sz) Q := by
  unfold w_132_49 at h
  refine n_ld rfl rfl rfl ?_
  refine n_get (v := .ref 3) rfl (hv_C (a := 83) (n := 0) rfl rfl rfl) ?_
  refine n_get (v := .int sk) rfl (hv_f (a := 3) rfl rfl (fun _ _ hw => hw.1.2.1)) ?_
  refine n_st [.ref 83, .int a1, .int a2, .int a3, .int a4, .int a5, .int sk, .null, .null, .null, .null, .null] rfl rfl rfl ?_
  refine n_ld rfl rfl rfl ?_
  refine n_get (v := .ref 3) rfl (hv_C (a := 83) (n := 0) rfl rfl rfl) ?_
  refine n_get (v := .ref 21) rfl (hv_R (a := 3) rfl rfl) ?_
  refine n_ld rfl rfl rfl ?_
  refine n_ld rfl rfl rfl ?_
  refine n_ctr [.ref 21, .int sk, .int a3] [] rfl rfl rfl (hc (77, q_77) (List.mem_of_getElem? (i := 0) rfl)) ⟨⟨_, rfl, cmem_ok rfl⟩, vK_int _, vK_int _, trivial⟩ rfl rfl (fun vq sq hv hk => ?_)
  obtain ⟨sa1, sk2, sf3, sc4, sz5⟩ := sq
  obtain ⟨k1, k2, k3, k4, k5, k6, k7⟩ := hk
  obtain rfl : sa = sa1 := (k1 (wmem_no rfl)).symm
  obtain rfl : sk = sk2 := (k2).symm
  obtain rfl : sf = sf3 := (k3 (wmem_no rfl)).symm
  obtain rfl : sc = sc4 := (k5 (wmem_no rfl)).symm
  obtain rfl : sz = sz5 := (k6 (wmem_no rfl)).symm
  cases (show vq = none from hv)
  change Rn _ _ _ _ _ _ _ _ _ _ [] _ _
  refine n_ld rfl rfl rfl ?_
  refine n_get (v := .ref 3) rfl (hv_C (a := 83) (n := 0) rfl rfl rfl) ?_
  refine n_get (v := .ref 23) rfl (hv_R (a := 3) rfl rfl) ?_
  refine n_ld rfl rfl rfl ?_
  refine n_c [.int 18738, .int sk, .ref 23] (xo_push (.int 18738)) rfl rfl ?_
  replace h := h _ (i_sub (x := sk) (y := 18738) rfl (show (18738 : Int32).toInt = 18738 by decide))
  refine n_c [.int (sk - 18738), .ref 23] xo_isub rfl rfl ?_
  refine n_ld rfl rfl rfl ?_
  refine n_ctr [.ref 23, .int (sk - 18738), .int a1] [] rfl rfl rfl (hc (77, q_77) (List.mem_of_getElem? (i := 0) rfl)) ⟨⟨_, rfl, cmem_ok rfl⟩, vK_int _, vK_int _, trivial⟩ rfl rfl (fun vq sq hv hk => ?_)
  obtain ⟨sa7, sk8, sf9, sc10, sz11⟩ := sq
  obtain ⟨k1, k2, k3, k4, k5, k6, k7⟩ := hk
  obtain rfl : sa = sa7 := (k1 (wmem_no rfl)).symm
  obtain rfl : sk = sk8 := (k2).symm
  obtain rfl : sf = sf9 := (k3 (wmem_no rfl)).symm
  obtain rfl : sc = sc10 := (k5 (wmem_no rfl)).symm
  obtain rfl : sz = sz11 := (k6 (wmem_no rfl)).symm
  cases (show vq = none from hv)
  change Rn _ _ _ _ _ _ _ _ _ _ [] _ _
  refine n_ld rfl rfl rfl ?_
  refine n_get (v := .ref 3) rfl (hv_C (a := 83) (n := 0) rfl rfl rfl) ?_
  refine n_ld rfl rfl rfl ?_
  refine n_c [.int 1, .int sk, .ref 3] (xo_push (.int 1)) rfl rfl ?_
  replace h := h _ (i_add (x := sk) (y := 1) rfl (show (1 : Int32).toInt = 1 by decide))
  refine n_c [.int (sk + 1), .ref 3] xo_iadd rfl rfl ?_
  refine n_put (a := 3) (w1 := (((84, 5), 3, [(83, 1, 3), (83, 2, 4), (75, 0, 3), (75, 1, 21), (75, 2, 25)]) : wW)) (s1 := (sa, (sk + 1), sf, sc, sz)) rfl rfl rfl rfl ⟨_, rfl, h.1.1, h.1.2⟩ rfl rfl rfl (Or.inr (Or.inl (by decide +kernel))) (ws_kp (w := (((84, 5), 3, [(83, 1, 3), (83, 2, 4), (75, 0, 3), (75, 1, 21), (75, 2, 25)]) : wW)) (s := (sa, sk, sf, sc, sz)) rfl) ?_
  replace h := h.2
  refine n_ld rfl rfl rfl ?_
  refine n_c [.int 1, .int a1] (xo_push (.int 1)) rfl rfl ?_
  replace h := h _ (i_add (x := a1) (y := 1) rfl (show (1 : Int32).toInt = 1 by decide))
  refine n_c [.int (a1 + 1)] xo_iadd rfl rfl ?_
  refine n_st [.ref 83, .int a1, .int a2, .int a3, .int a4, .int a5, .int sk, .int (a1 + 1), .null, .null, .null, .null] rfl rfl rfl ?_
  refine n_c [.int 0] (xo_push (.int 0)) rfl rfl ?_
  refine n_st [.ref 83, .int a1, .int a2, .int a3, .int a4, .int a5, .int sk, .int (a1 + 1), .int 0, .null, .null, .null] rfl rfl rfl ?_
  exact kl_132_79_3 hd hc  h
set_option maxRecDepth 20000 in
theorem k_132_28_3 {d d0 : Nat} (hd : d = d0 + 4) (hc : ∀ p ∈ s_w132, CTR (yex d) p.1 p.2)  {a1 : Int32} {a2 : Int32} {a3 : Int32} {a4 : Int32} {t0 : Int32} {sa : Int32} {sk : Int32} {sf : Int32} {sc : Int32} {sz : Int32} {Q : Option Value → sW → Prop}  (h : w_132_28 (fun k => Tt d wgL (wk_132 3 k) (wk_132 3 k)) 3  a1 a2 a3 a4 t0 sa sk sf sc sz Q) : Rn d wgL (((84, 5), 3, [(83, 1, 3), (83, 2, 4), (75, 0, 3), (75, 1, 21), (75, 2, 25)]) : wW) (((84, 5), 3, [(83, 1, 3), (83, 2, 4), (75, 0, 3), (75, 1, 21), (75, 2, 25)]) : wW) xL_10 9 (some .int) xE_132 (xE_132.drop 28) [.ref 83, .int a1, .int a2, .int a3, .int a4, .null, .null, .null, .null, .null, .null, .null] [.int t0] (sa, sk, sf, sc, sz) Q := by
  unfold w_132_28 at h
  refine n_st [.ref 83, .int a1, .int a2, .int a3, .int a4, .int t0, .null, .null, .null, .null, .null, .null] rfl rfl rfl ?_
  refine n_ld rfl rfl rfl ?_
  refine n_brP rfl rfl ⟨fun hcn => ?_, fun hcn => ?_⟩
  · replace h := h.1 ((i_le (x := 0) (y := a3) (show (0 : Int32).toInt = 0 by decide) rfl).mp hcn)
    refine n_ld rfl rfl rfl ?_
    refine n_ld rfl rfl rfl ?_
    refine n_get (v := .ref 3) rfl (hv_C (a := 83) (n := 0) rfl rfl rfl) ?_
    refine n_get (v := .ref 25) rfl (hv_R (a := 3) rfl rfl) ?_
    refine n_ld rfl rfl rfl ?_
    refine n_row a3 [.int t0] (a := 25) hd rfl rfl rfl rfl (fun x1 g1 g2 g3 => ?_)
    replace h := h x1 g1
    refine n_brP rfl rfl ⟨fun hcn => ?_, fun hcn => ?_⟩
    · replace h := h.1 ((i_eq (x := t0) (y := x1) rfl rfl).mp hcn)
      exact k_132_49_3 hd hc  h
    · replace h := h.2 (fun q => hcn ((i_eq (x := t0) (y := x1) rfl rfl).mpr q))
      refine n_ld rfl rfl rfl ?_
      refine n_get (v := .ref 3) rfl (hv_C (a := 83) (n := 0) rfl rfl rfl) ?_
      refine n_c [.int 4, .ref 3] (xo_push (.int 4)) rfl rfl ?_
      refine n_ld rfl rfl rfl ?_
      refine n_tt [.ref 3, .int 4, .int a1] [] rfl rfl rfl rfl (Tt.imp h (fun v7 sq h => ?_))
      obtain ⟨sa2, sk3, sf4, sc5, sz6⟩ := sq
      obtain ⟨rfl, h⟩ := h
      change Rn _ _ _ _ _ _ _ _ _ _ [] _ _
      exact k_132_49_3 hd hc  h
  · replace h := h.2 (fun q => hcn ((i_le (x := 0) (y := a3) (show (0 : Int32).toInt = 0 by decide) rfl).mpr q))
    refine n_ld rfl rfl rfl ?_
    refine n_get (v := .ref 3) rfl (hv_C (a := 83) (n := 0) rfl rfl rfl) ?_
    refine n_c [.int 2, .ref 3] (xo_push (.int 2)) rfl rfl ?_
    refine n_ld rfl rfl rfl ?_
    refine n_tt [.ref 3, .int 2, .int a1] [] rfl rfl rfl rfl (Tt.imp h (fun v13 sq h => ?_))
    obtain ⟨sa8, sk9, sf10, sc11, sz12⟩ := sq
    obtain ⟨rfl, h⟩ := h
    change Rn _ _ _ _ _ _ _ _ _ _ [] _ _
    refine n_go rfl ?_
    exact k_132_49_3 hd hc  h
set_option maxRecDepth 20000 in
theorem k_132_16_3 {d d0 : Nat} (hd : d = d0 + 4) (hc : ∀ p ∈ s_w132, CTR (yex d) p.1 p.2)  {a1 : Int32} {a2 : Int32} {a3 : Int32} {t0 : Int32} {sa : Int32} {sk : Int32} {sf : Int32} {sc : Int32} {sz : Int32} {Q : Option Value → sW → Prop}  (h : w_132_16 (fun k => Tt d wgL (wk_132 3 k) (wk_132 3 k)) 3  a1 a2 a3 t0 sa sk sf sc sz Q) : Rn d wgL (((84, 5), 3, [(83, 1, 3), (83, 2, 4), (75, 0, 3), (75, 1, 21), (75, 2, 25)]) : wW) (((84, 5), 3, [(83, 1, 3), (83, 2, 4), (75, 0, 3), (75, 1, 21), (75, 2, 25)]) : wW) xL_10 9 (some .int) xE_132 (xE_132.drop 16) [.ref 83, .int a1, .int a2, .int a3, .null, .null, .null, .null, .null, .null, .null, .null] [.int t0] (sa, sk, sf, sc, sz) Q := by
  unfold w_132_16 at h
  refine n_st [.ref 83, .int a1, .int a2, .int a3, .int t0, .null, .null, .null, .null, .null, .null, .null] rfl rfl rfl ?_
  refine n_ld rfl rfl rfl ?_
  refine n_brP rfl rfl ⟨fun hcn => ?_, fun hcn => ?_⟩
  · replace h := h.1 ((i_eq (x := t0) (y := 0) rfl (show (0 : Int32).toInt = 0 by decide)).mp hcn)
    refine n_c [.int 0] (xo_push (.int 0)) rfl rfl ?_
    exact k_132_28_3 hd hc  h
  · replace h := h.2 (fun q => hcn ((i_eq (x := t0) (y := 0) rfl (show (0 : Int32).toInt = 0 by decide)).mpr q))
    refine n_ld rfl rfl rfl ?_
    refine n_get (v := .ref 4) rfl (hv_C (a := 83) (n := 1) rfl rfl rfl) ?_
    refine n_get (v := .ref 15) rfl (hv_R (a := 4) rfl rfl) ?_
    refine n_ld rfl rfl rfl ?_
    refine n_c [.int 1, .int a1, .ref 15] (xo_push (.int 1)) rfl rfl ?_
    replace h := h _ (i_add (x := a1) (y := 1) rfl (show (1 : Int32).toInt = 1 by decide))
    refine n_c [.int (a1 + 1), .ref 15] xo_iadd rfl rfl ?_
    refine n_row (a1 + 1) [] (a := 15) hd rfl rfl rfl rfl (fun x2 g1 g2 g3 => ?_)
    replace h := h x2 
    refine n_go rfl ?_
    exact k_132_28_3 hd hc  h
set_option maxRecDepth 20000 in
theorem k_132_0_3 {d d0 : Nat} (hd : d = d0 + 4) (hc : ∀ p ∈ s_w132, CTR (yex d) p.1 p.2)  {a1 : Int32} {a2 : Int32} {sa : Int32} {sk : Int32} {sf : Int32} {sc : Int32} {sz : Int32} {Q : Option Value → sW → Prop}  (h : w_132_0 (fun k => Tt d wgL (wk_132 3 k) (wk_132 3 k)) 3  a1 a2 sa sk sf sc sz Q) : Rn d wgL (((84, 5), 3, [(83, 1, 3), (83, 2, 4), (75, 0, 3), (75, 1, 21), (75, 2, 25)]) : wW) (((84, 5), 3, [(83, 1, 3), (83, 2, 4), (75, 0, 3), (75, 1, 21), (75, 2, 25)]) : wW) xL_10 9 (some .int) xE_132 (xE_132.drop 0) [.ref 83, .int a1, .int a2, .null, .null, .null, .null, .null, .null, .null, .null, .null] [] (sa, sk, sf, sc, sz) Q := by
  unfold w_132_0 at h
  refine n_ld rfl rfl rfl ?_
  refine n_ld rfl rfl rfl ?_
  refine n_ctr [.ref 83, .int a1] [] rfl rfl rfl (hc (133, q_133) (List.mem_of_getElem? (i := 1) rfl)) ⟨⟨_, rfl, cmem_ok rfl⟩, vK_int _, trivial⟩ rfl rfl (fun vq sq hv hk => ?_)
  obtain ⟨sa1, sk2, sf3, sc4, sz5⟩ := sq
  obtain ⟨k1, k2, k3, k4, k5, k6, k7⟩ := hk
  obtain rfl : sa = sa1 := (k1 (wmem_no rfl)).symm
  obtain rfl : sk = sk2 := (k2).symm
  obtain rfl : sf = sf3 := (k3 (wmem_no rfl)).symm
  obtain rfl : sc = sc4 := (k5 (wmem_no rfl)).symm
  obtain rfl : sz = sz5 := (k6 (wmem_no rfl)).symm
  obtain ⟨vr, rfl, x6, rfl, hl, hu⟩ := hv
  replace h := h x6
  change Rn _ _ _ _ _ _ _ _ _ _ [.int x6] _ _
  refine n_st [.ref 83, .int a1, .int a2, .int x6, .null, .null, .null, .null, .null, .null, .null, .null] rfl rfl rfl ?_
  refine n_ld rfl rfl rfl ?_
  refine n_get (v := .ref 4) rfl (hv_C (a := 83) (n := 1) rfl rfl rfl) ?_
  refine n_get (v := .ref 7) rfl (hv_R (a := 4) rfl rfl) ?_
  refine n_ld rfl rfl rfl ?_
  refine n_c [.int 1, .int a1, .ref 7] (xo_push (.int 1)) rfl rfl ?_
  replace h := h _ (i_add (x := a1) (y := 1) rfl (show (1 : Int32).toInt = 1 by decide))
  refine n_c [.int (a1 + 1), .ref 7] xo_iadd rfl rfl ?_
  refine n_row (a1 + 1) [] (a := 7) hd rfl rfl rfl rfl (fun x8 g1 g2 g3 => ?_)
  replace h := h x8 g2
  refine n_c [.int 91, .int x8] (xo_push (.int 91)) rfl rfl ?_
  refine n_brN rfl rfl ⟨fun hcn => ?_, fun hcn => ?_⟩
  · replace h := h.1 (fun q => hcn ((i_eq (x := x8) (y := 91) rfl (show (91 : Int32).toInt = 91 by decide)).mpr q))
    refine n_c [.int 0] (xo_push (.int 0)) rfl rfl ?_
    exact k_132_16_3 hd hc  h
  · replace h := h.2 ((i_eq (x := x8) (y := 91) rfl (show (91 : Int32).toInt = 91 by decide)).mp hcn)
    refine n_c [.int 1] (xo_push (.int 1)) rfl rfl ?_
    refine n_go rfl ?_
    exact k_132_16_3 hd hc  h
theorem t_132_3 {d : Nat} (hc : ∀ p ∈ s_w132, CTR (yex (d + 4)) p.1 p.2) {a1 : Int32} {a2 : Int32} {sa : Int32} {sk : Int32} {sf : Int32} {sc : Int32} {sz : Int32} {Q : Option Value → sW → Prop} (h : w_132_0 (fun k => Tt (d + 4) wgL (wk_132 3 k) (wk_132 3 k)) 3 a1 a2 sa sk sf sc sz Q) : Tt (d + 5) wgL (((84, 5), 3, [(83, 1, 3), (83, 2, 4), (75, 0, 3), (75, 1, 21), (75, 2, 25)]) : wW) (((84, 5), 3, [(83, 1, 3), (83, 2, 4), (75, 0, 3), (75, 1, 21), (75, 2, 25)]) : wW) 132 [.ref 83, .int a1, .int a2] (sa, sk, sf, sc, sz) Q := tt_of (E := xE_132) (L := xL_10) (ml := 9) (ret := some .int) rfl rfl rfl (k_132_0_3 rfl hc h)
set_option maxRecDepth 20000 in
theorem k_132_119_39 {d d0 : Nat} (hd : d = d0 + 4) (hc : ∀ p ∈ s_w132, CTR (yex d) p.1 p.2)  {a1 : Int32} {a2 : Int32} {a3 : Int32} {a4 : Int32} {a5 : Int32} {a6 : Int32} {a7 : Int32} {a8 : Int32} {t0 : Int32} {sa : Int32} {sk : Int32} {sf : Int32} {sc : Int32} {sz : Int32} {Q : Option Value → sW → Prop}  (h : w_132_119 (fun k => Tt d wgL (wk_132 39 k) (wk_132 39 k)) 39  a1 a2 a3 a4 a5 a6 a7 a8 t0 sa sk sf sc sz Q) : Rn d wgL (((84, 5), 39, [(83, 1, 39), (83, 2, 40), (75, 0, 39), (75, 1, 57), (75, 2, 61)]) : wW) (((84, 5), 39, [(83, 1, 39), (83, 2, 40), (75, 0, 39), (75, 1, 57), (75, 2, 61)]) : wW) xL_10 9 (some .int) xE_132 (xE_132.drop 119) [.ref 83, .int a1, .int a2, .int a3, .int a4, .int a5, .int a6, .int a7, .int a8, .null, .null, .null] [.int t0] (sa, sk, sf, sc, sz) Q := by
  unfold w_132_119 at h
  exact n_retI rfl h
set_option maxRecDepth 20000 in
theorem k_132_112_39 {d d0 : Nat} (hd : d = d0 + 4) (hc : ∀ p ∈ s_w132, CTR (yex d) p.1 p.2)  {a1 : Int32} {a2 : Int32} {a3 : Int32} {a4 : Int32} {a5 : Int32} {a6 : Int32} {a7 : Int32} {a8 : Int32} {sa : Int32} {sk : Int32} {sf : Int32} {sc : Int32} {sz : Int32} {Q : Option Value → sW → Prop}  (h : w_132_112 (fun k => Tt d wgL (wk_132 39 k) (wk_132 39 k)) 39  a1 a2 a3 a4 a5 a6 a7 a8 sa sk sf sc sz Q) : Rn d wgL (((84, 5), 39, [(83, 1, 39), (83, 2, 40), (75, 0, 39), (75, 1, 57), (75, 2, 61)]) : wW) (((84, 5), 39, [(83, 1, 39), (83, 2, 40), (75, 0, 39), (75, 1, 57), (75, 2, 61)]) : wW) xL_10 9 (some .int) xE_132 (xE_132.drop 112) [.ref 83, .int a1, .int a2, .int a3, .int a4, .int a5, .int a6, .int a7, .int a8, .null, .null, .null] [] (sa, sk, sf, sc, sz) Q := by
  unfold w_132_112 at h
  refine n_ld rfl rfl rfl ?_
  refine n_brP rfl rfl ⟨fun hcn => ?_, fun hcn => ?_⟩
  · replace h := h.1 ((i_eq (x := a4) (y := 0) rfl (show (0 : Int32).toInt = 0 by decide)).mp hcn)
    refine n_ld rfl rfl rfl ?_
    exact k_132_119_39 hd hc  h
  · replace h := h.2 (fun q => hcn ((i_eq (x := a4) (y := 0) rfl (show (0 : Int32).toInt = 0 by decide)).mpr q))
    refine n_ld rfl rfl rfl ?_
    refine n_c [.int 1, .int a7] (xo_push (.int 1)) rfl rfl ?_
    replace h := h _ (i_add (x := a7) (y := 1) rfl (show (1 : Int32).toInt = 1 by decide))
    refine n_c [.int (a7 + 1)] xo_iadd rfl rfl ?_
    refine n_go rfl ?_
    exact k_132_119_39 hd hc  h
set_option maxRecDepth 20000 in
theorem k_132_100_39 {d d0 : Nat} (hd : d = d0 + 4) (hc : ∀ p ∈ s_w132, CTR (yex d) p.1 p.2)  {a1 : Int32} {a2 : Int32} {a3 : Int32} {a4 : Int32} {a5 : Int32} {a6 : Int32} {a7 : Int32} {a8 : Int32} {sa : Int32} {sk : Int32} {sf : Int32} {sc : Int32} {sz : Int32} {Q : Option Value → sW → Prop}  (h : w_132_100 (fun k => Tt d wgL (wk_132 39 k) (wk_132 39 k)) 39  a1 a2 a3 a4 a5 a6 a7 a8 sa sk sf sc sz Q) : Rn d wgL (((84, 5), 39, [(83, 1, 39), (83, 2, 40), (75, 0, 39), (75, 1, 57), (75, 2, 61)]) : wW) (((84, 5), 39, [(83, 1, 39), (83, 2, 40), (75, 0, 39), (75, 1, 57), (75, 2, 61)]) : wW) xL_10 9 (some .int) xE_132 (xE_132.drop 100) [.ref 83, .int a1, .int a2, .int a3, .int a4, .int a5, .int a6, .int a7, .int a8, .null, .null, .null] [] (sa, sk, sf, sc, sz) Q := by
  unfold w_132_100 at h
  refine n_ld rfl rfl rfl ?_
  refine n_get (v := .ref 39) rfl (hv_C (a := 83) (n := 0) rfl rfl rfl) ?_
  refine n_get (v := .int sk) rfl (hv_f (a := 39) rfl rfl (fun _ _ hw => hw.1.2.1)) ?_
  refine n_ld rfl rfl rfl ?_
  replace h := h _ (i_sub (x := sk) (y := a6) rfl rfl)
  refine n_c [.int (sk - a6)] xo_isub rfl rfl ?_
  refine n_c [.int 60, .int (sk - a6)] (xo_push (.int 60)) rfl rfl ?_
  refine n_brP rfl rfl ⟨fun hcn => ?_, fun hcn => ?_⟩
  · replace h := h.1 ((i_le (x := (sk - a6)) (y := 60) rfl (show (60 : Int32).toInt = 60 by decide)).mp hcn)
    exact k_132_112_39 hd hc  h
  · replace h := h.2 (fun q => hcn ((i_le (x := (sk - a6)) (y := 60) rfl (show (60 : Int32).toInt = 60 by decide)).mpr q))
    refine n_ld rfl rfl rfl ?_
    refine n_get (v := .ref 39) rfl (hv_C (a := 83) (n := 0) rfl rfl rfl) ?_
    refine n_c [.int 9, .ref 39] (xo_push (.int 9)) rfl rfl ?_
    refine n_ld rfl rfl rfl ?_
    refine n_tt [.ref 39, .int 9, .int a1] [] rfl rfl rfl rfl (Tt.imp h (fun v7 sq h => ?_))
    obtain ⟨sa2, sk3, sf4, sc5, sz6⟩ := sq
    obtain ⟨rfl, h⟩ := h
    change Rn _ _ _ _ _ _ _ _ _ _ [] _ _
    exact k_132_112_39 hd hc  h
set_option maxRecDepth 20000 in
theorem k_132_79_39 {d d0 : Nat} (hd : d = d0 + 4) (hc : ∀ p ∈ s_w132, CTR (yex d) p.1 p.2) {R79 : Int32 → Int32 → Int32 → Int32 → Int32 → Int32 → Int32 → Int32 → Int32 → Int32 → Int32 → Int32 → Int32 → Prop} {a1 : Int32} {a2 : Int32} {a3 : Int32} {a4 : Int32} {a5 : Int32} {a6 : Int32} {a7 : Int32} {a8 : Int32} {sa : Int32} {sk : Int32} {sf : Int32} {sc : Int32} {sz : Int32} {Q : Option Value → sW → Prop} (r79 : ∀ a1 a2 a3 a4 a5 a6 a7 a8 sa sk sf sc sz, R79 a1 a2 a3 a4 a5 a6 a7 a8 sa sk sf sc sz → Rn d wgL (((84, 5), 39, [(83, 1, 39), (83, 2, 40), (75, 0, 39), (75, 1, 57), (75, 2, 61)]) : wW) (((84, 5), 39, [(83, 1, 39), (83, 2, 40), (75, 0, 39), (75, 1, 57), (75, 2, 61)]) : wW) xL_10 9 (some .int) xE_132 (xE_132.drop 79) [.ref 83, .int a1, .int a2, .int a3, .int a4, .int a5, .int a6, .int a7, .int a8, .null, .null, .null] [] (sa, sk, sf, sc, sz) Q) (h : w_132_79 (fun k => Tt d wgL (wk_132 39 k) (wk_132 39 k)) 39 R79 a1 a2 a3 a4 a5 a6 a7 a8 sa sk sf sc sz Q) : Rn d wgL (((84, 5), 39, [(83, 1, 39), (83, 2, 40), (75, 0, 39), (75, 1, 57), (75, 2, 61)]) : wW) (((84, 5), 39, [(83, 1, 39), (83, 2, 40), (75, 0, 39), (75, 1, 57), (75, 2, 61)]) : wW) xL_10 9 (some .int) xE_132 (xE_132.drop 79) [.ref 83, .int a1, .int a2, .int a3, .int a4, .int a5, .int a6, .int a7, .int a8, .null, .null, .null] [] (sa, sk, sf, sc, sz) Q := by
  unfold w_132_79 at h
  refine n_ld rfl rfl rfl ?_
  refine n_ld rfl rfl rfl ?_
  refine n_brP rfl rfl ⟨fun hcn => ?_, fun hcn => ?_⟩
  · replace h := h.1 ((i_le (x := a5) (y := a8) rfl rfl).mp hcn)
    exact k_132_100_39 hd hc  h
  · replace h := h.2 (fun q => hcn ((i_le (x := a5) (y := a8) rfl rfl).mpr q))
    refine n_ld rfl rfl rfl ?_
    refine n_get (v := .ref 39) rfl (hv_C (a := 83) (n := 0) rfl rfl rfl) ?_
    refine n_get (v := .int sf) rfl (hv_f (a := 39) rfl rfl (fun _ _ hw => hw.1.2.2.1)) ?_
    refine n_brN rfl rfl ⟨fun hcn => ?_, fun hcn => ?_⟩
    · replace h := h.1 (fun q => hcn ((i_eq (x := sf) (y := 0) rfl (show (0 : Int32).toInt = 0 by decide)).mpr q))
      exact k_132_100_39 hd hc  h
    · replace h := h.2 ((i_eq (x := sf) (y := 0) rfl (show (0 : Int32).toInt = 0 by decide)).mp hcn)
      refine n_ld rfl rfl rfl ?_
      refine n_c [.int 10, .int a2] (xo_push (.int 10)) rfl rfl ?_
      refine n_brP rfl rfl ⟨fun hcn => ?_, fun hcn => ?_⟩
      · replace h := h.1 ((i_lt (x := 10) (y := a2) (show (10 : Int32).toInt = 10 by decide) rfl).mp hcn)
        exact k_132_100_39 hd hc  h
      · replace h := h.2 (fun q => hcn ((i_lt (x := 10) (y := a2) (show (10 : Int32).toInt = 10 by decide) rfl).mpr q))
        refine n_ld rfl rfl rfl ?_
        refine n_ld rfl rfl rfl ?_
        refine n_c [.int 1, .int a7, .ref 83] (xo_push (.int 1)) rfl rfl ?_
        replace h := h _ (i_add (x := a7) (y := 1) rfl (show (1 : Int32).toInt = 1 by decide))
        refine n_c [.int (a7 + 1), .ref 83] xo_iadd rfl rfl ?_
        refine n_ld rfl rfl rfl ?_
        refine n_c [.int 1, .int a2, .int (a7 + 1), .ref 83] (xo_push (.int 1)) rfl rfl ?_
        replace h := h _ (i_add (x := a2) (y := 1) rfl (show (1 : Int32).toInt = 1 by decide))
        refine n_c [.int (a2 + 1), .int (a7 + 1), .ref 83] xo_iadd rfl rfl ?_
        refine n_tt [.ref 83, .int (a7 + 1), .int (a2 + 1)] [] rfl rfl rfl rfl (Tt.imp h (fun v8 sq h => ?_))
        obtain ⟨sa3, sk4, sf5, sc6, sz7⟩ := sq
        obtain ⟨x9, rfl, h⟩ := h
        change Rn _ _ _ _ _ _ _ _ _ _ [.int x9] _ _
        refine n_st [.ref 83, .int a1, .int a2, .int a3, .int a4, .int a5, .int a6, .int x9, .int a8, .null, .null, .null] rfl rfl rfl ?_
        replace h := h _ (i_add (x := a8) (y := 1) rfl (show (1 : Int32).toInt = 1 by decide))
        refine n_inc [.ref 83, .int a1, .int a2, .int a3, .int a4, .int a5, .int a6, .int x9, .int (a8 + 1), .null, .null, .null] rfl rfl rfl rfl ?_
        refine n_go rfl ?_
        exact r79 a1 a2 a3 a4 a5 a6 x9 (a8 + 1) sa3 sk4 sf5 sc6 sz7 h
theorem kl_132_79_39 {d d0 : Nat} (hd : d = d0 + 4) (hc : ∀ p ∈ s_w132, CTR (yex d) p.1 p.2)  {a1 : Int32} {a2 : Int32} {a3 : Int32} {a4 : Int32} {a5 : Int32} {a6 : Int32} {a7 : Int32} {a8 : Int32} {sa : Int32} {sk : Int32} {sf : Int32} {sc : Int32} {sz : Int32} {Q : Option Value → sW → Prop}  (h : wl_132_79 (fun k => Tt d wgL (wk_132 39 k) (wk_132 39 k)) 39  a1 a2 a3 a4 a5 a6 a7 a8 sa sk sf sc sz Q) : Rn d wgL (((84, 5), 39, [(83, 1, 39), (83, 2, 40), (75, 0, 39), (75, 1, 57), (75, 2, 61)]) : wW) (((84, 5), 39, [(83, 1, 39), (83, 2, 40), (75, 0, 39), (75, 1, 57), (75, 2, 61)]) : wW) xL_10 9 (some .int) xE_132 (xE_132.drop 79) [.ref 83, .int a1, .int a2, .int a3, .int a4, .int a5, .int a6, .int a7, .int a8, .null, .null, .null] [] (sa, sk, sf, sc, sz) Q := by
  obtain ⟨I, μ, h0, h1⟩ := h
  have key : ∀ (n : Nat) (a1 : Int32) (a2 : Int32) (a3 : Int32) (a4 : Int32) (a5 : Int32) (a6 : Int32) (a7 : Int32) (a8 : Int32) (sa : Int32) (sk : Int32) (sf : Int32) (sc : Int32) (sz : Int32), μ a1 a2 a3 a4 a5 a6 a7 a8 sa sk sf sc sz = n → I a1 a2 a3 a4 a5 a6 a7 a8 sa sk sf sc sz → Rn d wgL (((84, 5), 39, [(83, 1, 39), (83, 2, 40), (75, 0, 39), (75, 1, 57), (75, 2, 61)]) : wW) (((84, 5), 39, [(83, 1, 39), (83, 2, 40), (75, 0, 39), (75, 1, 57), (75, 2, 61)]) : wW) xL_10 9 (some .int) xE_132 (xE_132.drop 79) [.ref 83, .int a1, .int a2, .int a3, .int a4, .int a5, .int a6, .int a7, .int a8, .null, .null, .null] [] (sa, sk, sf, sc, sz) Q := by
    intro n
    induction n using Nat.strongRecOn with
    | ind n ih =>
      intro a1 a2 a3 a4 a5 a6 a7 a8 sa sk sf sc sz e hI
      exact k_132_79_39 hd hc (fun a1' a2' a3' a4' a5' a6' a7' a8' sa' sk' sf' sc' sz' q => ih _ (by rw [← e]; exact q.2) a1' a2' a3' a4' a5' a6' a7' a8' sa' sk' sf' sc' sz' rfl q.1) (h1 a1 a2 a3 a4 a5 a6 a7 a8 sa sk sf sc sz hI)
  exact key _ a1 a2 a3 a4 a5 a6 a7 a8 sa sk sf sc sz rfl h0
set_option maxRecDepth 20000 in
theorem k_132_49_39 {d d0 : Nat} (hd : d = d0 + 4) (hc : ∀ p ∈ s_w132, CTR (yex d) p.1 p.2)  {a1 : Int32} {a2 : Int32} {a3 : Int32} {a4 : Int32} {a5 : Int32} {sa : Int32} {sk : Int32} {sf : Int32} {sc : Int32} {sz : Int32} {Q : Option Value → sW → Prop}  (h : w_132_49 (fun k => Tt d wgL (wk_132 39 k) (wk_132 39 k)) 39  a1 a2 a3 a4 a5 sa sk sf sc sz Q) : Rn d wgL (((84, 5), 39, [(83, 1, 39), (83, 2, 40), (75, 0, 39), (75, 1, 57), (75, 2, 61)]) : wW) (((84, 5), 39, [(83, 1, 39), (83, 2, 40), (75, 0, 39), (75, 1, 57), (75, 2, 61)]) : wW) xL_10 9 (some .int) xE_132 (xE_132.drop 49) [.ref 83, .int a1, .int a2, .int a3, .int a4, .int a5, .null, .null, .null, .null, .null, .null] [] (sa, sk, sf, sc, sz) Q := by
  unfold w_132_49 at h
  refine n_ld rfl rfl rfl ?_
  refine n_get (v := .ref 39) rfl (hv_C (a := 83) (n := 0) rfl rfl rfl) ?_
  refine n_get (v := .int sk) rfl (hv_f (a := 39) rfl rfl (fun _ _ hw => hw.1.2.1)) ?_
  refine n_st [.ref 83, .int a1, .int a2, .int a3, .int a4, .int a5, .int sk, .null, .null, .null, .null, .null] rfl rfl rfl ?_
  refine n_ld rfl rfl rfl ?_
  refine n_get (v := .ref 39) rfl (hv_C (a := 83) (n := 0) rfl rfl rfl) ?_
  refine n_get (v := .ref 57) rfl (hv_R (a := 39) rfl rfl) ?_
  refine n_ld rfl rfl rfl ?_
  refine n_ld rfl rfl rfl ?_
  refine n_ctr [.ref 57, .int sk, .int a3] [] rfl rfl rfl (hc (77, q_77) (List.mem_of_getElem? (i := 0) rfl)) ⟨⟨_, rfl, cmem_ok rfl⟩, vK_int _, vK_int _, trivial⟩ rfl rfl (fun vq sq hv hk => ?_)
  obtain ⟨sa1, sk2, sf3, sc4, sz5⟩ := sq
  obtain ⟨k1, k2, k3, k4, k5, k6, k7⟩ := hk
  obtain rfl : sa = sa1 := (k1 (wmem_no rfl)).symm
  obtain rfl : sk = sk2 := (k2).symm
  obtain rfl : sf = sf3 := (k3 (wmem_no rfl)).symm
  obtain rfl : sc = sc4 := (k5 (wmem_no rfl)).symm
  obtain rfl : sz = sz5 := (k6 (wmem_no rfl)).symm
  cases (show vq = none from hv)
  change Rn _ _ _ _ _ _ _ _ _ _ [] _ _
  refine n_ld rfl rfl rfl ?_
  refine n_get (v := .ref 39) rfl (hv_C (a := 83) (n := 0) rfl rfl rfl) ?_
  refine n_get (v := .ref 59) rfl (hv_R (a := 39) rfl rfl) ?_
  refine n_ld rfl rfl rfl ?_
  refine n_c [.int 18738, .int sk, .ref 59] (xo_push (.int 18738)) rfl rfl ?_
  replace h := h _ (i_sub (x := sk) (y := 18738) rfl (show (18738 : Int32).toInt = 18738 by decide))
  refine n_c [.int (sk - 18738), .ref 59] xo_isub rfl rfl ?_
  refine n_ld rfl rfl rfl ?_
  refine n_ctr [.ref 59, .int (sk - 18738), .int a1] [] rfl rfl rfl (hc (77, q_77) (List.mem_of_getElem? (i := 0) rfl)) ⟨⟨_, rfl, cmem_ok rfl⟩, vK_int _, vK_int _, trivial⟩ rfl rfl (fun vq sq hv hk => ?_)
  obtain ⟨sa7, sk8, sf9, sc10, sz11⟩ := sq
  obtain ⟨k1, k2, k3, k4, k5, k6, k7⟩ := hk
  obtain rfl : sa = sa7 := (k1 (wmem_no rfl)).symm
  obtain rfl : sk = sk8 := (k2).symm
  obtain rfl : sf = sf9 := (k3 (wmem_no rfl)).symm
  obtain rfl : sc = sc10 := (k5 (wmem_no rfl)).symm
  obtain rfl : sz = sz11 := (k6 (wmem_no rfl)).symm
  cases (show vq = none from hv)
  change Rn _ _ _ _ _ _ _ _ _ _ [] _ _
  refine n_ld rfl rfl rfl ?_
  refine n_get (v := .ref 39) rfl (hv_C (a := 83) (n := 0) rfl rfl rfl) ?_
  refine n_ld rfl rfl rfl ?_
  refine n_c [.int 1, .int sk, .ref 39] (xo_push (.int 1)) rfl rfl ?_
  replace h := h _ (i_add (x := sk) (y := 1) rfl (show (1 : Int32).toInt = 1 by decide))
  refine n_c [.int (sk + 1), .ref 39] xo_iadd rfl rfl ?_
  refine n_put (a := 39) (w1 := (((84, 5), 39, [(83, 1, 39), (83, 2, 40), (75, 0, 39), (75, 1, 57), (75, 2, 61)]) : wW)) (s1 := (sa, (sk + 1), sf, sc, sz)) rfl rfl rfl rfl ⟨_, rfl, h.1.1, h.1.2⟩ rfl rfl rfl (Or.inr (Or.inl (by decide +kernel))) (ws_kp (w := (((84, 5), 39, [(83, 1, 39), (83, 2, 40), (75, 0, 39), (75, 1, 57), (75, 2, 61)]) : wW)) (s := (sa, sk, sf, sc, sz)) rfl) ?_
  replace h := h.2
  refine n_ld rfl rfl rfl ?_
  refine n_c [.int 1, .int a1] (xo_push (.int 1)) rfl rfl ?_
  replace h := h _ (i_add (x := a1) (y := 1) rfl (show (1 : Int32).toInt = 1 by decide))
  refine n_c [.int (a1 + 1)] xo_iadd rfl rfl ?_
  refine n_st [.ref 83, .int a1, .int a2, .int a3, .int a4, .int a5, .int sk, .int (a1 + 1), .null, .null, .null, .null] rfl rfl rfl ?_
  refine n_c [.int 0] (xo_push (.int 0)) rfl rfl ?_
  refine n_st [.ref 83, .int a1, .int a2, .int a3, .int a4, .int a5, .int sk, .int (a1 + 1), .int 0, .null, .null, .null] rfl rfl rfl ?_
  exact kl_132_79_39 hd hc  h
set_option maxRecDepth 20000 in
theorem k_132_28_39 {d d0 : Nat} (hd : d = d0 + 4) (hc : ∀ p ∈ s_w132, CTR (yex d) p.1 p.2)  {a1 : Int32} {a2 : Int32} {a3 : Int32} {a4 : Int32} {t0 : Int32} {sa : Int32} {sk : Int32} {sf : Int32} {sc : Int32} {sz : Int32} {Q : Option Value → sW → Prop}  (h : w_132_28 (fun k => Tt d wgL (wk_132 39 k) (wk_132 39 k)) 39  a1 a2 a3 a4 t0 sa sk sf sc sz Q) : Rn d wgL (((84, 5), 39, [(83, 1, 39), (83, 2, 40), (75, 0, 39), (75, 1, 57), (75, 2, 61)]) : wW) (((84, 5), 39, [(83, 1, 39), (83, 2, 40), (75, 0, 39), (75, 1, 57), (75, 2, 61)]) : wW) xL_10 9 (some .int) xE_132 (xE_132.drop 28) [.ref 83, .int a1, .int a2, .int a3, .int a4, .null, .null, .null, .null, .null, .null, .null] [.int t0] (sa, sk, sf, sc, sz) Q := by
  unfold w_132_28 at h
  refine n_st [.ref 83, .int a1, .int a2, .int a3, .int a4, .int t0, .null, .null, .null, .null, .null, .null] rfl rfl rfl ?_
  refine n_ld rfl rfl rfl ?_
  refine n_brP rfl rfl ⟨fun hcn => ?_, fun hcn => ?_⟩
  · replace h := h.1 ((i_le (x := 0) (y := a3) (show (0 : Int32).toInt = 0 by decide) rfl).mp hcn)
    refine n_ld rfl rfl rfl ?_
    refine n_ld rfl rfl rfl ?_
    refine n_get (v := .ref 39) rfl (hv_C (a := 83) (n := 0) rfl rfl rfl) ?_
    refine n_get (v := .ref 61) rfl (hv_R (a := 39) rfl rfl) ?_
    refine n_ld rfl rfl rfl ?_
    refine n_row a3 [.int t0] (a := 61) hd rfl rfl rfl rfl (fun x1 g1 g2 g3 => ?_)
    replace h := h x1 g1
    refine n_brP rfl rfl ⟨fun hcn => ?_, fun hcn => ?_⟩
    · replace h := h.1 ((i_eq (x := t0) (y := x1) rfl rfl).mp hcn)
      exact k_132_49_39 hd hc  h
    · replace h := h.2 (fun q => hcn ((i_eq (x := t0) (y := x1) rfl rfl).mpr q))
      refine n_ld rfl rfl rfl ?_
      refine n_get (v := .ref 39) rfl (hv_C (a := 83) (n := 0) rfl rfl rfl) ?_
      refine n_c [.int 4, .ref 39] (xo_push (.int 4)) rfl rfl ?_
      refine n_ld rfl rfl rfl ?_
      refine n_tt [.ref 39, .int 4, .int a1] [] rfl rfl rfl rfl (Tt.imp h (fun v7 sq h => ?_))
      obtain ⟨sa2, sk3, sf4, sc5, sz6⟩ := sq
      obtain ⟨rfl, h⟩ := h
      change Rn _ _ _ _ _ _ _ _ _ _ [] _ _
      exact k_132_49_39 hd hc  h
  · replace h := h.2 (fun q => hcn ((i_le (x := 0) (y := a3) (show (0 : Int32).toInt = 0 by decide) rfl).mpr q))
    refine n_ld rfl rfl rfl ?_
    refine n_get (v := .ref 39) rfl (hv_C (a := 83) (n := 0) rfl rfl rfl) ?_
    refine n_c [.int 2, .ref 39] (xo_push (.int 2)) rfl rfl ?_
    refine n_ld rfl rfl rfl ?_
    refine n_tt [.ref 39, .int 2, .int a1] [] rfl rfl rfl rfl (Tt.imp h (fun v13 sq h => ?_))
    obtain ⟨sa8, sk9, sf10, sc11, sz12⟩ := sq
    obtain ⟨rfl, h⟩ := h
    change Rn _ _ _ _ _ _ _ _ _ _ [] _ _
    refine n_go rfl ?_
    exact k_132_49_39 hd hc  h
set_option maxRecDepth 20000 in
theorem k_132_16_39 {d d0 : Nat} (hd : d = d0 + 4) (hc : ∀ p ∈ s_w132, CTR (yex d) p.1 p.2)  {a1 : Int32} {a2 : Int32} {a3 : Int32} {t0 : Int32} {sa : Int32} {sk : Int32} {sf : Int32} {sc : Int32} {sz : Int32} {Q : Option Value → sW → Prop}  (h : w_132_16 (fun k => Tt d wgL (wk_132 39 k) (wk_132 39 k)) 39  a1 a2 a3 t0 sa sk sf sc sz Q) : Rn d wgL (((84, 5), 39, [(83, 1, 39), (83, 2, 40), (75, 0, 39), (75, 1, 57), (75, 2, 61)]) : wW) (((84, 5), 39, [(83, 1, 39), (83, 2, 40), (75, 0, 39), (75, 1, 57), (75, 2, 61)]) : wW) xL_10 9 (some .int) xE_132 (xE_132.drop 16) [.ref 83, .int a1, .int a2, .int a3, .null, .null, .null, .null, .null, .null, .null, .null] [.int t0] (sa, sk, sf, sc, sz) Q := by
  unfold w_132_16 at h
  refine n_st [.ref 83, .int a1, .int a2, .int a3, .int t0, .null, .null, .null, .null, .null, .null, .null] rfl rfl rfl ?_
  refine n_ld rfl rfl rfl ?_
  refine n_brP rfl rfl ⟨fun hcn => ?_, fun hcn => ?_⟩
  · replace h := h.1 ((i_eq (x := t0) (y := 0) rfl (show (0 : Int32).toInt = 0 by decide)).mp hcn)
    refine n_c [.int 0] (xo_push (.int 0)) rfl rfl ?_
    exact k_132_28_39 hd hc  h
  · replace h := h.2 (fun q => hcn ((i_eq (x := t0) (y := 0) rfl (show (0 : Int32).toInt = 0 by decide)).mpr q))
    refine n_ld rfl rfl rfl ?_
    refine n_get (v := .ref 40) rfl (hv_C (a := 83) (n := 1) rfl rfl rfl) ?_
    refine n_get (v := .ref 51) rfl (hv_R (a := 40) rfl rfl) ?_
    refine n_ld rfl rfl rfl ?_
    refine n_c [.int 1, .int a1, .ref 51] (xo_push (.int 1)) rfl rfl ?_
    replace h := h _ (i_add (x := a1) (y := 1) rfl (show (1 : Int32).toInt = 1 by decide))
    refine n_c [.int (a1 + 1), .ref 51] xo_iadd rfl rfl ?_
    refine n_row (a1 + 1) [] (a := 51) hd rfl rfl rfl rfl (fun x2 g1 g2 g3 => ?_)
    replace h := h x2 
    refine n_go rfl ?_
    exact k_132_28_39 hd hc  h
set_option maxRecDepth 20000 in
theorem k_132_0_39 {d d0 : Nat} (hd : d = d0 + 4) (hc : ∀ p ∈ s_w132, CTR (yex d) p.1 p.2)  {a1 : Int32} {a2 : Int32} {sa : Int32} {sk : Int32} {sf : Int32} {sc : Int32} {sz : Int32} {Q : Option Value → sW → Prop}  (h : w_132_0 (fun k => Tt d wgL (wk_132 39 k) (wk_132 39 k)) 39  a1 a2 sa sk sf sc sz Q) : Rn d wgL (((84, 5), 39, [(83, 1, 39), (83, 2, 40), (75, 0, 39), (75, 1, 57), (75, 2, 61)]) : wW) (((84, 5), 39, [(83, 1, 39), (83, 2, 40), (75, 0, 39), (75, 1, 57), (75, 2, 61)]) : wW) xL_10 9 (some .int) xE_132 (xE_132.drop 0) [.ref 83, .int a1, .int a2, .null, .null, .null, .null, .null, .null, .null, .null, .null] [] (sa, sk, sf, sc, sz) Q := by
  unfold w_132_0 at h
  refine n_ld rfl rfl rfl ?_
  refine n_ld rfl rfl rfl ?_
  refine n_ctr [.ref 83, .int a1] [] rfl rfl rfl (hc (133, q_133) (List.mem_of_getElem? (i := 1) rfl)) ⟨⟨_, rfl, cmem_ok rfl⟩, vK_int _, trivial⟩ rfl rfl (fun vq sq hv hk => ?_)
  obtain ⟨sa1, sk2, sf3, sc4, sz5⟩ := sq
  obtain ⟨k1, k2, k3, k4, k5, k6, k7⟩ := hk
  obtain rfl : sa = sa1 := (k1 (wmem_no rfl)).symm
  obtain rfl : sk = sk2 := (k2).symm
  obtain rfl : sf = sf3 := (k3 (wmem_no rfl)).symm
  obtain rfl : sc = sc4 := (k5 (wmem_no rfl)).symm
  obtain rfl : sz = sz5 := (k6 (wmem_no rfl)).symm
  obtain ⟨vr, rfl, x6, rfl, hl, hu⟩ := hv
  replace h := h x6
  change Rn _ _ _ _ _ _ _ _ _ _ [.int x6] _ _
  refine n_st [.ref 83, .int a1, .int a2, .int x6, .null, .null, .null, .null, .null, .null, .null, .null] rfl rfl rfl ?_
  refine n_ld rfl rfl rfl ?_
  refine n_get (v := .ref 40) rfl (hv_C (a := 83) (n := 1) rfl rfl rfl) ?_
  refine n_get (v := .ref 43) rfl (hv_R (a := 40) rfl rfl) ?_
  refine n_ld rfl rfl rfl ?_
  refine n_c [.int 1, .int a1, .ref 43] (xo_push (.int 1)) rfl rfl ?_
  replace h := h _ (i_add (x := a1) (y := 1) rfl (show (1 : Int32).toInt = 1 by decide))
  refine n_c [.int (a1 + 1), .ref 43] xo_iadd rfl rfl ?_
  refine n_row (a1 + 1) [] (a := 43) hd rfl rfl rfl rfl (fun x8 g1 g2 g3 => ?_)
  replace h := h x8 g2
  refine n_c [.int 91, .int x8] (xo_push (.int 91)) rfl rfl ?_
  refine n_brN rfl rfl ⟨fun hcn => ?_, fun hcn => ?_⟩
  · replace h := h.1 (fun q => hcn ((i_eq (x := x8) (y := 91) rfl (show (91 : Int32).toInt = 91 by decide)).mpr q))
    refine n_c [.int 0] (xo_push (.int 0)) rfl rfl ?_
    exact k_132_16_39 hd hc  h
  · replace h := h.2 ((i_eq (x := x8) (y := 91) rfl (show (91 : Int32).toInt = 91 by decide)).mp hcn)
    refine n_c [.int 1] (xo_push (.int 1)) rfl rfl ?_
    refine n_go rfl ?_
    exact k_132_16_39 hd hc  h
theorem t_132_39 {d : Nat} (hc : ∀ p ∈ s_w132, CTR (yex (d + 4)) p.1 p.2) {a1 : Int32} {a2 : Int32} {sa : Int32} {sk : Int32} {sf : Int32} {sc : Int32} {sz : Int32} {Q : Option Value → sW → Prop} (h : w_132_0 (fun k => Tt (d + 4) wgL (wk_132 39 k) (wk_132 39 k)) 39 a1 a2 sa sk sf sc sz Q) : Tt (d + 5) wgL (((84, 5), 39, [(83, 1, 39), (83, 2, 40), (75, 0, 39), (75, 1, 57), (75, 2, 61)]) : wW) (((84, 5), 39, [(83, 1, 39), (83, 2, 40), (75, 0, 39), (75, 1, 57), (75, 2, 61)]) : wW) 132 [.ref 83, .int a1, .int a2] (sa, sk, sf, sc, sz) Q := tt_of (E := xE_132) (L := xL_10) (ml := 9) (ret := some .int) rfl rfl rfl (k_132_0_39 rfl hc h)
set_option maxRecDepth 20000 in
theorem k_132_119_3a {d d0 : Nat} (hd : d = d0 + 4) (hc : ∀ p ∈ s_w132, CTR (yex d) p.1 p.2)  {a1 : Int32} {a2 : Int32} {a3 : Int32} {a4 : Int32} {a5 : Int32} {a6 : Int32} {a7 : Int32} {a8 : Int32} {t0 : Int32} {sa : Int32} {sk : Int32} {sf : Int32} {sc : Int32} {sz : Int32} {Q : Option Value → sW → Prop}  (h : w_132_119 (fun k => Tt d wgL (wk_132a 3 k) (wk_132a 3 k)) 3  a1 a2 a3 a4 a5 a6 a7 a8 t0 sa sk sf sc sz Q) : Rn d wgL (((84, 5), 3, [(83, 1, 3), (83, 2, 86), (75, 0, 3), (75, 1, 21), (75, 2, 25)]) : wW) (((84, 5), 3, [(83, 1, 3), (83, 2, 86), (75, 0, 3), (75, 1, 21), (75, 2, 25)]) : wW) xL_10 9 (some .int) xE_132 (xE_132.drop 119) [.ref 83, .int a1, .int a2, .int a3, .int a4, .int a5, .int a6, .int a7, .int a8, .null, .null, .null] [.int t0] (sa, sk, sf, sc, sz) Q := by
  unfold w_132_119 at h
  exact n_retI rfl h
set_option maxRecDepth 20000 in
theorem k_132_112_3a {d d0 : Nat} (hd : d = d0 + 4) (hc : ∀ p ∈ s_w132, CTR (yex d) p.1 p.2)  {a1 : Int32} {a2 : Int32} {a3 : Int32} {a4 : Int32} {a5 : Int32} {a6 : Int32} {a7 : Int32} {a8 : Int32} {sa : Int32} {sk : Int32} {sf : Int32} {sc : Int32} {sz : Int32} {Q : Option Value → sW → Prop}  (h : w_132_112 (fun k => Tt d wgL (wk_132a 3 k) (wk_132a 3 k)) 3  a1 a2 a3 a4 a5 a6 a7 a8 sa sk sf sc sz Q) : Rn d wgL (((84, 5), 3, [(83, 1, 3), (83, 2, 86), (75, 0, 3), (75, 1, 21), (75, 2, 25)]) : wW) (((84, 5), 3, [(83, 1, 3), (83, 2, 86), (75, 0, 3), (75, 1, 21), (75, 2, 25)]) : wW) xL_10 9 (some .int) xE_132 (xE_132.drop 112) [.ref 83, .int a1, .int a2, .int a3, .int a4, .int a5, .int a6, .int a7, .int a8, .null, .null, .null] [] (sa, sk, sf, sc, sz) Q := by
  unfold w_132_112 at h
  refine n_ld rfl rfl rfl ?_
  refine n_brP rfl rfl ⟨fun hcn => ?_, fun hcn => ?_⟩
  · replace h := h.1 ((i_eq (x := a4) (y := 0) rfl (show (0 : Int32).toInt = 0 by decide)).mp hcn)
    refine n_ld rfl rfl rfl ?_
    exact k_132_119_3a hd hc  h
  · replace h := h.2 (fun q => hcn ((i_eq (x := a4) (y := 0) rfl (show (0 : Int32).toInt = 0 by decide)).mpr q))
    refine n_ld rfl rfl rfl ?_
    refine n_c [.int 1, .int a7] (xo_push (.int 1)) rfl rfl ?_
    replace h := h _ (i_add (x := a7) (y := 1) rfl (show (1 : Int32).toInt = 1 by decide))
    refine n_c [.int (a7 + 1)] xo_iadd rfl rfl ?_
    refine n_go rfl ?_
    exact k_132_119_3a hd hc  h
set_option maxRecDepth 20000 in
theorem k_132_100_3a {d d0 : Nat} (hd : d = d0 + 4) (hc : ∀ p ∈ s_w132, CTR (yex d) p.1 p.2)  {a1 : Int32} {a2 : Int32} {a3 : Int32} {a4 : Int32} {a5 : Int32} {a6 : Int32} {a7 : Int32} {a8 : Int32} {sa : Int32} {sk : Int32} {sf : Int32} {sc : Int32} {sz : Int32} {Q : Option Value → sW → Prop}  (h : w_132_100 (fun k => Tt d wgL (wk_132a 3 k) (wk_132a 3 k)) 3  a1 a2 a3 a4 a5 a6 a7 a8 sa sk sf sc sz Q) : Rn d wgL (((84, 5), 3, [(83, 1, 3), (83, 2, 86), (75, 0, 3), (75, 1, 21), (75, 2, 25)]) : wW) (((84, 5), 3, [(83, 1, 3), (83, 2, 86), (75, 0, 3), (75, 1, 21), (75, 2, 25)]) : wW) xL_10 9 (some .int) xE_132 (xE_132.drop 100) [.ref 83, .int a1, .int a2, .int a3, .int a4, .int a5, .int a6, .int a7, .int a8, .null, .null, .null] [] (sa, sk, sf, sc, sz) Q := by
  unfold w_132_100 at h
  refine n_ld rfl rfl rfl ?_
  refine n_get (v := .ref 3) rfl (hv_C (a := 83) (n := 0) rfl rfl rfl) ?_
  refine n_get (v := .int sk) rfl (hv_f (a := 3) rfl rfl (fun _ _ hw => hw.1.2.1)) ?_
  refine n_ld rfl rfl rfl ?_
  replace h := h _ (i_sub (x := sk) (y := a6) rfl rfl)
  refine n_c [.int (sk - a6)] xo_isub rfl rfl ?_
  refine n_c [.int 60, .int (sk - a6)] (xo_push (.int 60)) rfl rfl ?_
  refine n_brP rfl rfl ⟨fun hcn => ?_, fun hcn => ?_⟩
  · replace h := h.1 ((i_le (x := (sk - a6)) (y := 60) rfl (show (60 : Int32).toInt = 60 by decide)).mp hcn)
    exact k_132_112_3a hd hc  h
  · replace h := h.2 (fun q => hcn ((i_le (x := (sk - a6)) (y := 60) rfl (show (60 : Int32).toInt = 60 by decide)).mpr q))
    refine n_ld rfl rfl rfl ?_
    refine n_get (v := .ref 3) rfl (hv_C (a := 83) (n := 0) rfl rfl rfl) ?_
    refine n_c [.int 9, .ref 3] (xo_push (.int 9)) rfl rfl ?_
    refine n_ld rfl rfl rfl ?_
    refine n_tt [.ref 3, .int 9, .int a1] [] rfl rfl rfl rfl (Tt.imp h (fun v7 sq h => ?_))
    obtain ⟨sa2, sk3, sf4, sc5, sz6⟩ := sq
    obtain ⟨rfl, h⟩ := h
    change Rn _ _ _ _ _ _ _ _ _ _ [] _ _
    exact k_132_112_3a hd hc  h
set_option maxRecDepth 20000 in
theorem k_132_79_3a {d d0 : Nat} (hd : d = d0 + 4) (hc : ∀ p ∈ s_w132, CTR (yex d) p.1 p.2) {R79 : Int32 → Int32 → Int32 → Int32 → Int32 → Int32 → Int32 → Int32 → Int32 → Int32 → Int32 → Int32 → Int32 → Prop} {a1 : Int32} {a2 : Int32} {a3 : Int32} {a4 : Int32} {a5 : Int32} {a6 : Int32} {a7 : Int32} {a8 : Int32} {sa : Int32} {sk : Int32} {sf : Int32} {sc : Int32} {sz : Int32} {Q : Option Value → sW → Prop} (r79 : ∀ a1 a2 a3 a4 a5 a6 a7 a8 sa sk sf sc sz, R79 a1 a2 a3 a4 a5 a6 a7 a8 sa sk sf sc sz → Rn d wgL (((84, 5), 3, [(83, 1, 3), (83, 2, 86), (75, 0, 3), (75, 1, 21), (75, 2, 25)]) : wW) (((84, 5), 3, [(83, 1, 3), (83, 2, 86), (75, 0, 3), (75, 1, 21), (75, 2, 25)]) : wW) xL_10 9 (some .int) xE_132 (xE_132.drop 79) [.ref 83, .int a1, .int a2, .int a3, .int a4, .int a5, .int a6, .int a7, .int a8, .null, .null, .null] [] (sa, sk, sf, sc, sz) Q) (h : w_132_79 (fun k => Tt d wgL (wk_132a 3 k) (wk_132a 3 k)) 3 R79 a1 a2 a3 a4 a5 a6 a7 a8 sa sk sf sc sz Q) : Rn d wgL (((84, 5), 3, [(83, 1, 3), (83, 2, 86), (75, 0, 3), (75, 1, 21), (75, 2, 25)]) : wW) (((84, 5), 3, [(83, 1, 3), (83, 2, 86), (75, 0, 3), (75, 1, 21), (75, 2, 25)]) : wW) xL_10 9 (some .int) xE_132 (xE_132.drop 79) [.ref 83, .int a1, .int a2, .int a3, .int a4, .int a5, .int a6, .int a7, .int a8, .null, .null, .null] [] (sa, sk, sf, sc, sz) Q := by
  unfold w_132_79 at h
  refine n_ld rfl rfl rfl ?_
  refine n_ld rfl rfl rfl ?_
  refine n_brP rfl rfl ⟨fun hcn => ?_, fun hcn => ?_⟩
  · replace h := h.1 ((i_le (x := a5) (y := a8) rfl rfl).mp hcn)
    exact k_132_100_3a hd hc  h
  · replace h := h.2 (fun q => hcn ((i_le (x := a5) (y := a8) rfl rfl).mpr q))
    refine n_ld rfl rfl rfl ?_
    refine n_get (v := .ref 3) rfl (hv_C (a := 83) (n := 0) rfl rfl rfl) ?_
    refine n_get (v := .int sf) rfl (hv_f (a := 3) rfl rfl (fun _ _ hw => hw.1.2.2.1)) ?_
    refine n_brN rfl rfl ⟨fun hcn => ?_, fun hcn => ?_⟩
    · replace h := h.1 (fun q => hcn ((i_eq (x := sf) (y := 0) rfl (show (0 : Int32).toInt = 0 by decide)).mpr q))
      exact k_132_100_3a hd hc  h
    · replace h := h.2 ((i_eq (x := sf) (y := 0) rfl (show (0 : Int32).toInt = 0 by decide)).mp hcn)
      refine n_ld rfl rfl rfl ?_
      refine n_c [.int 10, .int a2] (xo_push (.int 10)) rfl rfl ?_
      refine n_brP rfl rfl ⟨fun hcn => ?_, fun hcn => ?_⟩
      · replace h := h.1 ((i_lt (x := 10) (y := a2) (show (10 : Int32).toInt = 10 by decide) rfl).mp hcn)
        exact k_132_100_3a hd hc  h
      · replace h := h.2 (fun q => hcn ((i_lt (x := 10) (y := a2) (show (10 : Int32).toInt = 10 by decide) rfl).mpr q))
        refine n_ld rfl rfl rfl ?_
        refine n_ld rfl rfl rfl ?_
        refine n_c [.int 1, .int a7, .ref 83] (xo_push (.int 1)) rfl rfl ?_
        replace h := h _ (i_add (x := a7) (y := 1) rfl (show (1 : Int32).toInt = 1 by decide))
        refine n_c [.int (a7 + 1), .ref 83] xo_iadd rfl rfl ?_
        refine n_ld rfl rfl rfl ?_
        refine n_c [.int 1, .int a2, .int (a7 + 1), .ref 83] (xo_push (.int 1)) rfl rfl ?_
        replace h := h _ (i_add (x := a2) (y := 1) rfl (show (1 : Int32).toInt = 1 by decide))
        refine n_c [.int (a2 + 1), .int (a7 + 1), .ref 83] xo_iadd rfl rfl ?_
        refine n_tt [.ref 83, .int (a7 + 1), .int (a2 + 1)] [] rfl rfl rfl rfl (Tt.imp h (fun v8 sq h => ?_))
        obtain ⟨sa3, sk4, sf5, sc6, sz7⟩ := sq
        obtain ⟨x9, rfl, h⟩ := h
        change Rn _ _ _ _ _ _ _ _ _ _ [.int x9] _ _
        refine n_st [.ref 83, .int a1, .int a2, .int a3, .int a4, .int a5, .int a6, .int x9, .int a8, .null, .null, .null] rfl rfl rfl ?_
        replace h := h _ (i_add (x := a8) (y := 1) rfl (show (1 : Int32).toInt = 1 by decide))
        refine n_inc [.ref 83, .int a1, .int a2, .int a3, .int a4, .int a5, .int a6, .int x9, .int (a8 + 1), .null, .null, .null] rfl rfl rfl rfl ?_
        refine n_go rfl ?_
        exact r79 a1 a2 a3 a4 a5 a6 x9 (a8 + 1) sa3 sk4 sf5 sc6 sz7 h
theorem kl_132_79_3a {d d0 : Nat} (hd : d = d0 + 4) (hc : ∀ p ∈ s_w132, CTR (yex d) p.1 p.2)  {a1 : Int32} {a2 : Int32} {a3 : Int32} {a4 : Int32} {a5 : Int32} {a6 : Int32} {a7 : Int32} {a8 : Int32} {sa : Int32} {sk : Int32} {sf : Int32} {sc : Int32} {sz : Int32} {Q : Option Value → sW → Prop}  (h : wl_132_79 (fun k => Tt d wgL (wk_132a 3 k) (wk_132a 3 k)) 3  a1 a2 a3 a4 a5 a6 a7 a8 sa sk sf sc sz Q) : Rn d wgL (((84, 5), 3, [(83, 1, 3), (83, 2, 86), (75, 0, 3), (75, 1, 21), (75, 2, 25)]) : wW) (((84, 5), 3, [(83, 1, 3), (83, 2, 86), (75, 0, 3), (75, 1, 21), (75, 2, 25)]) : wW) xL_10 9 (some .int) xE_132 (xE_132.drop 79) [.ref 83, .int a1, .int a2, .int a3, .int a4, .int a5, .int a6, .int a7, .int a8, .null, .null, .null] [] (sa, sk, sf, sc, sz) Q := by
  obtain ⟨I, μ, h0, h1⟩ := h
  have key : ∀ (n : Nat) (a1 : Int32) (a2 : Int32) (a3 : Int32) (a4 : Int32) (a5 : Int32) (a6 : Int32) (a7 : Int32) (a8 : Int32) (sa : Int32) (sk : Int32) (sf : Int32) (sc : Int32) (sz : Int32), μ a1 a2 a3 a4 a5 a6 a7 a8 sa sk sf sc sz = n → I a1 a2 a3 a4 a5 a6 a7 a8 sa sk sf sc sz → Rn d wgL (((84, 5), 3, [(83, 1, 3), (83, 2, 86), (75, 0, 3), (75, 1, 21), (75, 2, 25)]) : wW) (((84, 5), 3, [(83, 1, 3), (83, 2, 86), (75, 0, 3), (75, 1, 21), (75, 2, 25)]) : wW) xL_10 9 (some .int) xE_132 (xE_132.drop 79) [.ref 83, .int a1, .int a2, .int a3, .int a4, .int a5, .int a6, .int a7, .int a8, .null, .null, .null] [] (sa, sk, sf, sc, sz) Q := by
    intro n
    induction n using Nat.strongRecOn with
    | ind n ih =>
      intro a1 a2 a3 a4 a5 a6 a7 a8 sa sk sf sc sz e hI
      exact k_132_79_3a hd hc (fun a1' a2' a3' a4' a5' a6' a7' a8' sa' sk' sf' sc' sz' q => ih _ (by rw [← e]; exact q.2) a1' a2' a3' a4' a5' a6' a7' a8' sa' sk' sf' sc' sz' rfl q.1) (h1 a1 a2 a3 a4 a5 a6 a7 a8 sa sk sf sc sz hI)
  exact key _ a1 a2 a3 a4 a5 a6 a7 a8 sa sk sf sc sz rfl h0
set_option maxRecDepth 20000 in
theorem k_132_49_3a {d d0 : Nat} (hd : d = d0 + 4) (hc : ∀ p ∈ s_w132, CTR (yex d) p.1 p.2)  {a1 : Int32} {a2 : Int32} {a3 : Int32} {a4 : Int32} {a5 : Int32} {sa : Int32} {sk : Int32} {sf : Int32} {sc : Int32} {sz : Int32} {Q : Option Value → sW → Prop}  (h : w_132_49 (fun k => Tt d wgL (wk_132a 3 k) (wk_132a 3 k)) 3  a1 a2 a3 a4 a5 sa sk sf sc sz Q) : Rn d wgL (((84, 5), 3, [(83, 1, 3), (83, 2, 86), (75, 0, 3), (75, 1, 21), (75, 2, 25)]) : wW) (((84, 5), 3, [(83, 1, 3), (83, 2, 86), (75, 0, 3), (75, 1, 21), (75, 2, 25)]) : wW) xL_10 9 (some .int) xE_132 (xE_132.drop 49) [.ref 83, .int a1, .int a2, .int a3, .int a4, .int a5, .null, .null, .null, .null, .null, .null] [] (sa, sk, sf, sc, sz) Q := by
  unfold w_132_49 at h
  refine n_ld rfl rfl rfl ?_
  refine n_get (v := .ref 3) rfl (hv_C (a := 83) (n := 0) rfl rfl rfl) ?_
  refine n_get (v := .int sk) rfl (hv_f (a := 3) rfl rfl (fun _ _ hw => hw.1.2.1)) ?_
  refine n_st [.ref 83, .int a1, .int a2, .int a3, .int a4, .int a5, .int sk, .null, .null, .null, .null, .null] rfl rfl rfl ?_
  refine n_ld rfl rfl rfl ?_
  refine n_get (v := .ref 3) rfl (hv_C (a := 83) (n := 0) rfl rfl rfl) ?_
  refine n_get (v := .ref 21) rfl (hv_R (a := 3) rfl rfl) ?_
  refine n_ld rfl rfl rfl ?_
  refine n_ld rfl rfl rfl ?_
  refine n_ctr [.ref 21, .int sk, .int a3] [] rfl rfl rfl (hc (77, q_77) (List.mem_of_getElem? (i := 0) rfl)) ⟨⟨_, rfl, cmem_ok rfl⟩, vK_int _, vK_int _, trivial⟩ rfl rfl (fun vq sq hv hk => ?_)
  obtain ⟨sa1, sk2, sf3, sc4, sz5⟩ := sq
  obtain ⟨k1, k2, k3, k4, k5, k6, k7⟩ := hk
  obtain rfl : sa = sa1 := (k1 (wmem_no rfl)).symm
  obtain rfl : sk = sk2 := (k2).symm
  obtain rfl : sf = sf3 := (k3 (wmem_no rfl)).symm
  obtain rfl : sc = sc4 := (k5 (wmem_no rfl)).symm
  obtain rfl : sz = sz5 := (k6 (wmem_no rfl)).symm
  cases (show vq = none from hv)
  change Rn _ _ _ _ _ _ _ _ _ _ [] _ _
  refine n_ld rfl rfl rfl ?_
  refine n_get (v := .ref 3) rfl (hv_C (a := 83) (n := 0) rfl rfl rfl) ?_
  refine n_get (v := .ref 23) rfl (hv_R (a := 3) rfl rfl) ?_
  refine n_ld rfl rfl rfl ?_
  refine n_c [.int 18738, .int sk, .ref 23] (xo_push (.int 18738)) rfl rfl ?_
  replace h := h _ (i_sub (x := sk) (y := 18738) rfl (show (18738 : Int32).toInt = 18738 by decide))
  refine n_c [.int (sk - 18738), .ref 23] xo_isub rfl rfl ?_
  refine n_ld rfl rfl rfl ?_
  refine n_ctr [.ref 23, .int (sk - 18738), .int a1] [] rfl rfl rfl (hc (77, q_77) (List.mem_of_getElem? (i := 0) rfl)) ⟨⟨_, rfl, cmem_ok rfl⟩, vK_int _, vK_int _, trivial⟩ rfl rfl (fun vq sq hv hk => ?_)
  obtain ⟨sa7, sk8, sf9, sc10, sz11⟩ := sq
  obtain ⟨k1, k2, k3, k4, k5, k6, k7⟩ := hk
  obtain rfl : sa = sa7 := (k1 (wmem_no rfl)).symm
  obtain rfl : sk = sk8 := (k2).symm
  obtain rfl : sf = sf9 := (k3 (wmem_no rfl)).symm
  obtain rfl : sc = sc10 := (k5 (wmem_no rfl)).symm
  obtain rfl : sz = sz11 := (k6 (wmem_no rfl)).symm
  cases (show vq = none from hv)
  change Rn _ _ _ _ _ _ _ _ _ _ [] _ _
  refine n_ld rfl rfl rfl ?_
  refine n_get (v := .ref 3) rfl (hv_C (a := 83) (n := 0) rfl rfl rfl) ?_
  refine n_ld rfl rfl rfl ?_
  refine n_c [.int 1, .int sk, .ref 3] (xo_push (.int 1)) rfl rfl ?_
  replace h := h _ (i_add (x := sk) (y := 1) rfl (show (1 : Int32).toInt = 1 by decide))
  refine n_c [.int (sk + 1), .ref 3] xo_iadd rfl rfl ?_
  refine n_put (a := 3) (w1 := (((84, 5), 3, [(83, 1, 3), (83, 2, 86), (75, 0, 3), (75, 1, 21), (75, 2, 25)]) : wW)) (s1 := (sa, (sk + 1), sf, sc, sz)) rfl rfl rfl rfl ⟨_, rfl, h.1.1, h.1.2⟩ rfl rfl rfl (Or.inr (Or.inl (by decide +kernel))) (ws_kp (w := (((84, 5), 3, [(83, 1, 3), (83, 2, 86), (75, 0, 3), (75, 1, 21), (75, 2, 25)]) : wW)) (s := (sa, sk, sf, sc, sz)) rfl) ?_
  replace h := h.2
  refine n_ld rfl rfl rfl ?_
  refine n_c [.int 1, .int a1] (xo_push (.int 1)) rfl rfl ?_
  replace h := h _ (i_add (x := a1) (y := 1) rfl (show (1 : Int32).toInt = 1 by decide))
  refine n_c [.int (a1 + 1)] xo_iadd rfl rfl ?_
  refine n_st [.ref 83, .int a1, .int a2, .int a3, .int a4, .int a5, .int sk, .int (a1 + 1), .null, .null, .null, .null] rfl rfl rfl ?_
  refine n_c [.int 0] (xo_push (.int 0)) rfl rfl ?_
  refine n_st [.ref 83, .int a1, .int a2, .int a3, .int a4, .int a5, .int sk, .int (a1 + 1), .int 0, .null, .null, .null] rfl rfl rfl ?_
  exact kl_132_79_3a hd hc  h
set_option maxRecDepth 20000 in
theorem k_132_28_3a {d d0 : Nat} (hd : d = d0 + 4) (hc : ∀ p ∈ s_w132, CTR (yex d) p.1 p.2)  {a1 : Int32} {a2 : Int32} {a3 : Int32} {a4 : Int32} {t0 : Int32} {sa : Int32} {sk : Int32} {sf : Int32} {sc : Int32} {sz : Int32} {Q : Option Value → sW → Prop}  (h : w_132_28 (fun k => Tt d wgL (wk_132a 3 k) (wk_132a 3 k)) 3  a1 a2 a3 a4 t0 sa sk sf sc sz Q) : Rn d wgL (((84, 5), 3, [(83, 1, 3), (83, 2, 86), (75, 0, 3), (75, 1, 21), (75, 2, 25)]) : wW) (((84, 5), 3, [(83, 1, 3), (83, 2, 86), (75, 0, 3), (75, 1, 21), (75, 2, 25)]) : wW) xL_10 9 (some .int) xE_132 (xE_132.drop 28) [.ref 83, .int a1, .int a2, .int a3, .int a4, .null, .null, .null, .null, .null, .null, .null] [.int t0] (sa, sk, sf, sc, sz) Q := by
  unfold w_132_28 at h
  refine n_st [.ref 83, .int a1, .int a2, .int a3, .int a4, .int t0, .null, .null, .null, .null, .null, .null] rfl rfl rfl ?_
  refine n_ld rfl rfl rfl ?_
  refine n_brP rfl rfl ⟨fun hcn => ?_, fun hcn => ?_⟩
  · replace h := h.1 ((i_le (x := 0) (y := a3) (show (0 : Int32).toInt = 0 by decide) rfl).mp hcn)
    refine n_ld rfl rfl rfl ?_
    refine n_ld rfl rfl rfl ?_
    refine n_get (v := .ref 3) rfl (hv_C (a := 83) (n := 0) rfl rfl rfl) ?_
    refine n_get (v := .ref 25) rfl (hv_R (a := 3) rfl rfl) ?_
    refine n_ld rfl rfl rfl ?_
    refine n_row a3 [.int t0] (a := 25) hd rfl rfl rfl rfl (fun x1 g1 g2 g3 => ?_)
    replace h := h x1 g1
    refine n_brP rfl rfl ⟨fun hcn => ?_, fun hcn => ?_⟩
    · replace h := h.1 ((i_eq (x := t0) (y := x1) rfl rfl).mp hcn)
      exact k_132_49_3a hd hc  h
    · replace h := h.2 (fun q => hcn ((i_eq (x := t0) (y := x1) rfl rfl).mpr q))
      refine n_ld rfl rfl rfl ?_
      refine n_get (v := .ref 3) rfl (hv_C (a := 83) (n := 0) rfl rfl rfl) ?_
      refine n_c [.int 4, .ref 3] (xo_push (.int 4)) rfl rfl ?_
      refine n_ld rfl rfl rfl ?_
      refine n_tt [.ref 3, .int 4, .int a1] [] rfl rfl rfl rfl (Tt.imp h (fun v7 sq h => ?_))
      obtain ⟨sa2, sk3, sf4, sc5, sz6⟩ := sq
      obtain ⟨rfl, h⟩ := h
      change Rn _ _ _ _ _ _ _ _ _ _ [] _ _
      exact k_132_49_3a hd hc  h
  · replace h := h.2 (fun q => hcn ((i_le (x := 0) (y := a3) (show (0 : Int32).toInt = 0 by decide) rfl).mpr q))
    refine n_ld rfl rfl rfl ?_
    refine n_get (v := .ref 3) rfl (hv_C (a := 83) (n := 0) rfl rfl rfl) ?_
    refine n_c [.int 2, .ref 3] (xo_push (.int 2)) rfl rfl ?_
    refine n_ld rfl rfl rfl ?_
    refine n_tt [.ref 3, .int 2, .int a1] [] rfl rfl rfl rfl (Tt.imp h (fun v13 sq h => ?_))
    obtain ⟨sa8, sk9, sf10, sc11, sz12⟩ := sq
    obtain ⟨rfl, h⟩ := h
    change Rn _ _ _ _ _ _ _ _ _ _ [] _ _
    refine n_go rfl ?_
    exact k_132_49_3a hd hc  h
set_option maxRecDepth 20000 in
theorem k_132_16_3a {d d0 : Nat} (hd : d = d0 + 4) (hc : ∀ p ∈ s_w132, CTR (yex d) p.1 p.2)  {a1 : Int32} {a2 : Int32} {a3 : Int32} {t0 : Int32} {sa : Int32} {sk : Int32} {sf : Int32} {sc : Int32} {sz : Int32} {Q : Option Value → sW → Prop}  (h : w_132_16 (fun k => Tt d wgL (wk_132a 3 k) (wk_132a 3 k)) 3  a1 a2 a3 t0 sa sk sf sc sz Q) : Rn d wgL (((84, 5), 3, [(83, 1, 3), (83, 2, 86), (75, 0, 3), (75, 1, 21), (75, 2, 25)]) : wW) (((84, 5), 3, [(83, 1, 3), (83, 2, 86), (75, 0, 3), (75, 1, 21), (75, 2, 25)]) : wW) xL_10 9 (some .int) xE_132 (xE_132.drop 16) [.ref 83, .int a1, .int a2, .int a3, .null, .null, .null, .null, .null, .null, .null, .null] [.int t0] (sa, sk, sf, sc, sz) Q := by
  unfold w_132_16 at h
  refine n_st [.ref 83, .int a1, .int a2, .int a3, .int t0, .null, .null, .null, .null, .null, .null, .null] rfl rfl rfl ?_
  refine n_ld rfl rfl rfl ?_
  refine n_brP rfl rfl ⟨fun hcn => ?_, fun hcn => ?_⟩
  · replace h := h.1 ((i_eq (x := t0) (y := 0) rfl (show (0 : Int32).toInt = 0 by decide)).mp hcn)
    refine n_c [.int 0] (xo_push (.int 0)) rfl rfl ?_
    exact k_132_28_3a hd hc  h
  · replace h := h.2 (fun q => hcn ((i_eq (x := t0) (y := 0) rfl (show (0 : Int32).toInt = 0 by decide)).mpr q))
    refine n_ld rfl rfl rfl ?_
    refine n_get (v := .ref 86) rfl (hv_C (a := 83) (n := 1) rfl rfl rfl) ?_
    refine n_get (v := .ref 97) rfl (hv_R (a := 86) rfl rfl) ?_
    refine n_ld rfl rfl rfl ?_
    refine n_c [.int 1, .int a1, .ref 97] (xo_push (.int 1)) rfl rfl ?_
    replace h := h _ (i_add (x := a1) (y := 1) rfl (show (1 : Int32).toInt = 1 by decide))
    refine n_c [.int (a1 + 1), .ref 97] xo_iadd rfl rfl ?_
    refine n_row (a1 + 1) [] (a := 97) hd rfl rfl rfl rfl (fun x2 g1 g2 g3 => ?_)
    replace h := h x2 
    refine n_go rfl ?_
    exact k_132_28_3a hd hc  h
set_option maxRecDepth 20000 in
theorem k_132_0_3a {d d0 : Nat} (hd : d = d0 + 4) (hc : ∀ p ∈ s_w132, CTR (yex d) p.1 p.2)  {a1 : Int32} {a2 : Int32} {sa : Int32} {sk : Int32} {sf : Int32} {sc : Int32} {sz : Int32} {Q : Option Value → sW → Prop}  (h : w_132_0 (fun k => Tt d wgL (wk_132a 3 k) (wk_132a 3 k)) 3  a1 a2 sa sk sf sc sz Q) : Rn d wgL (((84, 5), 3, [(83, 1, 3), (83, 2, 86), (75, 0, 3), (75, 1, 21), (75, 2, 25)]) : wW) (((84, 5), 3, [(83, 1, 3), (83, 2, 86), (75, 0, 3), (75, 1, 21), (75, 2, 25)]) : wW) xL_10 9 (some .int) xE_132 (xE_132.drop 0) [.ref 83, .int a1, .int a2, .null, .null, .null, .null, .null, .null, .null, .null, .null] [] (sa, sk, sf, sc, sz) Q := by
  unfold w_132_0 at h
  refine n_ld rfl rfl rfl ?_
  refine n_ld rfl rfl rfl ?_
  refine n_ctr [.ref 83, .int a1] [] rfl rfl rfl (hc (133, q_133) (List.mem_of_getElem? (i := 1) rfl)) ⟨⟨_, rfl, cmem_ok rfl⟩, vK_int _, trivial⟩ rfl rfl (fun vq sq hv hk => ?_)
  obtain ⟨sa1, sk2, sf3, sc4, sz5⟩ := sq
  obtain ⟨k1, k2, k3, k4, k5, k6, k7⟩ := hk
  obtain rfl : sa = sa1 := (k1 (wmem_no rfl)).symm
  obtain rfl : sk = sk2 := (k2).symm
  obtain rfl : sf = sf3 := (k3 (wmem_no rfl)).symm
  obtain rfl : sc = sc4 := (k5 (wmem_no rfl)).symm
  obtain rfl : sz = sz5 := (k6 (wmem_no rfl)).symm
  obtain ⟨vr, rfl, x6, rfl, hl, hu⟩ := hv
  replace h := h x6
  change Rn _ _ _ _ _ _ _ _ _ _ [.int x6] _ _
  refine n_st [.ref 83, .int a1, .int a2, .int x6, .null, .null, .null, .null, .null, .null, .null, .null] rfl rfl rfl ?_
  refine n_ld rfl rfl rfl ?_
  refine n_get (v := .ref 86) rfl (hv_C (a := 83) (n := 1) rfl rfl rfl) ?_
  refine n_get (v := .ref 89) rfl (hv_R (a := 86) rfl rfl) ?_
  refine n_ld rfl rfl rfl ?_
  refine n_c [.int 1, .int a1, .ref 89] (xo_push (.int 1)) rfl rfl ?_
  replace h := h _ (i_add (x := a1) (y := 1) rfl (show (1 : Int32).toInt = 1 by decide))
  refine n_c [.int (a1 + 1), .ref 89] xo_iadd rfl rfl ?_
  refine n_row (a1 + 1) [] (a := 89) hd rfl rfl rfl rfl (fun x8 g1 g2 g3 => ?_)
  replace h := h x8 g2
  refine n_c [.int 91, .int x8] (xo_push (.int 91)) rfl rfl ?_
  refine n_brN rfl rfl ⟨fun hcn => ?_, fun hcn => ?_⟩
  · replace h := h.1 (fun q => hcn ((i_eq (x := x8) (y := 91) rfl (show (91 : Int32).toInt = 91 by decide)).mpr q))
    refine n_c [.int 0] (xo_push (.int 0)) rfl rfl ?_
    exact k_132_16_3a hd hc  h
  · replace h := h.2 ((i_eq (x := x8) (y := 91) rfl (show (91 : Int32).toInt = 91 by decide)).mp hcn)
    refine n_c [.int 1] (xo_push (.int 1)) rfl rfl ?_
    refine n_go rfl ?_
    exact k_132_16_3a hd hc  h
theorem t_132_3a {d : Nat} (hc : ∀ p ∈ s_w132, CTR (yex (d + 4)) p.1 p.2) {a1 : Int32} {a2 : Int32} {sa : Int32} {sk : Int32} {sf : Int32} {sc : Int32} {sz : Int32} {Q : Option Value → sW → Prop} (h : w_132_0 (fun k => Tt (d + 4) wgL (wk_132a 3 k) (wk_132a 3 k)) 3 a1 a2 sa sk sf sc sz Q) : Tt (d + 5) wgL (((84, 5), 3, [(83, 1, 3), (83, 2, 86), (75, 0, 3), (75, 1, 21), (75, 2, 25)]) : wW) (((84, 5), 3, [(83, 1, 3), (83, 2, 86), (75, 0, 3), (75, 1, 21), (75, 2, 25)]) : wW) 132 [.ref 83, .int a1, .int a2] (sa, sk, sf, sc, sz) Q := tt_of (E := xE_132) (L := xL_10) (ml := 9) (ret := some .int) rfl rfl rfl (k_132_0_3a rfl hc h)
set_option maxRecDepth 20000 in
theorem k_132_119_39a {d d0 : Nat} (hd : d = d0 + 4) (hc : ∀ p ∈ s_w132, CTR (yex d) p.1 p.2)  {a1 : Int32} {a2 : Int32} {a3 : Int32} {a4 : Int32} {a5 : Int32} {a6 : Int32} {a7 : Int32} {a8 : Int32} {t0 : Int32} {sa : Int32} {sk : Int32} {sf : Int32} {sc : Int32} {sz : Int32} {Q : Option Value → sW → Prop}  (h : w_132_119 (fun k => Tt d wgL (wk_132a 39 k) (wk_132a 39 k)) 39  a1 a2 a3 a4 a5 a6 a7 a8 t0 sa sk sf sc sz Q) : Rn d wgL (((84, 5), 39, [(83, 1, 39), (83, 2, 86), (75, 0, 39), (75, 1, 57), (75, 2, 61)]) : wW) (((84, 5), 39, [(83, 1, 39), (83, 2, 86), (75, 0, 39), (75, 1, 57), (75, 2, 61)]) : wW) xL_10 9 (some .int) xE_132 (xE_132.drop 119) [.ref 83, .int a1, .int a2, .int a3, .int a4, .int a5, .int a6, .int a7, .int a8, .null, .null, .null] [.int t0] (sa, sk, sf, sc, sz) Q := by
  unfold w_132_119 at h
  exact n_retI rfl h
set_option maxRecDepth 20000 in
theorem k_132_112_39a {d d0 : Nat} (hd : d = d0 + 4) (hc : ∀ p ∈ s_w132, CTR (yex d) p.1 p.2)  {a1 : Int32} {a2 : Int32} {a3 : Int32} {a4 : Int32} {a5 : Int32} {a6 : Int32} {a7 : Int32} {a8 : Int32} {sa : Int32} {sk : Int32} {sf : Int32} {sc : Int32} {sz : Int32} {Q : Option Value → sW → Prop}  (h : w_132_112 (fun k => Tt d wgL (wk_132a 39 k) (wk_132a 39 k)) 39  a1 a2 a3 a4 a5 a6 a7 a8 sa sk sf sc sz Q) : Rn d wgL (((84, 5), 39, [(83, 1, 39), (83, 2, 86), (75, 0, 39), (75, 1, 57), (75, 2, 61)]) : wW) (((84, 5), 39, [(83, 1, 39), (83, 2, 86), (75, 0, 39), (75, 1, 57), (75, 2, 61)]) : wW) xL_10 9 (some .int) xE_132 (xE_132.drop 112) [.ref 83, .int a1, .int a2, .int a3, .int a4, .int a5, .int a6, .int a7, .int a8, .null, .null, .null] [] (sa, sk, sf, sc, sz) Q := by
  unfold w_132_112 at h
  refine n_ld rfl rfl rfl ?_
  refine n_brP rfl rfl ⟨fun hcn => ?_, fun hcn => ?_⟩
  · replace h := h.1 ((i_eq (x := a4) (y := 0) rfl (show (0 : Int32).toInt = 0 by decide)).mp hcn)
    refine n_ld rfl rfl rfl ?_
    exact k_132_119_39a hd hc  h
  · replace h := h.2 (fun q => hcn ((i_eq (x := a4) (y := 0) rfl (show (0 : Int32).toInt = 0 by decide)).mpr q))
    refine n_ld rfl rfl rfl ?_
    refine n_c [.int 1, .int a7] (xo_push (.int 1)) rfl rfl ?_
    replace h := h _ (i_add (x := a7) (y := 1) rfl (show (1 : Int32).toInt = 1 by decide))
    refine n_c [.int (a7 + 1)] xo_iadd rfl rfl ?_
    refine n_go rfl ?_
    exact k_132_119_39a hd hc  h
set_option maxRecDepth 20000 in
theorem k_132_100_39a {d d0 : Nat} (hd : d = d0 + 4) (hc : ∀ p ∈ s_w132, CTR (yex d) p.1 p.2)  {a1 : Int32} {a2 : Int32} {a3 : Int32} {a4 : Int32} {a5 : Int32} {a6 : Int32} {a7 : Int32} {a8 : Int32} {sa : Int32} {sk : Int32} {sf : Int32} {sc : Int32} {sz : Int32} {Q : Option Value → sW → Prop}  (h : w_132_100 (fun k => Tt d wgL (wk_132a 39 k) (wk_132a 39 k)) 39  a1 a2 a3 a4 a5 a6 a7 a8 sa sk sf sc sz Q) : Rn d wgL (((84, 5), 39, [(83, 1, 39), (83, 2, 86), (75, 0, 39), (75, 1, 57), (75, 2, 61)]) : wW) (((84, 5), 39, [(83, 1, 39), (83, 2, 86), (75, 0, 39), (75, 1, 57), (75, 2, 61)]) : wW) xL_10 9 (some .int) xE_132 (xE_132.drop 100) [.ref 83, .int a1, .int a2, .int a3, .int a4, .int a5, .int a6, .int a7, .int a8, .null, .null, .null] [] (sa, sk, sf, sc, sz) Q := by
  unfold w_132_100 at h
  refine n_ld rfl rfl rfl ?_
  refine n_get (v := .ref 39) rfl (hv_C (a := 83) (n := 0) rfl rfl rfl) ?_
  refine n_get (v := .int sk) rfl (hv_f (a := 39) rfl rfl (fun _ _ hw => hw.1.2.1)) ?_
  refine n_ld rfl rfl rfl ?_
  replace h := h _ (i_sub (x := sk) (y := a6) rfl rfl)
  refine n_c [.int (sk - a6)] xo_isub rfl rfl ?_
  refine n_c [.int 60, .int (sk - a6)] (xo_push (.int 60)) rfl rfl ?_
  refine n_brP rfl rfl ⟨fun hcn => ?_, fun hcn => ?_⟩
  · replace h := h.1 ((i_le (x := (sk - a6)) (y := 60) rfl (show (60 : Int32).toInt = 60 by decide)).mp hcn)
    exact k_132_112_39a hd hc  h
  · replace h := h.2 (fun q => hcn ((i_le (x := (sk - a6)) (y := 60) rfl (show (60 : Int32).toInt = 60 by decide)).mpr q))
    refine n_ld rfl rfl rfl ?_
    refine n_get (v := .ref 39) rfl (hv_C (a := 83) (n := 0) rfl rfl rfl) ?_
    refine n_c [.int 9, .ref 39] (xo_push (.int 9)) rfl rfl ?_
    refine n_ld rfl rfl rfl ?_
    refine n_tt [.ref 39, .int 9, .int a1] [] rfl rfl rfl rfl (Tt.imp h (fun v7 sq h => ?_))
    obtain ⟨sa2, sk3, sf4, sc5, sz6⟩ := sq
    obtain ⟨rfl, h⟩ := h
    change Rn _ _ _ _ _ _ _ _ _ _ [] _ _
    exact k_132_112_39a hd hc  h
set_option maxRecDepth 20000 in
theorem k_132_79_39a {d d0 : Nat} (hd : d = d0 + 4) (hc : ∀ p ∈ s_w132, CTR (yex d) p.1 p.2) {R79 : Int32 → Int32 → Int32 → Int32 → Int32 → Int32 → Int32 → Int32 → Int32 → Int32 → Int32 → Int32 → Int32 → Prop} {a1 : Int32} {a2 : Int32} {a3 : Int32} {a4 : Int32} {a5 : Int32} {a6 : Int32} {a7 : Int32} {a8 : Int32} {sa : Int32} {sk : Int32} {sf : Int32} {sc : Int32} {sz : Int32} {Q : Option Value → sW → Prop} (r79 : ∀ a1 a2 a3 a4 a5 a6 a7 a8 sa sk sf sc sz, R79 a1 a2 a3 a4 a5 a6 a7 a8 sa sk sf sc sz → Rn d wgL (((84, 5), 39, [(83, 1, 39), (83, 2, 86), (75, 0, 39), (75, 1, 57), (75, 2, 61)]) : wW) (((84, 5), 39, [(83, 1, 39), (83, 2, 86), (75, 0, 39), (75, 1, 57), (75, 2, 61)]) : wW) xL_10 9 (some .int) xE_132 (xE_132.drop 79) [.ref 83, .int a1, .int a2, .int a3, .int a4, .int a5, .int a6, .int a7, .int a8, .null, .null, .null] [] (sa, sk, sf, sc, sz) Q) (h : w_132_79 (fun k => Tt d wgL (wk_132a 39 k) (wk_132a 39 k)) 39 R79 a1 a2 a3 a4 a5 a6 a7 a8 sa sk sf sc sz Q) : Rn d wgL (((84, 5), 39, [(83, 1, 39), (83, 2, 86), (75, 0, 39), (75, 1, 57), (75, 2, 61)]) : wW) (((84, 5), 39, [(83, 1, 39), (83, 2, 86), (75, 0, 39), (75, 1, 57), (75, 2, 61)]) : wW) xL_10 9 (some .int) xE_132 (xE_132.drop 79) [.ref 83, .int a1, .int a2, .int a3, .int a4, .int a5, .int a6, .int a7, .int a8, .null, .null, .null] [] (sa, sk, sf, sc, sz) Q := by
  unfold w_132_79 at h
  refine n_ld rfl rfl rfl ?_
  refine n_ld rfl rfl rfl ?_
  refine n_brP rfl rfl ⟨fun hcn => ?_, fun hcn => ?_⟩
  · replace h := h.1 ((i_le (x := a5) (y := a8) rfl rfl).mp hcn)
    exact k_132_100_39a hd hc  h
  · replace h := h.2 (fun q => hcn ((i_le (x := a5) (y := a8) rfl rfl).mpr q))
    refine n_ld rfl rfl rfl ?_
    refine n_get (v := .ref 39) rfl (hv_C (a := 83) (n := 0) rfl rfl rfl) ?_
    refine n_get (v := .int sf) rfl (hv_f (a := 39) rfl rfl (fun _ _ hw => hw.1.2.2.1)) ?_
    refine n_brN rfl rfl ⟨fun hcn => ?_, fun hcn => ?_⟩
    · replace h := h.1 (fun q => hcn ((i_eq (x := sf) (y := 0) rfl (show (0 : Int32).toInt = 0 by decide)).mpr q))
      exact k_132_100_39a hd hc  h
    · replace h := h.2 ((i_eq (x := sf) (y := 0) rfl (show (0 : Int32).toInt = 0 by decide)).mp hcn)
      refine n_ld rfl rfl rfl ?_
      refine n_c [.int 10, .int a2] (xo_push (.int 10)) rfl rfl ?_
      refine n_brP rfl rfl ⟨fun hcn => ?_, fun hcn => ?_⟩
      · replace h := h.1 ((i_lt (x := 10) (y := a2) (show (10 : Int32).toInt = 10 by decide) rfl).mp hcn)
        exact k_132_100_39a hd hc  h
      · replace h := h.2 (fun q => hcn ((i_lt (x := 10) (y := a2) (show (10 : Int32).toInt = 10 by decide) rfl).mpr q))
        refine n_ld rfl rfl rfl ?_
        refine n_ld rfl rfl rfl ?_
        refine n_c [.int 1, .int a7, .ref 83] (xo_push (.int 1)) rfl rfl ?_
        replace h := h _ (i_add (x := a7) (y := 1) rfl (show (1 : Int32).toInt = 1 by decide))
        refine n_c [.int (a7 + 1), .ref 83] xo_iadd rfl rfl ?_
        refine n_ld rfl rfl rfl ?_
        refine n_c [.int 1, .int a2, .int (a7 + 1), .ref 83] (xo_push (.int 1)) rfl rfl ?_
        replace h := h _ (i_add (x := a2) (y := 1) rfl (show (1 : Int32).toInt = 1 by decide))
        refine n_c [.int (a2 + 1), .int (a7 + 1), .ref 83] xo_iadd rfl rfl ?_
        refine n_tt [.ref 83, .int (a7 + 1), .int (a2 + 1)] [] rfl rfl rfl rfl (Tt.imp h (fun v8 sq h => ?_))
        obtain ⟨sa3, sk4, sf5, sc6, sz7⟩ := sq
        obtain ⟨x9, rfl, h⟩ := h
        change Rn _ _ _ _ _ _ _ _ _ _ [.int x9] _ _
        refine n_st [.ref 83, .int a1, .int a2, .int a3, .int a4, .int a5, .int a6, .int x9, .int a8, .null, .null, .null] rfl rfl rfl ?_
        replace h := h _ (i_add (x := a8) (y := 1) rfl (show (1 : Int32).toInt = 1 by decide))
        refine n_inc [.ref 83, .int a1, .int a2, .int a3, .int a4, .int a5, .int a6, .int x9, .int (a8 + 1), .null, .null, .null] rfl rfl rfl rfl ?_
        refine n_go rfl ?_
        exact r79 a1 a2 a3 a4 a5 a6 x9 (a8 + 1) sa3 sk4 sf5 sc6 sz7 h
theorem kl_132_79_39a {d d0 : Nat} (hd : d = d0 + 4) (hc : ∀ p ∈ s_w132, CTR (yex d) p.1 p.2)  {a1 : Int32} {a2 : Int32} {a3 : Int32} {a4 : Int32} {a5 : Int32} {a6 : Int32} {a7 : Int32} {a8 : Int32} {sa : Int32} {sk : Int32} {sf : Int32} {sc : Int32} {sz : Int32} {Q : Option Value → sW → Prop}  (h : wl_132_79 (fun k => Tt d wgL (wk_132a 39 k) (wk_132a 39 k)) 39  a1 a2 a3 a4 a5 a6 a7 a8 sa sk sf sc sz Q) : Rn d wgL (((84, 5), 39, [(83, 1, 39), (83, 2, 86), (75, 0, 39), (75, 1, 57), (75, 2, 61)]) : wW) (((84, 5), 39, [(83, 1, 39), (83, 2, 86), (75, 0, 39), (75, 1, 57), (75, 2, 61)]) : wW) xL_10 9 (some .int) xE_132 (xE_132.drop 79) [.ref 83, .int a1, .int a2, .int a3, .int a4, .int a5, .int a6, .int a7, .int a8, .null, .null, .null] [] (sa, sk, sf, sc, sz) Q := by
  obtain ⟨I, μ, h0, h1⟩ := h
  have key : ∀ (n : Nat) (a1 : Int32) (a2 : Int32) (a3 : Int32) (a4 : Int32) (a5 : Int32) (a6 : Int32) (a7 : Int32) (a8 : Int32) (sa : Int32) (sk : Int32) (sf : Int32) (sc : Int32) (sz : Int32), μ a1 a2 a3 a4 a5 a6 a7 a8 sa sk sf sc sz = n → I a1 a2 a3 a4 a5 a6 a7 a8 sa sk sf sc sz → Rn d wgL (((84, 5), 39, [(83, 1, 39), (83, 2, 86), (75, 0, 39), (75, 1, 57), (75, 2, 61)]) : wW) (((84, 5), 39, [(83, 1, 39), (83, 2, 86), (75, 0, 39), (75, 1, 57), (75, 2, 61)]) : wW) xL_10 9 (some .int) xE_132 (xE_132.drop 79) [.ref 83, .int a1, .int a2, .int a3, .int a4, .int a5, .int a6, .int a7, .int a8, .null, .null, .null] [] (sa, sk, sf, sc, sz) Q := by
    intro n
    induction n using Nat.strongRecOn with
    | ind n ih =>
      intro a1 a2 a3 a4 a5 a6 a7 a8 sa sk sf sc sz e hI
      exact k_132_79_39a hd hc (fun a1' a2' a3' a4' a5' a6' a7' a8' sa' sk' sf' sc' sz' q => ih _ (by rw [← e]; exact q.2) a1' a2' a3' a4' a5' a6' a7' a8' sa' sk' sf' sc' sz' rfl q.1) (h1 a1 a2 a3 a4 a5 a6 a7 a8 sa sk sf sc sz hI)
  exact key _ a1 a2 a3 a4 a5 a6 a7 a8 sa sk sf sc sz rfl h0
set_option maxRecDepth 20000 in
theorem k_132_49_39a {d d0 : Nat} (hd : d = d0 + 4) (hc : ∀ p ∈ s_w132, CTR (yex d) p.1 p.2)  {a1 : Int32} {a2 : Int32} {a3 : Int32} {a4 : Int32} {a5 : Int32} {sa : Int32} {sk : Int32} {sf : Int32} {sc : Int32} {sz : Int32} {Q : Option Value → sW → Prop}  (h : w_132_49 (fun k => Tt d wgL (wk_132a 39 k) (wk_132a 39 k)) 39  a1 a2 a3 a4 a5 sa sk sf sc sz Q) : Rn d wgL (((84, 5), 39, [(83, 1, 39), (83, 2, 86), (75, 0, 39), (75, 1, 57), (75, 2, 61)]) : wW) (((84, 5), 39, [(83, 1, 39), (83, 2, 86), (75, 0, 39), (75, 1, 57), (75, 2, 61)]) : wW) xL_10 9 (some .int) xE_132 (xE_132.drop 49) [.ref 83, .int a1, .int a2, .int a3, .int a4, .int a5, .null, .null, .null, .null, .null, .null] [] (sa, sk, sf, sc, sz) Q := by
  unfold w_132_49 at h
  refine n_ld rfl rfl rfl ?_
  refine n_get (v := .ref 39) rfl (hv_C (a := 83) (n := 0) rfl rfl rfl) ?_
  refine n_get (v := .int sk) rfl (hv_f (a := 39) rfl rfl (fun _ _ hw => hw.1.2.1)) ?_
  refine n_st [.ref 83, .int a1, .int a2, .int a3, .int a4, .int a5, .int sk, .null, .null, .null, .null, .null] rfl rfl rfl ?_
  refine n_ld rfl rfl rfl ?_
  refine n_get (v := .ref 39) rfl (hv_C (a := 83) (n := 0) rfl rfl rfl) ?_
  refine n_get (v := .ref 57) rfl (hv_R (a := 39) rfl rfl) ?_
  refine n_ld rfl rfl rfl ?_
  refine n_ld rfl rfl rfl ?_
  refine n_ctr [.ref 57, .int sk, .int a3] [] rfl rfl rfl (hc (77, q_77) (List.mem_of_getElem? (i := 0) rfl)) ⟨⟨_, rfl, cmem_ok rfl⟩, vK_int _, vK_int _, trivial⟩ rfl rfl (fun vq sq hv hk => ?_)
  obtain ⟨sa1, sk2, sf3, sc4, sz5⟩ := sq
  obtain ⟨k1, k2, k3, k4, k5, k6, k7⟩ := hk
  obtain rfl : sa = sa1 := (k1 (wmem_no rfl)).symm
  obtain rfl : sk = sk2 := (k2).symm
  obtain rfl : sf = sf3 := (k3 (wmem_no rfl)).symm
  obtain rfl : sc = sc4 := (k5 (wmem_no rfl)).symm
  obtain rfl : sz = sz5 := (k6 (wmem_no rfl)).symm
  cases (show vq = none from hv)
  change Rn _ _ _ _ _ _ _ _ _ _ [] _ _
  refine n_ld rfl rfl rfl ?_
  refine n_get (v := .ref 39) rfl (hv_C (a := 83) (n := 0) rfl rfl rfl) ?_
  refine n_get (v := .ref 59) rfl (hv_R (a := 39) rfl rfl) ?_
  refine n_ld rfl rfl rfl ?_
  refine n_c [.int 18738, .int sk, .ref 59] (xo_push (.int 18738)) rfl rfl ?_
  replace h := h _ (i_sub (x := sk) (y := 18738) rfl (show (18738 : Int32).toInt = 18738 by decide))
  refine n_c [.int (sk - 18738), .ref 59] xo_isub rfl rfl ?_
  refine n_ld rfl rfl rfl ?_
  refine n_ctr [.ref 59, .int (sk - 18738), .int a1] [] rfl rfl rfl (hc (77, q_77) (List.mem_of_getElem? (i := 0) rfl)) ⟨⟨_, rfl, cmem_ok rfl⟩, vK_int _, vK_int _, trivial⟩ rfl rfl (fun vq sq hv hk => ?_)
  obtain ⟨sa7, sk8, sf9, sc10, sz11⟩ := sq
  obtain ⟨k1, k2, k3, k4, k5, k6, k7⟩ := hk
  obtain rfl : sa = sa7 := (k1 (wmem_no rfl)).symm
  obtain rfl : sk = sk8 := (k2).symm
  obtain rfl : sf = sf9 := (k3 (wmem_no rfl)).symm
  obtain rfl : sc = sc10 := (k5 (wmem_no rfl)).symm
  obtain rfl : sz = sz11 := (k6 (wmem_no rfl)).symm
  cases (show vq = none from hv)
  change Rn _ _ _ _ _ _ _ _ _ _ [] _ _
  refine n_ld rfl rfl rfl ?_
  refine n_get (v := .ref 39) rfl (hv_C (a := 83) (n := 0) rfl rfl rfl) ?_
  refine n_ld rfl rfl rfl ?_
  refine n_c [.int 1, .int sk, .ref 39] (xo_push (.int 1)) rfl rfl ?_
  replace h := h _ (i_add (x := sk) (y := 1) rfl (show (1 : Int32).toInt = 1 by decide))
  refine n_c [.int (sk + 1), .ref 39] xo_iadd rfl rfl ?_
  refine n_put (a := 39) (w1 := (((84, 5), 39, [(83, 1, 39), (83, 2, 86), (75, 0, 39), (75, 1, 57), (75, 2, 61)]) : wW)) (s1 := (sa, (sk + 1), sf, sc, sz)) rfl rfl rfl rfl ⟨_, rfl, h.1.1, h.1.2⟩ rfl rfl rfl (Or.inr (Or.inl (by decide +kernel))) (ws_kp (w := (((84, 5), 39, [(83, 1, 39), (83, 2, 86), (75, 0, 39), (75, 1, 57), (75, 2, 61)]) : wW)) (s := (sa, sk, sf, sc, sz)) rfl) ?_
  replace h := h.2
  refine n_ld rfl rfl rfl ?_
  refine n_c [.int 1, .int a1] (xo_push (.int 1)) rfl rfl ?_
  replace h := h _ (i_add (x := a1) (y := 1) rfl (show (1 : Int32).toInt = 1 by decide))
  refine n_c [.int (a1 + 1)] xo_iadd rfl rfl ?_
  refine n_st [.ref 83, .int a1, .int a2, .int a3, .int a4, .int a5, .int sk, .int (a1 + 1), .null, .null, .null, .null] rfl rfl rfl ?_
  refine n_c [.int 0] (xo_push (.int 0)) rfl rfl ?_
  refine n_st [.ref 83, .int a1, .int a2, .int a3, .int a4, .int a5, .int sk, .int (a1 + 1), .int 0, .null, .null, .null] rfl rfl rfl ?_
  exact kl_132_79_39a hd hc  h
set_option maxRecDepth 20000 in
theorem k_132_28_39a {d d0 : Nat} (hd : d = d0 + 4) (hc : ∀ p ∈ s_w132, CTR (yex d) p.1 p.2)  {a1 : Int32} {a2 : Int32} {a3 : Int32} {a4 : Int32} {t0 : Int32} {sa : Int32} {sk : Int32} {sf : Int32} {sc : Int32} {sz : Int32} {Q : Option Value → sW → Prop}  (h : w_132_28 (fun k => Tt d wgL (wk_132a 39 k) (wk_132a 39 k)) 39  a1 a2 a3 a4 t0 sa sk sf sc sz Q) : Rn d wgL (((84, 5), 39, [(83, 1, 39), (83, 2, 86), (75, 0, 39), (75, 1, 57), (75, 2, 61)]) : wW) (((84, 5), 39, [(83, 1, 39), (83, 2, 86), (75, 0, 39), (75, 1, 57), (75, 2, 61)]) : wW) xL_10 9 (some .int) xE_132 (xE_132.drop 28) [.ref 83, .int a1, .int a2, .int a3, .int a4, .null, .null, .null, .null, .null, .null, .null] [.int t0] (sa, sk, sf, sc, sz) Q := by
  unfold w_132_28 at h
  refine n_st [.ref 83, .int a1, .int a2, .int a3, .int a4, .int t0, .null, .null, .null, .null, .null, .null] rfl rfl rfl ?_
  refine n_ld rfl rfl rfl ?_
  refine n_brP rfl rfl ⟨fun hcn => ?_, fun hcn => ?_⟩
  · replace h := h.1 ((i_le (x := 0) (y := a3) (show (0 : Int32).toInt = 0 by decide) rfl).mp hcn)
    refine n_ld rfl rfl rfl ?_
    refine n_ld rfl rfl rfl ?_
    refine n_get (v := .ref 39) rfl (hv_C (a := 83) (n := 0) rfl rfl rfl) ?_
    refine n_get (v := .ref 61) rfl (hv_R (a := 39) rfl rfl) ?_
    refine n_ld rfl rfl rfl ?_
    refine n_row a3 [.int t0] (a := 61) hd rfl rfl rfl rfl (fun x1 g1 g2 g3 => ?_)
    replace h := h x1 g1
    refine n_brP rfl rfl ⟨fun hcn => ?_, fun hcn => ?_⟩
    · replace h := h.1 ((i_eq (x := t0) (y := x1) rfl rfl).mp hcn)
      exact k_132_49_39a hd hc  h
    · replace h := h.2 (fun q => hcn ((i_eq (x := t0) (y := x1) rfl rfl).mpr q))
      refine n_ld rfl rfl rfl ?_
      refine n_get (v := .ref 39) rfl (hv_C (a := 83) (n := 0) rfl rfl rfl) ?_
      refine n_c [.int 4, .ref 39] (xo_push (.int 4)) rfl rfl ?_
      refine n_ld rfl rfl rfl ?_
      refine n_tt [.ref 39, .int 4, .int a1] [] rfl rfl rfl rfl (Tt.imp h (fun v7 sq h => ?_))
      obtain ⟨sa2, sk3, sf4, sc5, sz6⟩ := sq
      obtain ⟨rfl, h⟩ := h
      change Rn _ _ _ _ _ _ _ _ _ _ [] _ _
      exact k_132_49_39a hd hc  h
  · replace h := h.2 (fun q => hcn ((i_le (x := 0) (y := a3) (show (0 : Int32).toInt = 0 by decide) rfl).mpr q))
    refine n_ld rfl rfl rfl ?_
    refine n_get (v := .ref 39) rfl (hv_C (a := 83) (n := 0) rfl rfl rfl) ?_
    refine n_c [.int 2, .ref 39] (xo_push (.int 2)) rfl rfl ?_
    refine n_ld rfl rfl rfl ?_
    refine n_tt [.ref 39, .int 2, .int a1] [] rfl rfl rfl rfl (Tt.imp h (fun v13 sq h => ?_))
    obtain ⟨sa8, sk9, sf10, sc11, sz12⟩ := sq
    obtain ⟨rfl, h⟩ := h
    change Rn _ _ _ _ _ _ _ _ _ _ [] _ _
    refine n_go rfl ?_
    exact k_132_49_39a hd hc  h
set_option maxRecDepth 20000 in
theorem k_132_16_39a {d d0 : Nat} (hd : d = d0 + 4) (hc : ∀ p ∈ s_w132, CTR (yex d) p.1 p.2)  {a1 : Int32} {a2 : Int32} {a3 : Int32} {t0 : Int32} {sa : Int32} {sk : Int32} {sf : Int32} {sc : Int32} {sz : Int32} {Q : Option Value → sW → Prop}  (h : w_132_16 (fun k => Tt d wgL (wk_132a 39 k) (wk_132a 39 k)) 39  a1 a2 a3 t0 sa sk sf sc sz Q) : Rn d wgL (((84, 5), 39, [(83, 1, 39), (83, 2, 86), (75, 0, 39), (75, 1, 57), (75, 2, 61)]) : wW) (((84, 5), 39, [(83, 1, 39), (83, 2, 86), (75, 0, 39), (75, 1, 57), (75, 2, 61)]) : wW) xL_10 9 (some .int) xE_132 (xE_132.drop 16) [.ref 83, .int a1, .int a2, .int a3, .null, .null, .null, .null, .null, .null, .null, .null] [.int t0] (sa, sk, sf, sc, sz) Q := by
  unfold w_132_16 at h
  refine n_st [.ref 83, .int a1, .int a2, .int a3, .int t0, .null, .null, .null, .null, .null, .null, .null] rfl rfl rfl ?_
  refine n_ld rfl rfl rfl ?_
  refine n_brP rfl rfl ⟨fun hcn => ?_, fun hcn => ?_⟩
  · replace h := h.1 ((i_eq (x := t0) (y := 0) rfl (show (0 : Int32).toInt = 0 by decide)).mp hcn)
    refine n_c [.int 0] (xo_push (.int 0)) rfl rfl ?_
    exact k_132_28_39a hd hc  h
  · replace h := h.2 (fun q => hcn ((i_eq (x := t0) (y := 0) rfl (show (0 : Int32).toInt = 0 by decide)).mpr q))
    refine n_ld rfl rfl rfl ?_
    refine n_get (v := .ref 86) rfl (hv_C (a := 83) (n := 1) rfl rfl rfl) ?_
    refine n_get (v := .ref 97) rfl (hv_R (a := 86) rfl rfl) ?_
    refine n_ld rfl rfl rfl ?_
    refine n_c [.int 1, .int a1, .ref 97] (xo_push (.int 1)) rfl rfl ?_
    replace h := h _ (i_add (x := a1) (y := 1) rfl (show (1 : Int32).toInt = 1 by decide))
    refine n_c [.int (a1 + 1), .ref 97] xo_iadd rfl rfl ?_
    refine n_row (a1 + 1) [] (a := 97) hd rfl rfl rfl rfl (fun x2 g1 g2 g3 => ?_)
    replace h := h x2 
    refine n_go rfl ?_
    exact k_132_28_39a hd hc  h
set_option maxRecDepth 20000 in
theorem k_132_0_39a {d d0 : Nat} (hd : d = d0 + 4) (hc : ∀ p ∈ s_w132, CTR (yex d) p.1 p.2)  {a1 : Int32} {a2 : Int32} {sa : Int32} {sk : Int32} {sf : Int32} {sc : Int32} {sz : Int32} {Q : Option Value → sW → Prop}  (h : w_132_0 (fun k => Tt d wgL (wk_132a 39 k) (wk_132a 39 k)) 39  a1 a2 sa sk sf sc sz Q) : Rn d wgL (((84, 5), 39, [(83, 1, 39), (83, 2, 86), (75, 0, 39), (75, 1, 57), (75, 2, 61)]) : wW) (((84, 5), 39, [(83, 1, 39), (83, 2, 86), (75, 0, 39), (75, 1, 57), (75, 2, 61)]) : wW) xL_10 9 (some .int) xE_132 (xE_132.drop 0) [.ref 83, .int a1, .int a2, .null, .null, .null, .null, .null, .null, .null, .null, .null] [] (sa, sk, sf, sc, sz) Q := by
  unfold w_132_0 at h
  refine n_ld rfl rfl rfl ?_
  refine n_ld rfl rfl rfl ?_
  refine n_ctr [.ref 83, .int a1] [] rfl rfl rfl (hc (133, q_133) (List.mem_of_getElem? (i := 1) rfl)) ⟨⟨_, rfl, cmem_ok rfl⟩, vK_int _, trivial⟩ rfl rfl (fun vq sq hv hk => ?_)
  obtain ⟨sa1, sk2, sf3, sc4, sz5⟩ := sq
  obtain ⟨k1, k2, k3, k4, k5, k6, k7⟩ := hk
  obtain rfl : sa = sa1 := (k1 (wmem_no rfl)).symm
  obtain rfl : sk = sk2 := (k2).symm
  obtain rfl : sf = sf3 := (k3 (wmem_no rfl)).symm
  obtain rfl : sc = sc4 := (k5 (wmem_no rfl)).symm
  obtain rfl : sz = sz5 := (k6 (wmem_no rfl)).symm
  obtain ⟨vr, rfl, x6, rfl, hl, hu⟩ := hv
  replace h := h x6
  change Rn _ _ _ _ _ _ _ _ _ _ [.int x6] _ _
  refine n_st [.ref 83, .int a1, .int a2, .int x6, .null, .null, .null, .null, .null, .null, .null, .null] rfl rfl rfl ?_
  refine n_ld rfl rfl rfl ?_
  refine n_get (v := .ref 86) rfl (hv_C (a := 83) (n := 1) rfl rfl rfl) ?_
  refine n_get (v := .ref 89) rfl (hv_R (a := 86) rfl rfl) ?_
  refine n_ld rfl rfl rfl ?_
  refine n_c [.int 1, .int a1, .ref 89] (xo_push (.int 1)) rfl rfl ?_
  replace h := h _ (i_add (x := a1) (y := 1) rfl (show (1 : Int32).toInt = 1 by decide))
  refine n_c [.int (a1 + 1), .ref 89] xo_iadd rfl rfl ?_
  refine n_row (a1 + 1) [] (a := 89) hd rfl rfl rfl rfl (fun x8 g1 g2 g3 => ?_)
  replace h := h x8 g2
  refine n_c [.int 91, .int x8] (xo_push (.int 91)) rfl rfl ?_
  refine n_brN rfl rfl ⟨fun hcn => ?_, fun hcn => ?_⟩
  · replace h := h.1 (fun q => hcn ((i_eq (x := x8) (y := 91) rfl (show (91 : Int32).toInt = 91 by decide)).mpr q))
    refine n_c [.int 0] (xo_push (.int 0)) rfl rfl ?_
    exact k_132_16_39a hd hc  h
  · replace h := h.2 ((i_eq (x := x8) (y := 91) rfl (show (91 : Int32).toInt = 91 by decide)).mp hcn)
    refine n_c [.int 1] (xo_push (.int 1)) rfl rfl ?_
    refine n_go rfl ?_
    exact k_132_16_39a hd hc  h
theorem t_132_39a {d : Nat} (hc : ∀ p ∈ s_w132, CTR (yex (d + 4)) p.1 p.2) {a1 : Int32} {a2 : Int32} {sa : Int32} {sk : Int32} {sf : Int32} {sc : Int32} {sz : Int32} {Q : Option Value → sW → Prop} (h : w_132_0 (fun k => Tt (d + 4) wgL (wk_132a 39 k) (wk_132a 39 k)) 39 a1 a2 sa sk sf sc sz Q) : Tt (d + 5) wgL (((84, 5), 39, [(83, 1, 39), (83, 2, 86), (75, 0, 39), (75, 1, 57), (75, 2, 61)]) : wW) (((84, 5), 39, [(83, 1, 39), (83, 2, 86), (75, 0, 39), (75, 1, 57), (75, 2, 61)]) : wW) 132 [.ref 83, .int a1, .int a2] (sa, sk, sf, sc, sz) Q := tt_of (E := xE_132) (L := xL_10) (ml := 9) (ret := some .int) rfl rfl rfl (k_132_0_39a rfl hc h)
/-! FeatherBench$Told.tellSlot -/
def wk_131 (P : Nat) : Nat → wW
  | _ => (((84, 5), P, [(83, 1, P), (83, 2, (P + 1)), (75, 0, P), (75, 1, (P + 18)), (75, 2, (P + 22))]) : wW)
def s_w131 : List (Nat × cSg) := [(42, q_42), (77, q_77_4), (50, q_50)]
def w_131_56 (T : Nat → Nat → List Value → sW → (Option Value → sW → Prop) → Prop) (P : Nat)  (a1 : Int32) (a2 : Int32) (a3 : Int32) (sa : Int32) (sk : Int32) (sf : Int32) (sc : Int32) (sz : Int32) (Q : Option Value → sW → Prop) : Prop :=
  Q none (sa, sk, sf, sc, sz)
def w_131_0 (T : Nat → Nat → List Value → sW → (Option Value → sW → Prop) → Prop) (P : Nat)  (a1 : Int32) (sa : Int32) (sk : Int32) (sf : Int32) (sc : Int32) (sz : Int32) (Q : Option Value → sW → Prop) : Prop :=
  ∀ x6 : Int32, -1 ≤ x6.toInt → x6.toInt ≤ 2000000000 → (0 ≤ x6.toInt → ∀ x12 : Int32, -1 ≤ x12.toInt → x12.toInt ≤ 2000000000 → ∀ x13 : Int32, (-2147483648 ≤ a1.toInt * 5 ∧ a1.toInt * 5 ≤ 2147483647 → x13.toInt = a1.toInt * 5) → ∀ x14 : Int32, (-2147483648 ≤ x13.toInt + 3 ∧ x13.toInt + 3 ≤ 2147483647 → x14.toInt = x13.toInt + 3) → (-1 ≤ sk.toInt ∧ sk.toInt ≤ 2000000000) ∧ (T 0 132 [.ref 83, .int x6, .int 1] (sa, sk, sf, sc, sz) (fun v25 (sa20, sk21, sf22, sc23, sz24) => ∃ x26, v25 = some (.int x26) ∧ (∀ x32 : Int32, -1 ≤ x32.toInt → x32.toInt ≤ 2000000000 → (¬ (x32.toInt = 0) → w_131_56 T P  a1 x6 sk sa20 sk21 sf22 sc23 sz24 Q) ∧ (x32.toInt = 0 → ∀ x33 : Int32, ∀ x39 : Int32, 0 ≤ x39.toInt → x39.toInt ≤ 1 → (¬ (x39.toInt = 0) → w_131_56 T P  a1 x6 sk sa20 sk21 sf22 sc23 sz24 Q) ∧ (x39.toInt = 0 → T 0 38 [.ref P, .int 6, .int x6] (sa20, sk21, sf22, sc23, sz24) (fun v45 (sa40, sk41, sf42, sc43, sz44) => v45 = none ∧ (w_131_56 T P  a1 x6 sk sa40 sk41 sf42 sc43 sz44 Q)))))))) ∧ (¬ (0 ≤ x6.toInt) → Q none (sa, sk, sf, sc, sz))
set_option maxRecDepth 20000 in
theorem k_131_56_3 {d d0 : Nat} (hd : d = d0 + 4) (hc : ∀ p ∈ s_w131, CTR (yex d) p.1 p.2)  {a1 : Int32} {a2 : Int32} {a3 : Int32} {sa : Int32} {sk : Int32} {sf : Int32} {sc : Int32} {sz : Int32} {Q : Option Value → sW → Prop}  (h : w_131_56 (fun k => Tt d wgL (wk_131 3 k) (wk_131 3 k)) 3  a1 a2 a3 sa sk sf sc sz Q) : Rn d wgL (((84, 5), 3, [(83, 1, 3), (83, 2, 4), (75, 0, 3), (75, 1, 21), (75, 2, 25)]) : wW) (((84, 5), 3, [(83, 1, 3), (83, 2, 4), (75, 0, 3), (75, 1, 21), (75, 2, 25)]) : wW) xL_10 4 (none) xE_131 (xE_131.drop 56) [.ref 83, .int a1, .int a2, .int a3, .null, .null] [] (sa, sk, sf, sc, sz) Q := by
  unfold w_131_56 at h
  exact n_ret0 rfl h
set_option maxRecDepth 20000 in
theorem k_131_0_3 {d d0 : Nat} (hd : d = d0 + 4) (hc : ∀ p ∈ s_w131, CTR (yex d) p.1 p.2)  {a1 : Int32} {sa : Int32} {sk : Int32} {sf : Int32} {sc : Int32} {sz : Int32} {Q : Option Value → sW → Prop}  (h : w_131_0 (fun k => Tt d wgL (wk_131 3 k) (wk_131 3 k)) 3  a1 sa sk sf sc sz Q) : Rn d wgL (((84, 5), 3, [(83, 1, 3), (83, 2, 4), (75, 0, 3), (75, 1, 21), (75, 2, 25)]) : wW) (((84, 5), 3, [(83, 1, 3), (83, 2, 4), (75, 0, 3), (75, 1, 21), (75, 2, 25)]) : wW) xL_10 4 (none) xE_131 (xE_131.drop 0) [.ref 83, .int a1, .null, .null, .null, .null] [] (sa, sk, sf, sc, sz) Q := by
  unfold w_131_0 at h
  refine n_ld rfl rfl rfl ?_
  refine n_get (v := .ref 3) rfl (hv_C (a := 83) (n := 0) rfl rfl rfl) ?_
  refine n_ld rfl rfl rfl ?_
  refine n_c [.int 2, .int a1, .ref 3] (xo_push (.int 2)) rfl rfl ?_
  refine n_ctr [.ref 3, .int a1, .int 2] [] rfl rfl rfl (hc (42, q_42) (List.mem_of_getElem? (i := 0) rfl)) ⟨⟨_, rfl, cmem_ok rfl⟩, vK_int _, vK_int _, trivial⟩ rfl rfl (fun vq sq hv hk => ?_)
  obtain ⟨sa1, sk2, sf3, sc4, sz5⟩ := sq
  obtain ⟨k1, k2, k3, k4, k5, k6, k7⟩ := hk
  obtain rfl : sa = sa1 := (k1 (wmem_no rfl)).symm
  obtain rfl : sk = sk2 := (k2).symm
  obtain rfl : sf = sf3 := (k3 (wmem_no rfl)).symm
  obtain rfl : sc = sc4 := (k5 (wmem_no rfl)).symm
  obtain rfl : sz = sz5 := (k6 (wmem_no rfl)).symm
  obtain ⟨vr, rfl, x6, rfl, hl, hu⟩ := hv
  replace h := h x6 hl hu
  change Rn _ _ _ _ _ _ _ _ _ _ [.int x6] _ _
  refine n_st [.ref 83, .int a1, .int x6, .null, .null, .null] rfl rfl rfl ?_
  refine n_ld rfl rfl rfl ?_
  refine n_brP rfl rfl ⟨fun hcn => ?_, fun hcn => ?_⟩
  · replace h := h.1 ((i_le (x := 0) (y := x6) (show (0 : Int32).toInt = 0 by decide) rfl).mp hcn)
    refine n_ld rfl rfl rfl ?_
    refine n_get (v := .ref 75) rfl (hv_R (a := 83) rfl rfl) ?_
    refine n_ld rfl rfl rfl ?_
    refine n_get (v := .ref 3) rfl (hv_C (a := 83) (n := 0) rfl rfl rfl) ?_
    refine n_ld rfl rfl rfl ?_
    refine n_c [.int 4, .int a1, .ref 3, .ref 75] (xo_push (.int 4)) rfl rfl ?_
    refine n_ctr [.ref 3, .int a1, .int 4] [.ref 75] rfl rfl rfl (hc (42, q_42) (List.mem_of_getElem? (i := 0) rfl)) ⟨⟨_, rfl, cmem_ok rfl⟩, vK_int _, vK_int _, trivial⟩ rfl rfl (fun vq sq hv hk => ?_)
    obtain ⟨sa7, sk8, sf9, sc10, sz11⟩ := sq
    obtain ⟨k1, k2, k3, k4, k5, k6, k7⟩ := hk
    obtain rfl : sa = sa7 := (k1 (wmem_no rfl)).symm
    obtain rfl : sk = sk8 := (k2).symm
    obtain rfl : sf = sf9 := (k3 (wmem_no rfl)).symm
    obtain rfl : sc = sc10 := (k5 (wmem_no rfl)).symm
    obtain rfl : sz = sz11 := (k6 (wmem_no rfl)).symm
    obtain ⟨vr, rfl, x12, rfl, hl, hu⟩ := hv
    replace h := h x12 hl hu
    change Rn _ _ _ _ _ _ _ _ _ _ [.int x12, .ref 75] _ _
    refine n_put (a := 75) (w1 := (((84, 5), 3, [(83, 1, 3), (83, 2, 4), (75, 0, 3), (75, 1, 21), (75, 2, 25)]) : wW)) (s1 := (sa, sk, sf, sc, sz)) rfl rfl rfl rfl (vK_int _) rfl rfl rfl (Or.inr (Or.inl (by decide +kernel))) (ws_no (w := (((84, 5), 3, [(83, 1, 3), (83, 2, 4), (75, 0, 3), (75, 1, 21), (75, 2, 25)]) : wW)) (s := (sa, sk, sf, sc, sz)) (a := 75) (k := 6) rfl) ?_
    refine n_ld rfl rfl rfl ?_
    refine n_get (v := .ref 3) rfl (hv_C (a := 83) (n := 0) rfl rfl rfl) ?_
    refine n_get (v := .int sk) rfl (hv_f (a := 3) rfl rfl (fun _ _ hw => hw.1.2.1)) ?_
    refine n_st [.ref 83, .int a1, .int x6, .int sk, .null, .null] rfl rfl rfl ?_
    refine n_ld rfl rfl rfl ?_
    refine n_get (v := .ref 3) rfl (hv_C (a := 83) (n := 0) rfl rfl rfl) ?_
    refine n_get (v := .ref 33) rfl (hv_R (a := 3) rfl rfl) ?_
    refine n_ld rfl rfl rfl ?_
    refine n_c [.int 5, .int a1, .ref 33] (xo_push (.int 5)) rfl rfl ?_
    replace h := h _ (i_mul (x := a1) (y := 5) rfl (show (5 : Int32).toInt = 5 by decide))
    refine n_c [.int (a1 * 5), .ref 33] xo_imul rfl rfl ?_
    refine n_c [.int 3, .int (a1 * 5), .ref 33] (xo_push (.int 3)) rfl rfl ?_
    replace h := h _ (i_add (x := (a1 * 5)) (y := 3) rfl (show (3 : Int32).toInt = 3 by decide))
    refine n_c [.int ((a1 * 5) + 3), .ref 33] xo_iadd rfl rfl ?_
    refine n_ld rfl rfl rfl ?_
    refine n_ctr [.ref 33, .int ((a1 * 5) + 3), .int sk] [] rfl rfl rfl (hc (77, q_77_4) (List.mem_of_getElem? (i := 1) rfl)) ⟨⟨_, rfl, cmem_ok rfl⟩, vK_int _, ⟨_, rfl, h.1.1, h.1.2⟩, trivial⟩ rfl rfl (fun vq sq hv hk => ?_)
    replace h := h.2
    obtain ⟨sa15, sk16, sf17, sc18, sz19⟩ := sq
    obtain ⟨k1, k2, k3, k4, k5, k6, k7⟩ := hk
    obtain rfl : sa = sa15 := (k1 (wmem_no rfl)).symm
    obtain rfl : sk = sk16 := (k2).symm
    obtain rfl : sf = sf17 := (k3 (wmem_no rfl)).symm
    obtain rfl : sc = sc18 := (k5 (wmem_no rfl)).symm
    obtain rfl : sz = sz19 := (k6 (wmem_no rfl)).symm
    cases (show vq = none from hv)
    change Rn _ _ _ _ _ _ _ _ _ _ [] _ _
    refine n_ld rfl rfl rfl ?_
    refine n_ld rfl rfl rfl ?_
    refine n_c [.int 1, .int x6, .ref 83] (xo_push (.int 1)) rfl rfl ?_
    refine n_tt [.ref 83, .int x6, .int 1] [] rfl rfl rfl rfl (Tt.imp h (fun v25 sq h => ?_))
    obtain ⟨sa20, sk21, sf22, sc23, sz24⟩ := sq
    obtain ⟨x26, rfl, h⟩ := h
    change Rn _ _ _ _ _ _ _ _ _ _ [.int x26] _ _
    refine n_c [] xo_pop rfl rfl ?_
    refine n_ld rfl rfl rfl ?_
    refine n_get (v := .ref 3) rfl (hv_C (a := 83) (n := 0) rfl rfl rfl) ?_
    refine n_ld rfl rfl rfl ?_
    refine n_c [.int 1, .int a1, .ref 3] (xo_push (.int 1)) rfl rfl ?_
    refine n_ctr [.ref 3, .int a1, .int 1] [] rfl rfl rfl (hc (42, q_42) (List.mem_of_getElem? (i := 0) rfl)) ⟨⟨_, rfl, cmem_ok rfl⟩, vK_int _, vK_int _, trivial⟩ rfl rfl (fun vq sq hv hk => ?_)
    obtain ⟨sa27, sk28, sf29, sc30, sz31⟩ := sq
    obtain ⟨k1, k2, k3, k4, k5, k6, k7⟩ := hk
    obtain rfl : sa20 = sa27 := (k1 (wmem_no rfl)).symm
    obtain rfl : sk21 = sk28 := (k2).symm
    obtain rfl : sf22 = sf29 := (k3 (wmem_no rfl)).symm
    obtain rfl : sc23 = sc30 := (k5 (wmem_no rfl)).symm
    obtain rfl : sz24 = sz31 := (k6 (wmem_no rfl)).symm
    obtain ⟨vr, rfl, x32, rfl, hl, hu⟩ := hv
    replace h := h x32 hl hu
    change Rn _ _ _ _ _ _ _ _ _ _ [.int x32] _ _
    refine n_brN rfl rfl ⟨fun hcn => ?_, fun hcn => ?_⟩
    · replace h := h.1 (fun q => hcn ((i_eq (x := x32) (y := 0) rfl (show (0 : Int32).toInt = 0 by decide)).mpr q))
      exact k_131_56_3 hd hc  h
    · replace h := h.2 ((i_eq (x := x32) (y := 0) rfl (show (0 : Int32).toInt = 0 by decide)).mp hcn)
      refine n_ld rfl rfl rfl ?_
      refine n_get (v := .ref 3) rfl (hv_C (a := 83) (n := 0) rfl rfl rfl) ?_
      refine n_ld rfl rfl rfl ?_
      refine n_get (v := .ref 3) rfl (hv_C (a := 83) (n := 0) rfl rfl rfl) ?_
      refine n_get (v := .ref 21) rfl (hv_R (a := 3) rfl rfl) ?_
      refine n_ld rfl rfl rfl ?_
      refine n_row sk [.ref 3] (a := 21) hd rfl rfl rfl rfl (fun x33 g1 g2 g3 => ?_)
      replace h := h x33 
      refine n_ctr [.ref 3, .int x33] [] rfl rfl rfl (hc (50, q_50) (List.mem_of_getElem? (i := 2) rfl)) ⟨⟨_, rfl, cmem_ok rfl⟩, vK_int _, trivial⟩ rfl rfl (fun vq sq hv hk => ?_)
      obtain ⟨sa34, sk35, sf36, sc37, sz38⟩ := sq
      obtain ⟨k1, k2, k3, k4, k5, k6, k7⟩ := hk
      obtain rfl : sa20 = sa34 := (k1 (wmem_no rfl)).symm
      obtain rfl : sk21 = sk35 := (k2).symm
      obtain rfl : sf22 = sf36 := (k3 (wmem_no rfl)).symm
      obtain rfl : sc23 = sc37 := (k5 (wmem_no rfl)).symm
      obtain rfl : sz24 = sz38 := (k6 (wmem_no rfl)).symm
      obtain ⟨vr, rfl, x39, rfl, hl, hu⟩ := hv
      replace h := h x39 hl hu
      change Rn _ _ _ _ _ _ _ _ _ _ [.int x39] _ _
      refine n_brN rfl rfl ⟨fun hcn => ?_, fun hcn => ?_⟩
      · replace h := h.1 (fun q => hcn ((i_eq (x := x39) (y := 0) rfl (show (0 : Int32).toInt = 0 by decide)).mpr q))
        exact k_131_56_3 hd hc  h
      · replace h := h.2 ((i_eq (x := x39) (y := 0) rfl (show (0 : Int32).toInt = 0 by decide)).mp hcn)
        refine n_ld rfl rfl rfl ?_
        refine n_get (v := .ref 3) rfl (hv_C (a := 83) (n := 0) rfl rfl rfl) ?_
        refine n_c [.int 6, .ref 3] (xo_push (.int 6)) rfl rfl ?_
        refine n_ld rfl rfl rfl ?_
        refine n_tt [.ref 3, .int 6, .int x6] [] rfl rfl rfl rfl (Tt.imp h (fun v45 sq h => ?_))
        obtain ⟨sa40, sk41, sf42, sc43, sz44⟩ := sq
        obtain ⟨rfl, h⟩ := h
        change Rn _ _ _ _ _ _ _ _ _ _ [] _ _
        exact k_131_56_3 hd hc  h
  · replace h := h.2 (fun q => hcn ((i_le (x := 0) (y := x6) (show (0 : Int32).toInt = 0 by decide) rfl).mpr q))
    exact n_ret0 rfl h
theorem t_131_3 {d : Nat} (hc : ∀ p ∈ s_w131, CTR (yex (d + 4)) p.1 p.2) {a1 : Int32} {sa : Int32} {sk : Int32} {sf : Int32} {sc : Int32} {sz : Int32} {Q : Option Value → sW → Prop} (h : w_131_0 (fun k => Tt (d + 4) wgL (wk_131 3 k) (wk_131 3 k)) 3 a1 sa sk sf sc sz Q) : Tt (d + 5) wgL (((84, 5), 3, [(83, 1, 3), (83, 2, 4), (75, 0, 3), (75, 1, 21), (75, 2, 25)]) : wW) (((84, 5), 3, [(83, 1, 3), (83, 2, 4), (75, 0, 3), (75, 1, 21), (75, 2, 25)]) : wW) 131 [.ref 83, .int a1] (sa, sk, sf, sc, sz) Q := tt_of (E := xE_131) (L := xL_10) (ml := 4) (ret := none) rfl rfl rfl (k_131_0_3 rfl hc h)
set_option maxRecDepth 20000 in
theorem k_131_56_39 {d d0 : Nat} (hd : d = d0 + 4) (hc : ∀ p ∈ s_w131, CTR (yex d) p.1 p.2)  {a1 : Int32} {a2 : Int32} {a3 : Int32} {sa : Int32} {sk : Int32} {sf : Int32} {sc : Int32} {sz : Int32} {Q : Option Value → sW → Prop}  (h : w_131_56 (fun k => Tt d wgL (wk_131 39 k) (wk_131 39 k)) 39  a1 a2 a3 sa sk sf sc sz Q) : Rn d wgL (((84, 5), 39, [(83, 1, 39), (83, 2, 40), (75, 0, 39), (75, 1, 57), (75, 2, 61)]) : wW) (((84, 5), 39, [(83, 1, 39), (83, 2, 40), (75, 0, 39), (75, 1, 57), (75, 2, 61)]) : wW) xL_10 4 (none) xE_131 (xE_131.drop 56) [.ref 83, .int a1, .int a2, .int a3, .null, .null] [] (sa, sk, sf, sc, sz) Q := by
  unfold w_131_56 at h
  exact n_ret0 rfl h
set_option maxRecDepth 20000 in
theorem k_131_0_39 {d d0 : Nat} (hd : d = d0 + 4) (hc : ∀ p ∈ s_w131, CTR (yex d) p.1 p.2)  {a1 : Int32} {sa : Int32} {sk : Int32} {sf : Int32} {sc : Int32} {sz : Int32} {Q : Option Value → sW → Prop}  (h : w_131_0 (fun k => Tt d wgL (wk_131 39 k) (wk_131 39 k)) 39  a1 sa sk sf sc sz Q) : Rn d wgL (((84, 5), 39, [(83, 1, 39), (83, 2, 40), (75, 0, 39), (75, 1, 57), (75, 2, 61)]) : wW) (((84, 5), 39, [(83, 1, 39), (83, 2, 40), (75, 0, 39), (75, 1, 57), (75, 2, 61)]) : wW) xL_10 4 (none) xE_131 (xE_131.drop 0) [.ref 83, .int a1, .null, .null, .null, .null] [] (sa, sk, sf, sc, sz) Q := by
  unfold w_131_0 at h
  refine n_ld rfl rfl rfl ?_
  refine n_get (v := .ref 39) rfl (hv_C (a := 83) (n := 0) rfl rfl rfl) ?_
  refine n_ld rfl rfl rfl ?_
  refine n_c [.int 2, .int a1, .ref 39] (xo_push (.int 2)) rfl rfl ?_
  refine n_ctr [.ref 39, .int a1, .int 2] [] rfl rfl rfl (hc (42, q_42) (List.mem_of_getElem? (i := 0) rfl)) ⟨⟨_, rfl, cmem_ok rfl⟩, vK_int _, vK_int _, trivial⟩ rfl rfl (fun vq sq hv hk => ?_)
  obtain ⟨sa1, sk2, sf3, sc4, sz5⟩ := sq
  obtain ⟨k1, k2, k3, k4, k5, k6, k7⟩ := hk
  obtain rfl : sa = sa1 := (k1 (wmem_no rfl)).symm
  obtain rfl : sk = sk2 := (k2).symm
  obtain rfl : sf = sf3 := (k3 (wmem_no rfl)).symm
  obtain rfl : sc = sc4 := (k5 (wmem_no rfl)).symm
  obtain rfl : sz = sz5 := (k6 (wmem_no rfl)).symm
  obtain ⟨vr, rfl, x6, rfl, hl, hu⟩ := hv
  replace h := h x6 hl hu
  change Rn _ _ _ _ _ _ _ _ _ _ [.int x6] _ _
  refine n_st [.ref 83, .int a1, .int x6, .null, .null, .null] rfl rfl rfl ?_
  refine n_ld rfl rfl rfl ?_
  refine n_brP rfl rfl ⟨fun hcn => ?_, fun hcn => ?_⟩
  · replace h := h.1 ((i_le (x := 0) (y := x6) (show (0 : Int32).toInt = 0 by decide) rfl).mp hcn)
    refine n_ld rfl rfl rfl ?_
    refine n_get (v := .ref 75) rfl (hv_R (a := 83) rfl rfl) ?_
    refine n_ld rfl rfl rfl ?_
    refine n_get (v := .ref 39) rfl (hv_C (a := 83) (n := 0) rfl rfl rfl) ?_
    refine n_ld rfl rfl rfl ?_
    refine n_c [.int 4, .int a1, .ref 39, .ref 75] (xo_push (.int 4)) rfl rfl ?_
    refine n_ctr [.ref 39, .int a1, .int 4] [.ref 75] rfl rfl rfl (hc (42, q_42) (List.mem_of_getElem? (i := 0) rfl)) ⟨⟨_, rfl, cmem_ok rfl⟩, vK_int _, vK_int _, trivial⟩ rfl rfl (fun vq sq hv hk => ?_)
    obtain ⟨sa7, sk8, sf9, sc10, sz11⟩ := sq
    obtain ⟨k1, k2, k3, k4, k5, k6, k7⟩ := hk
    obtain rfl : sa = sa7 := (k1 (wmem_no rfl)).symm
    obtain rfl : sk = sk8 := (k2).symm
    obtain rfl : sf = sf9 := (k3 (wmem_no rfl)).symm
    obtain rfl : sc = sc10 := (k5 (wmem_no rfl)).symm
    obtain rfl : sz = sz11 := (k6 (wmem_no rfl)).symm
    obtain ⟨vr, rfl, x12, rfl, hl, hu⟩ := hv
    replace h := h x12 hl hu
    change Rn _ _ _ _ _ _ _ _ _ _ [.int x12, .ref 75] _ _
    refine n_put (a := 75) (w1 := (((84, 5), 39, [(83, 1, 39), (83, 2, 40), (75, 0, 39), (75, 1, 57), (75, 2, 61)]) : wW)) (s1 := (sa, sk, sf, sc, sz)) rfl rfl rfl rfl (vK_int _) rfl rfl rfl (Or.inr (Or.inl (by decide +kernel))) (ws_no (w := (((84, 5), 39, [(83, 1, 39), (83, 2, 40), (75, 0, 39), (75, 1, 57), (75, 2, 61)]) : wW)) (s := (sa, sk, sf, sc, sz)) (a := 75) (k := 6) rfl) ?_
    refine n_ld rfl rfl rfl ?_
    refine n_get (v := .ref 39) rfl (hv_C (a := 83) (n := 0) rfl rfl rfl) ?_
    refine n_get (v := .int sk) rfl (hv_f (a := 39) rfl rfl (fun _ _ hw => hw.1.2.1)) ?_
    refine n_st [.ref 83, .int a1, .int x6, .int sk, .null, .null] rfl rfl rfl ?_
    refine n_ld rfl rfl rfl ?_
    refine n_get (v := .ref 39) rfl (hv_C (a := 83) (n := 0) rfl rfl rfl) ?_
    refine n_get (v := .ref 69) rfl (hv_R (a := 39) rfl rfl) ?_
    refine n_ld rfl rfl rfl ?_
    refine n_c [.int 5, .int a1, .ref 69] (xo_push (.int 5)) rfl rfl ?_
    replace h := h _ (i_mul (x := a1) (y := 5) rfl (show (5 : Int32).toInt = 5 by decide))
    refine n_c [.int (a1 * 5), .ref 69] xo_imul rfl rfl ?_
    refine n_c [.int 3, .int (a1 * 5), .ref 69] (xo_push (.int 3)) rfl rfl ?_
    replace h := h _ (i_add (x := (a1 * 5)) (y := 3) rfl (show (3 : Int32).toInt = 3 by decide))
    refine n_c [.int ((a1 * 5) + 3), .ref 69] xo_iadd rfl rfl ?_
    refine n_ld rfl rfl rfl ?_
    refine n_ctr [.ref 69, .int ((a1 * 5) + 3), .int sk] [] rfl rfl rfl (hc (77, q_77_4) (List.mem_of_getElem? (i := 1) rfl)) ⟨⟨_, rfl, cmem_ok rfl⟩, vK_int _, ⟨_, rfl, h.1.1, h.1.2⟩, trivial⟩ rfl rfl (fun vq sq hv hk => ?_)
    replace h := h.2
    obtain ⟨sa15, sk16, sf17, sc18, sz19⟩ := sq
    obtain ⟨k1, k2, k3, k4, k5, k6, k7⟩ := hk
    obtain rfl : sa = sa15 := (k1 (wmem_no rfl)).symm
    obtain rfl : sk = sk16 := (k2).symm
    obtain rfl : sf = sf17 := (k3 (wmem_no rfl)).symm
    obtain rfl : sc = sc18 := (k5 (wmem_no rfl)).symm
    obtain rfl : sz = sz19 := (k6 (wmem_no rfl)).symm
    cases (show vq = none from hv)
    change Rn _ _ _ _ _ _ _ _ _ _ [] _ _
    refine n_ld rfl rfl rfl ?_
    refine n_ld rfl rfl rfl ?_
    refine n_c [.int 1, .int x6, .ref 83] (xo_push (.int 1)) rfl rfl ?_
    refine n_tt [.ref 83, .int x6, .int 1] [] rfl rfl rfl rfl (Tt.imp h (fun v25 sq h => ?_))
    obtain ⟨sa20, sk21, sf22, sc23, sz24⟩ := sq
    obtain ⟨x26, rfl, h⟩ := h
    change Rn _ _ _ _ _ _ _ _ _ _ [.int x26] _ _
    refine n_c [] xo_pop rfl rfl ?_
    refine n_ld rfl rfl rfl ?_
    refine n_get (v := .ref 39) rfl (hv_C (a := 83) (n := 0) rfl rfl rfl) ?_
    refine n_ld rfl rfl rfl ?_
    refine n_c [.int 1, .int a1, .ref 39] (xo_push (.int 1)) rfl rfl ?_
    refine n_ctr [.ref 39, .int a1, .int 1] [] rfl rfl rfl (hc (42, q_42) (List.mem_of_getElem? (i := 0) rfl)) ⟨⟨_, rfl, cmem_ok rfl⟩, vK_int _, vK_int _, trivial⟩ rfl rfl (fun vq sq hv hk => ?_)
    obtain ⟨sa27, sk28, sf29, sc30, sz31⟩ := sq
    obtain ⟨k1, k2, k3, k4, k5, k6, k7⟩ := hk
    obtain rfl : sa20 = sa27 := (k1 (wmem_no rfl)).symm
    obtain rfl : sk21 = sk28 := (k2).symm
    obtain rfl : sf22 = sf29 := (k3 (wmem_no rfl)).symm
    obtain rfl : sc23 = sc30 := (k5 (wmem_no rfl)).symm
    obtain rfl : sz24 = sz31 := (k6 (wmem_no rfl)).symm
    obtain ⟨vr, rfl, x32, rfl, hl, hu⟩ := hv
    replace h := h x32 hl hu
    change Rn _ _ _ _ _ _ _ _ _ _ [.int x32] _ _
    refine n_brN rfl rfl ⟨fun hcn => ?_, fun hcn => ?_⟩
    · replace h := h.1 (fun q => hcn ((i_eq (x := x32) (y := 0) rfl (show (0 : Int32).toInt = 0 by decide)).mpr q))
      exact k_131_56_39 hd hc  h
    · replace h := h.2 ((i_eq (x := x32) (y := 0) rfl (show (0 : Int32).toInt = 0 by decide)).mp hcn)
      refine n_ld rfl rfl rfl ?_
      refine n_get (v := .ref 39) rfl (hv_C (a := 83) (n := 0) rfl rfl rfl) ?_
      refine n_ld rfl rfl rfl ?_
      refine n_get (v := .ref 39) rfl (hv_C (a := 83) (n := 0) rfl rfl rfl) ?_
      refine n_get (v := .ref 57) rfl (hv_R (a := 39) rfl rfl) ?_
      refine n_ld rfl rfl rfl ?_
      refine n_row sk [.ref 39] (a := 57) hd rfl rfl rfl rfl (fun x33 g1 g2 g3 => ?_)
      replace h := h x33 
      refine n_ctr [.ref 39, .int x33] [] rfl rfl rfl (hc (50, q_50) (List.mem_of_getElem? (i := 2) rfl)) ⟨⟨_, rfl, cmem_ok rfl⟩, vK_int _, trivial⟩ rfl rfl (fun vq sq hv hk => ?_)
      obtain ⟨sa34, sk35, sf36, sc37, sz38⟩ := sq
      obtain ⟨k1, k2, k3, k4, k5, k6, k7⟩ := hk
      obtain rfl : sa20 = sa34 := (k1 (wmem_no rfl)).symm
      obtain rfl : sk21 = sk35 := (k2).symm
      obtain rfl : sf22 = sf36 := (k3 (wmem_no rfl)).symm
      obtain rfl : sc23 = sc37 := (k5 (wmem_no rfl)).symm
      obtain rfl : sz24 = sz38 := (k6 (wmem_no rfl)).symm
      obtain ⟨vr, rfl, x39, rfl, hl, hu⟩ := hv
      replace h := h x39 hl hu
      change Rn _ _ _ _ _ _ _ _ _ _ [.int x39] _ _
      refine n_brN rfl rfl ⟨fun hcn => ?_, fun hcn => ?_⟩
      · replace h := h.1 (fun q => hcn ((i_eq (x := x39) (y := 0) rfl (show (0 : Int32).toInt = 0 by decide)).mpr q))
        exact k_131_56_39 hd hc  h
      · replace h := h.2 ((i_eq (x := x39) (y := 0) rfl (show (0 : Int32).toInt = 0 by decide)).mp hcn)
        refine n_ld rfl rfl rfl ?_
        refine n_get (v := .ref 39) rfl (hv_C (a := 83) (n := 0) rfl rfl rfl) ?_
        refine n_c [.int 6, .ref 39] (xo_push (.int 6)) rfl rfl ?_
        refine n_ld rfl rfl rfl ?_
        refine n_tt [.ref 39, .int 6, .int x6] [] rfl rfl rfl rfl (Tt.imp h (fun v45 sq h => ?_))
        obtain ⟨sa40, sk41, sf42, sc43, sz44⟩ := sq
        obtain ⟨rfl, h⟩ := h
        change Rn _ _ _ _ _ _ _ _ _ _ [] _ _
        exact k_131_56_39 hd hc  h
  · replace h := h.2 (fun q => hcn ((i_le (x := 0) (y := x6) (show (0 : Int32).toInt = 0 by decide) rfl).mpr q))
    exact n_ret0 rfl h
theorem t_131_39 {d : Nat} (hc : ∀ p ∈ s_w131, CTR (yex (d + 4)) p.1 p.2) {a1 : Int32} {sa : Int32} {sk : Int32} {sf : Int32} {sc : Int32} {sz : Int32} {Q : Option Value → sW → Prop} (h : w_131_0 (fun k => Tt (d + 4) wgL (wk_131 39 k) (wk_131 39 k)) 39 a1 sa sk sf sc sz Q) : Tt (d + 5) wgL (((84, 5), 39, [(83, 1, 39), (83, 2, 40), (75, 0, 39), (75, 1, 57), (75, 2, 61)]) : wW) (((84, 5), 39, [(83, 1, 39), (83, 2, 40), (75, 0, 39), (75, 1, 57), (75, 2, 61)]) : wW) 131 [.ref 83, .int a1] (sa, sk, sf, sc, sz) Q := tt_of (E := xE_131) (L := xL_10) (ml := 4) (ret := none) rfl rfl rfl (k_131_0_39 rfl hc h)
