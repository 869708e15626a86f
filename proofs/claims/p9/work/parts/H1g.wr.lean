/-! ===== the class: what its methods must be given (by wip/p2/cdec.py) ===== -/
def wbL : List (Nat × Nat) := [(4, 14)]
/-! FeatherBench$Program.blame -/
def wk_38r (P : Nat) : Nat → wW
  | _ => (((82, 3), P, []) : wW)
set_option maxRecDepth 20000 in
theorem k_38_16_3r {d d0 : Nat} (hd : d = d0 + 4) (hc : ∀ p ∈ s_w38, CTR (yex d) p.1 p.2)  {a1 : Int32} {a2 : Int32} {sa : Int32} {sk : Int32} {sf : Int32} {sc : Int32} {sz : Int32} {Q : Option Value → sW → Prop}  (h : w_38_16 (fun k => Tt d wbL (wk_38r 3 k) (wk_38r 3 k)) 3  a1 a2 sa sk sf sc sz Q) : Rn d wbL (((82, 3), 3, []) : wW) (((82, 3), 3, []) : wW) xL_4 3 (none) xE_38 (xE_38.drop 16) [.ref 3, .int a1, .int a2, .null, .null, .null] [] (sa, sk, sf, sc, sz) Q := by
  unfold w_38_16 at h
  exact n_ret0 rfl h
set_option maxRecDepth 20000 in
theorem k_38_0_3r {d d0 : Nat} (hd : d = d0 + 4) (hc : ∀ p ∈ s_w38, CTR (yex d) p.1 p.2)  {a1 : Int32} {a2 : Int32} {sa : Int32} {sk : Int32} {sf : Int32} {sc : Int32} {sz : Int32} {Q : Option Value → sW → Prop}  (h : w_38_0 (fun k => Tt d wbL (wk_38r 3 k) (wk_38r 3 k)) 3  a1 a2 sa sk sf sc sz Q) : Rn d wbL (((82, 3), 3, []) : wW) (((82, 3), 3, []) : wW) xL_4 3 (none) xE_38 (xE_38.drop 0) [.ref 3, .int a1, .int a2, .null, .null, .null] [] (sa, sk, sf, sc, sz) Q := by
  unfold w_38_0 at h
  refine n_ld rfl rfl rfl ?_
  refine n_get (v := .int sf) rfl (hv_f (a := 3) rfl rfl (fun _ _ hw => hw.1.2.2.1)) ?_
  refine n_brN rfl rfl ⟨fun hcn => ?_, fun hcn => ?_⟩
  · replace h := h.1 (fun q => hcn ((i_eq (x := sf) (y := 0) rfl (show (0 : Int32).toInt = 0 by decide)).mpr q))
    exact k_38_16_3r hd hc  h
  · replace h := h.2 ((i_eq (x := sf) (y := 0) rfl (show (0 : Int32).toInt = 0 by decide)).mp hcn)
    refine n_ld rfl rfl rfl ?_
    refine n_brP rfl rfl ⟨fun hcn => ?_, fun hcn => ?_⟩
    · replace h := h.1 ((i_eq (x := a1) (y := 0) rfl (show (0 : Int32).toInt = 0 by decide)).mp hcn)
      exact k_38_16_3r hd hc  h
    · replace h := h.2 (fun q => hcn ((i_eq (x := a1) (y := 0) rfl (show (0 : Int32).toInt = 0 by decide)).mpr q))
      refine n_ld rfl rfl rfl ?_
      refine n_ld rfl rfl rfl ?_
      refine n_c [.int 16, .int a1, .ref 3] (xo_push (.int 16)) rfl rfl ?_
      refine n_ld rfl rfl rfl ?_
      refine n_get (v := .ref 4) rfl (hv_R (a := 3) rfl rfl) ?_
      refine n_get (v := .ref 9) rfl (hv_R (a := 4) rfl rfl) ?_
      refine n_ld rfl rfl rfl ?_
      refine n_row a2 [.int 16, .int a1, .ref 3] (a := 9) hd rfl rfl rfl rfl (fun x1 g1 g2 g3 => ?_)
      replace h := h x1 g1
      replace h := h _ (i_mul (x := 16) (y := x1) (show (16 : Int32).toInt = 16 by decide) rfl)
      replace h := h (i_mulm (x := 16) (y := x1) (show (16 : Int32).toInt = 16 by decide) rfl)
      refine n_c [.int (16 * x1), .int a1, .ref 3] xo_imul rfl rfl ?_
      replace h := h _ (i_add (x := a1) (y := (16 * x1)) rfl rfl)
      replace h := h (i_addm (x := a1) (y := (16 * x1)) rfl rfl)
      refine n_c [.int (a1 + (16 * x1)), .ref 3] xo_iadd rfl rfl ?_
      refine n_put (a := 3) (w1 := (((82, 3), 3, []) : wW)) (s1 := (sa, sk, (a1 + (16 * x1)), sc, sz)) rfl rfl rfl rfl (vK_int _) rfl rfl rfl (Or.inr (Or.inr (fun q => h.1 (z32.mpr (Value.int.inj q))))) (ws_fl (w := (((82, 3), 3, []) : wW)) (s := (sa, sk, sf, sc, sz)) rfl) ?_
      replace h := h.2
      exact k_38_16_3r hd hc  h
theorem t_38_3r {d : Nat} (hc : ∀ p ∈ s_w38, CTR (yex (d + 4)) p.1 p.2) {a1 : Int32} {a2 : Int32} {sa : Int32} {sk : Int32} {sf : Int32} {sc : Int32} {sz : Int32} {Q : Option Value → sW → Prop} (h : w_38_0 (fun k => Tt (d + 4) wbL (wk_38r 3 k) (wk_38r 3 k)) 3 a1 a2 sa sk sf sc sz Q) : Tt (d + 5) wbL (((82, 3), 3, []) : wW) (((82, 3), 3, []) : wW) 38 [.ref 3, .int a1, .int a2] (sa, sk, sf, sc, sz) Q := tt_of (E := xE_38) (L := xL_4) (ml := 3) (ret := none) rfl rfl rfl (k_38_0_3r rfl hc h)
set_option maxRecDepth 20000 in
theorem k_38_16_39r {d d0 : Nat} (hd : d = d0 + 4) (hc : ∀ p ∈ s_w38, CTR (yex d) p.1 p.2)  {a1 : Int32} {a2 : Int32} {sa : Int32} {sk : Int32} {sf : Int32} {sc : Int32} {sz : Int32} {Q : Option Value → sW → Prop}  (h : w_38_16 (fun k => Tt d wbL (wk_38r 39 k) (wk_38r 39 k)) 39  a1 a2 sa sk sf sc sz Q) : Rn d wbL (((82, 3), 39, []) : wW) (((82, 3), 39, []) : wW) xL_4 3 (none) xE_38 (xE_38.drop 16) [.ref 39, .int a1, .int a2, .null, .null, .null] [] (sa, sk, sf, sc, sz) Q := by
  unfold w_38_16 at h
  exact n_ret0 rfl h
set_option maxRecDepth 20000 in
theorem k_38_0_39r {d d0 : Nat} (hd : d = d0 + 4) (hc : ∀ p ∈ s_w38, CTR (yex d) p.1 p.2)  {a1 : Int32} {a2 : Int32} {sa : Int32} {sk : Int32} {sf : Int32} {sc : Int32} {sz : Int32} {Q : Option Value → sW → Prop}  (h : w_38_0 (fun k => Tt d wbL (wk_38r 39 k) (wk_38r 39 k)) 39  a1 a2 sa sk sf sc sz Q) : Rn d wbL (((82, 3), 39, []) : wW) (((82, 3), 39, []) : wW) xL_4 3 (none) xE_38 (xE_38.drop 0) [.ref 39, .int a1, .int a2, .null, .null, .null] [] (sa, sk, sf, sc, sz) Q := by
  unfold w_38_0 at h
  refine n_ld rfl rfl rfl ?_
  refine n_get (v := .int sf) rfl (hv_f (a := 39) rfl rfl (fun _ _ hw => hw.1.2.2.1)) ?_
  refine n_brN rfl rfl ⟨fun hcn => ?_, fun hcn => ?_⟩
  · replace h := h.1 (fun q => hcn ((i_eq (x := sf) (y := 0) rfl (show (0 : Int32).toInt = 0 by decide)).mpr q))
    exact k_38_16_39r hd hc  h
  · replace h := h.2 ((i_eq (x := sf) (y := 0) rfl (show (0 : Int32).toInt = 0 by decide)).mp hcn)
    refine n_ld rfl rfl rfl ?_
    refine n_brP rfl rfl ⟨fun hcn => ?_, fun hcn => ?_⟩
    · replace h := h.1 ((i_eq (x := a1) (y := 0) rfl (show (0 : Int32).toInt = 0 by decide)).mp hcn)
      exact k_38_16_39r hd hc  h
    · replace h := h.2 (fun q => hcn ((i_eq (x := a1) (y := 0) rfl (show (0 : Int32).toInt = 0 by decide)).mpr q))
      refine n_ld rfl rfl rfl ?_
      refine n_ld rfl rfl rfl ?_
      refine n_c [.int 16, .int a1, .ref 39] (xo_push (.int 16)) rfl rfl ?_
      refine n_ld rfl rfl rfl ?_
      refine n_get (v := .ref 40) rfl (hv_R (a := 39) rfl rfl) ?_
      refine n_get (v := .ref 45) rfl (hv_R (a := 40) rfl rfl) ?_
      refine n_ld rfl rfl rfl ?_
      refine n_row a2 [.int 16, .int a1, .ref 39] (a := 45) hd rfl rfl rfl rfl (fun x1 g1 g2 g3 => ?_)
      replace h := h x1 g1
      replace h := h _ (i_mul (x := 16) (y := x1) (show (16 : Int32).toInt = 16 by decide) rfl)
      replace h := h (i_mulm (x := 16) (y := x1) (show (16 : Int32).toInt = 16 by decide) rfl)
      refine n_c [.int (16 * x1), .int a1, .ref 39] xo_imul rfl rfl ?_
      replace h := h _ (i_add (x := a1) (y := (16 * x1)) rfl rfl)
      replace h := h (i_addm (x := a1) (y := (16 * x1)) rfl rfl)
      refine n_c [.int (a1 + (16 * x1)), .ref 39] xo_iadd rfl rfl ?_
      refine n_put (a := 39) (w1 := (((82, 3), 39, []) : wW)) (s1 := (sa, sk, (a1 + (16 * x1)), sc, sz)) rfl rfl rfl rfl (vK_int _) rfl rfl rfl (Or.inr (Or.inr (fun q => h.1 (z32.mpr (Value.int.inj q))))) (ws_fl (w := (((82, 3), 39, []) : wW)) (s := (sa, sk, sf, sc, sz)) rfl) ?_
      replace h := h.2
      exact k_38_16_39r hd hc  h
theorem t_38_39r {d : Nat} (hc : ∀ p ∈ s_w38, CTR (yex (d + 4)) p.1 p.2) {a1 : Int32} {a2 : Int32} {sa : Int32} {sk : Int32} {sf : Int32} {sc : Int32} {sz : Int32} {Q : Option Value → sW → Prop} (h : w_38_0 (fun k => Tt (d + 4) wbL (wk_38r 39 k) (wk_38r 39 k)) 39 a1 a2 sa sk sf sc sz Q) : Tt (d + 5) wbL (((82, 3), 39, []) : wW) (((82, 3), 39, []) : wW) 38 [.ref 39, .int a1, .int a2] (sa, sk, sf, sc, sz) Q := tt_of (E := xE_38) (L := xL_4) (ml := 3) (ret := none) rfl rfl rfl (k_38_0_39r rfl hc h)
/-! ===== the class: what its methods must be given (by wip/p2/cdec.py) ===== -/
def wtL : List (Nat × Nat) := [(5, 3)]
/-! FeatherBench$Reader.took -/
def wk_72 (P : Nat) : Nat → wW
  | _ => (((82, 3), P, [(82, 0, P), (82, 1, (P + 1)), (82, 2, (P + 4))]) : wW)
def s_w72 : List (Nat × cSg) := []
def wk_72k (P : Nat) : Nat → wW
  | _ => (((82, 3), P, [(82, 0, P), (82, 1, (P + 1)), (82, 2, 43)]) : wW)
def wk_72t (P : Nat) : Nat → wW
  | _ => (((82, 3), P, [(82, 0, P), (82, 1, 40), (82, 2, (P + 4))]) : wW)
def wk_72tk (P : Nat) : Nat → wW
  | _ => (((82, 3), P, [(82, 0, P), (82, 1, 40), (82, 2, 43)]) : wW)
def wk_72TK (P : Nat) : Nat → wW
  | _ => (((82, 3), P, [(82, 0, P), (82, 1, 4), (82, 2, 7)]) : wW)
def wk_72T (P : Nat) : Nat → wW
  | _ => (((82, 3), P, [(82, 0, P), (82, 1, 4), (82, 2, (P + 4))]) : wW)
def wk_72K (P : Nat) : Nat → wW
  | _ => (((82, 3), P, [(82, 0, P), (82, 1, (P + 1)), (82, 2, 7)]) : wW)
def w_72_23 (T : Nat → Nat → List Value → sW → (Option Value → sW → Prop) → Prop) (P : Nat)  (a1 : Int32) (a2 : Int32) (sa : Int32) (sk : Int32) (sf : Int32) (sc : Int32) (sz : Int32) (Q : Option Value → sW → Prop) : Prop :=
  (a2.toInt = 0 ∨ a2.toInt = 1) ∧ Q (some (.int a2)) (sa, sk, sf, sc, sz)
def w_72_14 (T : Nat → Nat → List Value → sW → (Option Value → sW → Prop) → Prop) (P : Nat)  (a1 : Int32) (t0 : Int32) (sa : Int32) (sk : Int32) (sf : Int32) (sc : Int32) (sz : Int32) (Q : Option Value → sW → Prop) : Prop :=
  (t0.toInt = 0 → w_72_23 T P  a1 t0 sa sk sf sc sz Q) ∧ (¬ (t0.toInt = 0) → ∀ x1 : Int32, (-2147483648 ≤ sa.toInt + 1 ∧ sa.toInt + 1 ≤ 2147483647 → x1.toInt = sa.toInt + 1) → x1.toInt % 16 = (sa.toInt + 1) % 16 → (0 ≤ x1.toInt ∧ x1.toInt ≤ 5000) ∧ (w_72_23 T P  a1 t0 x1 sk sf sc sz Q))
def w_72_13 (T : Nat → Nat → List Value → sW → (Option Value → sW → Prop) → Prop) (P : Nat)  (a1 : Int32) (sa : Int32) (sk : Int32) (sf : Int32) (sc : Int32) (sz : Int32) (Q : Option Value → sW → Prop) : Prop :=
  w_72_14 T P  a1 0 sa sk sf sc sz Q
def w_72_0 (T : Nat → Nat → List Value → sW → (Option Value → sW → Prop) → Prop) (P : Nat)  (a1 : Int32) (sa : Int32) (sk : Int32) (sf : Int32) (sc : Int32) (sz : Int32) (Q : Option Value → sW → Prop) : Prop :=
  (¬ (sf.toInt = 0) → w_72_13 T P  a1 sa sk sf sc sz Q) ∧ (sf.toInt = 0 → ∀ x1 : Int32, (¬ x1.toInt = 0 → 0 ≤ sa.toInt ∧ sa.toInt < 4002) → (¬ (x1.toInt = a1.toInt) → w_72_13 T P  a1 sa sk sf sc sz Q) ∧ (x1.toInt = a1.toInt → w_72_14 T P  a1 1 sa sk sf sc sz Q))
set_option maxRecDepth 20000 in
theorem k_72_23_3 {d d0 : Nat} (hd : d = d0 + 4) (hc : ∀ p ∈ s_w72, CTR (yex d) p.1 p.2)  {a1 : Int32} {a2 : Int32} {sa : Int32} {sk : Int32} {sf : Int32} {sc : Int32} {sz : Int32} {Q : Option Value → sW → Prop}  (h : w_72_23 (fun k => Tt d wtL (wk_72 3 k) (wk_72 3 k)) 3  a1 a2 sa sk sf sc sz Q) : Rn d wtL (((82, 3), 3, [(82, 0, 3), (82, 1, 4), (82, 2, 7)]) : wW) (((82, 3), 3, [(82, 0, 3), (82, 1, 4), (82, 2, 7)]) : wW) xL_5 3 (some .boolean) xE_72 (xE_72.drop 23) [.ref 82, .int a1, .int a2, .null, .null] [] (sa, sk, sf, sc, sz) Q := by
  unfold w_72_23 at h
  refine n_ld rfl rfl rfl ?_
  exact n_retZ rfl (i_z (x := a2) rfl h.1) h.2
set_option maxRecDepth 20000 in
theorem k_72_14_3 {d d0 : Nat} (hd : d = d0 + 4) (hc : ∀ p ∈ s_w72, CTR (yex d) p.1 p.2)  {a1 : Int32} {t0 : Int32} {sa : Int32} {sk : Int32} {sf : Int32} {sc : Int32} {sz : Int32} {Q : Option Value → sW → Prop}  (h : w_72_14 (fun k => Tt d wtL (wk_72 3 k) (wk_72 3 k)) 3  a1 t0 sa sk sf sc sz Q) : Rn d wtL (((82, 3), 3, [(82, 0, 3), (82, 1, 4), (82, 2, 7)]) : wW) (((82, 3), 3, [(82, 0, 3), (82, 1, 4), (82, 2, 7)]) : wW) xL_5 3 (some .boolean) xE_72 (xE_72.drop 14) [.ref 82, .int a1, .null, .null, .null] [.int t0] (sa, sk, sf, sc, sz) Q := by
  unfold w_72_14 at h
  refine n_st [.ref 82, .int a1, .int t0, .null, .null] rfl rfl rfl ?_
  refine n_ld rfl rfl rfl ?_
  refine n_brP rfl rfl ⟨fun hcn => ?_, fun hcn => ?_⟩
  · replace h := h.1 ((i_eq (x := t0) (y := 0) rfl (show (0 : Int32).toInt = 0 by decide)).mp hcn)
    exact k_72_23_3 hd hc  h
  · replace h := h.2 (fun q => hcn ((i_eq (x := t0) (y := 0) rfl (show (0 : Int32).toInt = 0 by decide)).mpr q))
    refine n_ld rfl rfl rfl ?_
    refine n_c [.ref 82, .ref 82] xo_dup rfl rfl ?_
    refine n_get (v := .int sa) rfl (hv_f (a := 82) rfl rfl (fun _ _ hw => hw.1.1)) ?_
    refine n_c [.int 1, .int sa, .ref 82] (xo_push (.int 1)) rfl rfl ?_
    replace h := h _ (i_add (x := sa) (y := 1) rfl (show (1 : Int32).toInt = 1 by decide))
    replace h := h (i_addm (x := sa) (y := 1) rfl (show (1 : Int32).toInt = 1 by decide))
    refine n_c [.int (sa + 1), .ref 82] xo_iadd rfl rfl ?_
    refine n_put (a := 82) (w1 := (((82, 3), 3, [(82, 0, 3), (82, 1, 4), (82, 2, 7)]) : wW)) (s1 := ((sa + 1), sk, sf, sc, sz)) rfl rfl rfl rfl ⟨_, rfl, h.1.1, h.1.2⟩ rfl rfl rfl (Or.inr (Or.inl (by decide +kernel))) (ws_at (w := (((82, 3), 3, [(82, 0, 3), (82, 1, 4), (82, 2, 7)]) : wW)) (s := (sa, sk, sf, sc, sz)) rfl) ?_
    replace h := h.2
    exact k_72_23_3 hd hc  h
set_option maxRecDepth 20000 in
theorem k_72_13_3 {d d0 : Nat} (hd : d = d0 + 4) (hc : ∀ p ∈ s_w72, CTR (yex d) p.1 p.2)  {a1 : Int32} {sa : Int32} {sk : Int32} {sf : Int32} {sc : Int32} {sz : Int32} {Q : Option Value → sW → Prop}  (h : w_72_13 (fun k => Tt d wtL (wk_72 3 k) (wk_72 3 k)) 3  a1 sa sk sf sc sz Q) : Rn d wtL (((82, 3), 3, [(82, 0, 3), (82, 1, 4), (82, 2, 7)]) : wW) (((82, 3), 3, [(82, 0, 3), (82, 1, 4), (82, 2, 7)]) : wW) xL_5 3 (some .boolean) xE_72 (xE_72.drop 13) [.ref 82, .int a1, .null, .null, .null] [] (sa, sk, sf, sc, sz) Q := by
  unfold w_72_13 at h
  refine n_c [.int 0] (xo_push (.int 0)) rfl rfl ?_
  exact k_72_14_3 hd hc  h
set_option maxRecDepth 20000 in
theorem k_72_0_3 {d d0 : Nat} (hd : d = d0 + 4) (hc : ∀ p ∈ s_w72, CTR (yex d) p.1 p.2)  {a1 : Int32} {sa : Int32} {sk : Int32} {sf : Int32} {sc : Int32} {sz : Int32} {Q : Option Value → sW → Prop}  (h : w_72_0 (fun k => Tt d wtL (wk_72 3 k) (wk_72 3 k)) 3  a1 sa sk sf sc sz Q) : Rn d wtL (((82, 3), 3, [(82, 0, 3), (82, 1, 4), (82, 2, 7)]) : wW) (((82, 3), 3, [(82, 0, 3), (82, 1, 4), (82, 2, 7)]) : wW) xL_5 3 (some .boolean) xE_72 (xE_72.drop 0) [.ref 82, .int a1, .null, .null, .null] [] (sa, sk, sf, sc, sz) Q := by
  unfold w_72_0 at h
  refine n_ld rfl rfl rfl ?_
  refine n_get (v := .ref 3) rfl (hv_C (a := 82) (n := 0) rfl rfl rfl) ?_
  refine n_get (v := .int sf) rfl (hv_f (a := 3) rfl rfl (fun _ _ hw => hw.1.2.2.1)) ?_
  refine n_brN rfl rfl ⟨fun hcn => ?_, fun hcn => ?_⟩
  · replace h := h.1 (fun q => hcn ((i_eq (x := sf) (y := 0) rfl (show (0 : Int32).toInt = 0 by decide)).mpr q))
    exact k_72_13_3 hd hc  h
  · replace h := h.2 ((i_eq (x := sf) (y := 0) rfl (show (0 : Int32).toInt = 0 by decide)).mp hcn)
    refine n_ld rfl rfl rfl ?_
    refine n_get (v := .ref 7) rfl (hv_C (a := 82) (n := 2) rfl rfl rfl) ?_
    refine n_ld rfl rfl rfl ?_
    refine n_get (v := .int sa) rfl (hv_f (a := 82) rfl rfl (fun _ _ hw => hw.1.1)) ?_
    refine n_row sa [] (a := 7) hd rfl rfl rfl rfl (fun x1 g1 g2 g3 => ?_)
    replace h := h x1 g2
    refine n_ld rfl rfl rfl ?_
    refine n_brN rfl rfl ⟨fun hcn => ?_, fun hcn => ?_⟩
    · replace h := h.1 (fun q => hcn ((i_eq (x := x1) (y := a1) rfl rfl).mpr q))
      exact k_72_13_3 hd hc  h
    · replace h := h.2 ((i_eq (x := x1) (y := a1) rfl rfl).mp hcn)
      refine n_c [.int 1] (xo_push (.int 1)) rfl rfl ?_
      refine n_go rfl ?_
      exact k_72_14_3 hd hc  h
theorem t_72_3 {d : Nat} (hc : ∀ p ∈ s_w72, CTR (yex (d + 4)) p.1 p.2) {a1 : Int32} {sa : Int32} {sk : Int32} {sf : Int32} {sc : Int32} {sz : Int32} {Q : Option Value → sW → Prop} (h : w_72_0 (fun k => Tt (d + 4) wtL (wk_72 3 k) (wk_72 3 k)) 3 a1 sa sk sf sc sz Q) : Tt (d + 5) wtL (((82, 3), 3, [(82, 0, 3), (82, 1, 4), (82, 2, 7)]) : wW) (((82, 3), 3, [(82, 0, 3), (82, 1, 4), (82, 2, 7)]) : wW) 72 [.ref 82, .int a1] (sa, sk, sf, sc, sz) Q := tt_of (E := xE_72) (L := xL_5) (ml := 3) (ret := some .boolean) rfl rfl rfl (k_72_0_3 rfl hc h)
set_option maxRecDepth 20000 in
theorem k_72_23_3k {d d0 : Nat} (hd : d = d0 + 4) (hc : ∀ p ∈ s_w72, CTR (yex d) p.1 p.2)  {a1 : Int32} {a2 : Int32} {sa : Int32} {sk : Int32} {sf : Int32} {sc : Int32} {sz : Int32} {Q : Option Value → sW → Prop}  (h : w_72_23 (fun k => Tt d wtL (wk_72k 3 k) (wk_72k 3 k)) 3  a1 a2 sa sk sf sc sz Q) : Rn d wtL (((82, 3), 3, [(82, 0, 3), (82, 1, 4), (82, 2, 43)]) : wW) (((82, 3), 3, [(82, 0, 3), (82, 1, 4), (82, 2, 43)]) : wW) xL_5 3 (some .boolean) xE_72 (xE_72.drop 23) [.ref 82, .int a1, .int a2, .null, .null] [] (sa, sk, sf, sc, sz) Q := by
  unfold w_72_23 at h
  refine n_ld rfl rfl rfl ?_
  exact n_retZ rfl (i_z (x := a2) rfl h.1) h.2
set_option maxRecDepth 20000 in
theorem k_72_14_3k {d d0 : Nat} (hd : d = d0 + 4) (hc : ∀ p ∈ s_w72, CTR (yex d) p.1 p.2)  {a1 : Int32} {t0 : Int32} {sa : Int32} {sk : Int32} {sf : Int32} {sc : Int32} {sz : Int32} {Q : Option Value → sW → Prop}  (h : w_72_14 (fun k => Tt d wtL (wk_72k 3 k) (wk_72k 3 k)) 3  a1 t0 sa sk sf sc sz Q) : Rn d wtL (((82, 3), 3, [(82, 0, 3), (82, 1, 4), (82, 2, 43)]) : wW) (((82, 3), 3, [(82, 0, 3), (82, 1, 4), (82, 2, 43)]) : wW) xL_5 3 (some .boolean) xE_72 (xE_72.drop 14) [.ref 82, .int a1, .null, .null, .null] [.int t0] (sa, sk, sf, sc, sz) Q := by
  unfold w_72_14 at h
  refine n_st [.ref 82, .int a1, .int t0, .null, .null] rfl rfl rfl ?_
  refine n_ld rfl rfl rfl ?_
  refine n_brP rfl rfl ⟨fun hcn => ?_, fun hcn => ?_⟩
  · replace h := h.1 ((i_eq (x := t0) (y := 0) rfl (show (0 : Int32).toInt = 0 by decide)).mp hcn)
    exact k_72_23_3k hd hc  h
  · replace h := h.2 (fun q => hcn ((i_eq (x := t0) (y := 0) rfl (show (0 : Int32).toInt = 0 by decide)).mpr q))
    refine n_ld rfl rfl rfl ?_
    refine n_c [.ref 82, .ref 82] xo_dup rfl rfl ?_
    refine n_get (v := .int sa) rfl (hv_f (a := 82) rfl rfl (fun _ _ hw => hw.1.1)) ?_
    refine n_c [.int 1, .int sa, .ref 82] (xo_push (.int 1)) rfl rfl ?_
    replace h := h _ (i_add (x := sa) (y := 1) rfl (show (1 : Int32).toInt = 1 by decide))
    replace h := h (i_addm (x := sa) (y := 1) rfl (show (1 : Int32).toInt = 1 by decide))
    refine n_c [.int (sa + 1), .ref 82] xo_iadd rfl rfl ?_
    refine n_put (a := 82) (w1 := (((82, 3), 3, [(82, 0, 3), (82, 1, 4), (82, 2, 43)]) : wW)) (s1 := ((sa + 1), sk, sf, sc, sz)) rfl rfl rfl rfl ⟨_, rfl, h.1.1, h.1.2⟩ rfl rfl rfl (Or.inr (Or.inl (by decide +kernel))) (ws_at (w := (((82, 3), 3, [(82, 0, 3), (82, 1, 4), (82, 2, 43)]) : wW)) (s := (sa, sk, sf, sc, sz)) rfl) ?_
    replace h := h.2
    exact k_72_23_3k hd hc  h
set_option maxRecDepth 20000 in
theorem k_72_13_3k {d d0 : Nat} (hd : d = d0 + 4) (hc : ∀ p ∈ s_w72, CTR (yex d) p.1 p.2)  {a1 : Int32} {sa : Int32} {sk : Int32} {sf : Int32} {sc : Int32} {sz : Int32} {Q : Option Value → sW → Prop}  (h : w_72_13 (fun k => Tt d wtL (wk_72k 3 k) (wk_72k 3 k)) 3  a1 sa sk sf sc sz Q) : Rn d wtL (((82, 3), 3, [(82, 0, 3), (82, 1, 4), (82, 2, 43)]) : wW) (((82, 3), 3, [(82, 0, 3), (82, 1, 4), (82, 2, 43)]) : wW) xL_5 3 (some .boolean) xE_72 (xE_72.drop 13) [.ref 82, .int a1, .null, .null, .null] [] (sa, sk, sf, sc, sz) Q := by
  unfold w_72_13 at h
  refine n_c [.int 0] (xo_push (.int 0)) rfl rfl ?_
  exact k_72_14_3k hd hc  h
set_option maxRecDepth 20000 in
theorem k_72_0_3k {d d0 : Nat} (hd : d = d0 + 4) (hc : ∀ p ∈ s_w72, CTR (yex d) p.1 p.2)  {a1 : Int32} {sa : Int32} {sk : Int32} {sf : Int32} {sc : Int32} {sz : Int32} {Q : Option Value → sW → Prop}  (h : w_72_0 (fun k => Tt d wtL (wk_72k 3 k) (wk_72k 3 k)) 3  a1 sa sk sf sc sz Q) : Rn d wtL (((82, 3), 3, [(82, 0, 3), (82, 1, 4), (82, 2, 43)]) : wW) (((82, 3), 3, [(82, 0, 3), (82, 1, 4), (82, 2, 43)]) : wW) xL_5 3 (some .boolean) xE_72 (xE_72.drop 0) [.ref 82, .int a1, .null, .null, .null] [] (sa, sk, sf, sc, sz) Q := by
  unfold w_72_0 at h
  refine n_ld rfl rfl rfl ?_
  refine n_get (v := .ref 3) rfl (hv_C (a := 82) (n := 0) rfl rfl rfl) ?_
  refine n_get (v := .int sf) rfl (hv_f (a := 3) rfl rfl (fun _ _ hw => hw.1.2.2.1)) ?_
  refine n_brN rfl rfl ⟨fun hcn => ?_, fun hcn => ?_⟩
  · replace h := h.1 (fun q => hcn ((i_eq (x := sf) (y := 0) rfl (show (0 : Int32).toInt = 0 by decide)).mpr q))
    exact k_72_13_3k hd hc  h
  · replace h := h.2 ((i_eq (x := sf) (y := 0) rfl (show (0 : Int32).toInt = 0 by decide)).mp hcn)
    refine n_ld rfl rfl rfl ?_
    refine n_get (v := .ref 43) rfl (hv_C (a := 82) (n := 2) rfl rfl rfl) ?_
    refine n_ld rfl rfl rfl ?_
    refine n_get (v := .int sa) rfl (hv_f (a := 82) rfl rfl (fun _ _ hw => hw.1.1)) ?_
    refine n_row sa [] (a := 43) hd rfl rfl rfl rfl (fun x1 g1 g2 g3 => ?_)
    replace h := h x1 g2
    refine n_ld rfl rfl rfl ?_
    refine n_brN rfl rfl ⟨fun hcn => ?_, fun hcn => ?_⟩
    · replace h := h.1 (fun q => hcn ((i_eq (x := x1) (y := a1) rfl rfl).mpr q))
      exact k_72_13_3k hd hc  h
    · replace h := h.2 ((i_eq (x := x1) (y := a1) rfl rfl).mp hcn)
      refine n_c [.int 1] (xo_push (.int 1)) rfl rfl ?_
      refine n_go rfl ?_
      exact k_72_14_3k hd hc  h
theorem t_72_3k {d : Nat} (hc : ∀ p ∈ s_w72, CTR (yex (d + 4)) p.1 p.2) {a1 : Int32} {sa : Int32} {sk : Int32} {sf : Int32} {sc : Int32} {sz : Int32} {Q : Option Value → sW → Prop} (h : w_72_0 (fun k => Tt (d + 4) wtL (wk_72k 3 k) (wk_72k 3 k)) 3 a1 sa sk sf sc sz Q) : Tt (d + 5) wtL (((82, 3), 3, [(82, 0, 3), (82, 1, 4), (82, 2, 43)]) : wW) (((82, 3), 3, [(82, 0, 3), (82, 1, 4), (82, 2, 43)]) : wW) 72 [.ref 82, .int a1] (sa, sk, sf, sc, sz) Q := tt_of (E := xE_72) (L := xL_5) (ml := 3) (ret := some .boolean) rfl rfl rfl (k_72_0_3k rfl hc h)
set_option maxRecDepth 20000 in
theorem k_72_23_3t {d d0 : Nat} (hd : d = d0 + 4) (hc : ∀ p ∈ s_w72, CTR (yex d) p.1 p.2)  {a1 : Int32} {a2 : Int32} {sa : Int32} {sk : Int32} {sf : Int32} {sc : Int32} {sz : Int32} {Q : Option Value → sW → Prop}  (h : w_72_23 (fun k => Tt d wtL (wk_72t 3 k) (wk_72t 3 k)) 3  a1 a2 sa sk sf sc sz Q) : Rn d wtL (((82, 3), 3, [(82, 0, 3), (82, 1, 40), (82, 2, 7)]) : wW) (((82, 3), 3, [(82, 0, 3), (82, 1, 40), (82, 2, 7)]) : wW) xL_5 3 (some .boolean) xE_72 (xE_72.drop 23) [.ref 82, .int a1, .int a2, .null, .null] [] (sa, sk, sf, sc, sz) Q := by
  unfold w_72_23 at h
  refine n_ld rfl rfl rfl ?_
  exact n_retZ rfl (i_z (x := a2) rfl h.1) h.2
set_option maxRecDepth 20000 in
theorem k_72_14_3t {d d0 : Nat} (hd : d = d0 + 4) (hc : ∀ p ∈ s_w72, CTR (yex d) p.1 p.2)  {a1 : Int32} {t0 : Int32} {sa : Int32} {sk : Int32} {sf : Int32} {sc : Int32} {sz : Int32} {Q : Option Value → sW → Prop}  (h : w_72_14 (fun k => Tt d wtL (wk_72t 3 k) (wk_72t 3 k)) 3  a1 t0 sa sk sf sc sz Q) : Rn d wtL (((82, 3), 3, [(82, 0, 3), (82, 1, 40), (82, 2, 7)]) : wW) (((82, 3), 3, [(82, 0, 3), (82, 1, 40), (82, 2, 7)]) : wW) xL_5 3 (some .boolean) xE_72 (xE_72.drop 14) [.ref 82, .int a1, .null, .null, .null] [.int t0] (sa, sk, sf, sc, sz) Q := by
  unfold w_72_14 at h
  refine n_st [.ref 82, .int a1, .int t0, .null, .null] rfl rfl rfl ?_
  refine n_ld rfl rfl rfl ?_
  refine n_brP rfl rfl ⟨fun hcn => ?_, fun hcn => ?_⟩
  · replace h := h.1 ((i_eq (x := t0) (y := 0) rfl (show (0 : Int32).toInt = 0 by decide)).mp hcn)
    exact k_72_23_3t hd hc  h
  · replace h := h.2 (fun q => hcn ((i_eq (x := t0) (y := 0) rfl (show (0 : Int32).toInt = 0 by decide)).mpr q))
    refine n_ld rfl rfl rfl ?_
    refine n_c [.ref 82, .ref 82] xo_dup rfl rfl ?_
    refine n_get (v := .int sa) rfl (hv_f (a := 82) rfl rfl (fun _ _ hw => hw.1.1)) ?_
    refine n_c [.int 1, .int sa, .ref 82] (xo_push (.int 1)) rfl rfl ?_
    replace h := h _ (i_add (x := sa) (y := 1) rfl (show (1 : Int32).toInt = 1 by decide))
    replace h := h (i_addm (x := sa) (y := 1) rfl (show (1 : Int32).toInt = 1 by decide))
    refine n_c [.int (sa + 1), .ref 82] xo_iadd rfl rfl ?_
    refine n_put (a := 82) (w1 := (((82, 3), 3, [(82, 0, 3), (82, 1, 40), (82, 2, 7)]) : wW)) (s1 := ((sa + 1), sk, sf, sc, sz)) rfl rfl rfl rfl ⟨_, rfl, h.1.1, h.1.2⟩ rfl rfl rfl (Or.inr (Or.inl (by decide +kernel))) (ws_at (w := (((82, 3), 3, [(82, 0, 3), (82, 1, 40), (82, 2, 7)]) : wW)) (s := (sa, sk, sf, sc, sz)) rfl) ?_
    replace h := h.2
    exact k_72_23_3t hd hc  h
set_option maxRecDepth 20000 in
theorem k_72_13_3t {d d0 : Nat} (hd : d = d0 + 4) (hc : ∀ p ∈ s_w72, CTR (yex d) p.1 p.2)  {a1 : Int32} {sa : Int32} {sk : Int32} {sf : Int32} {sc : Int32} {sz : Int32} {Q : Option Value → sW → Prop}  (h : w_72_13 (fun k => Tt d wtL (wk_72t 3 k) (wk_72t 3 k)) 3  a1 sa sk sf sc sz Q) : Rn d wtL (((82, 3), 3, [(82, 0, 3), (82, 1, 40), (82, 2, 7)]) : wW) (((82, 3), 3, [(82, 0, 3), (82, 1, 40), (82, 2, 7)]) : wW) xL_5 3 (some .boolean) xE_72 (xE_72.drop 13) [.ref 82, .int a1, .null, .null, .null] [] (sa, sk, sf, sc, sz) Q := by
  unfold w_72_13 at h
  refine n_c [.int 0] (xo_push (.int 0)) rfl rfl ?_
  exact k_72_14_3t hd hc  h
set_option maxRecDepth 20000 in
theorem k_72_0_3t {d d0 : Nat} (hd : d = d0 + 4) (hc : ∀ p ∈ s_w72, CTR (yex d) p.1 p.2)  {a1 : Int32} {sa : Int32} {sk : Int32} {sf : Int32} {sc : Int32} {sz : Int32} {Q : Option Value → sW → Prop}  (h : w_72_0 (fun k => Tt d wtL (wk_72t 3 k) (wk_72t 3 k)) 3  a1 sa sk sf sc sz Q) : Rn d wtL (((82, 3), 3, [(82, 0, 3), (82, 1, 40), (82, 2, 7)]) : wW) (((82, 3), 3, [(82, 0, 3), (82, 1, 40), (82, 2, 7)]) : wW) xL_5 3 (some .boolean) xE_72 (xE_72.drop 0) [.ref 82, .int a1, .null, .null, .null] [] (sa, sk, sf, sc, sz) Q := by
  unfold w_72_0 at h
  refine n_ld rfl rfl rfl ?_
  refine n_get (v := .ref 3) rfl (hv_C (a := 82) (n := 0) rfl rfl rfl) ?_
  refine n_get (v := .int sf) rfl (hv_f (a := 3) rfl rfl (fun _ _ hw => hw.1.2.2.1)) ?_
  refine n_brN rfl rfl ⟨fun hcn => ?_, fun hcn => ?_⟩
  · replace h := h.1 (fun q => hcn ((i_eq (x := sf) (y := 0) rfl (show (0 : Int32).toInt = 0 by decide)).mpr q))
    exact k_72_13_3t hd hc  h
  · replace h := h.2 ((i_eq (x := sf) (y := 0) rfl (show (0 : Int32).toInt = 0 by decide)).mp hcn)
    refine n_ld rfl rfl rfl ?_
    refine n_get (v := .ref 7) rfl (hv_C (a := 82) (n := 2) rfl rfl rfl) ?_
    refine n_ld rfl rfl rfl ?_
    refine n_get (v := .int sa) rfl (hv_f (a := 82) rfl rfl (fun _ _ hw => hw.1.1)) ?_
    refine n_row sa [] (a := 7) hd rfl rfl rfl rfl (fun x1 g1 g2 g3 => ?_)
    replace h := h x1 g2
    refine n_ld rfl rfl rfl ?_
    refine n_brN rfl rfl ⟨fun hcn => ?_, fun hcn => ?_⟩
    · replace h := h.1 (fun q => hcn ((i_eq (x := x1) (y := a1) rfl rfl).mpr q))
      exact k_72_13_3t hd hc  h
    · replace h := h.2 ((i_eq (x := x1) (y := a1) rfl rfl).mp hcn)
      refine n_c [.int 1] (xo_push (.int 1)) rfl rfl ?_
      refine n_go rfl ?_
      exact k_72_14_3t hd hc  h
theorem t_72_3t {d : Nat} (hc : ∀ p ∈ s_w72, CTR (yex (d + 4)) p.1 p.2) {a1 : Int32} {sa : Int32} {sk : Int32} {sf : Int32} {sc : Int32} {sz : Int32} {Q : Option Value → sW → Prop} (h : w_72_0 (fun k => Tt (d + 4) wtL (wk_72t 3 k) (wk_72t 3 k)) 3 a1 sa sk sf sc sz Q) : Tt (d + 5) wtL (((82, 3), 3, [(82, 0, 3), (82, 1, 40), (82, 2, 7)]) : wW) (((82, 3), 3, [(82, 0, 3), (82, 1, 40), (82, 2, 7)]) : wW) 72 [.ref 82, .int a1] (sa, sk, sf, sc, sz) Q := tt_of (E := xE_72) (L := xL_5) (ml := 3) (ret := some .boolean) rfl rfl rfl (k_72_0_3t rfl hc h)
set_option maxRecDepth 20000 in
theorem k_72_23_3tk {d d0 : Nat} (hd : d = d0 + 4) (hc : ∀ p ∈ s_w72, CTR (yex d) p.1 p.2)  {a1 : Int32} {a2 : Int32} {sa : Int32} {sk : Int32} {sf : Int32} {sc : Int32} {sz : Int32} {Q : Option Value → sW → Prop}  (h : w_72_23 (fun k => Tt d wtL (wk_72tk 3 k) (wk_72tk 3 k)) 3  a1 a2 sa sk sf sc sz Q) : Rn d wtL (((82, 3), 3, [(82, 0, 3), (82, 1, 40), (82, 2, 43)]) : wW) (((82, 3), 3, [(82, 0, 3), (82, 1, 40), (82, 2, 43)]) : wW) xL_5 3 (some .boolean) xE_72 (xE_72.drop 23) [.ref 82, .int a1, .int a2, .null, .null] [] (sa, sk, sf, sc, sz) Q := by
  unfold w_72_23 at h
  refine n_ld rfl rfl rfl ?_
  exact n_retZ rfl (i_z (x := a2) rfl h.1) h.2
set_option maxRecDepth 20000 in
theorem k_72_14_3tk {d d0 : Nat} (hd : d = d0 + 4) (hc : ∀ p ∈ s_w72, CTR (yex d) p.1 p.2)  {a1 : Int32} {t0 : Int32} {sa : Int32} {sk : Int32} {sf : Int32} {sc : Int32} {sz : Int32} {Q : Option Value → sW → Prop}  (h : w_72_14 (fun k => Tt d wtL (wk_72tk 3 k) (wk_72tk 3 k)) 3  a1 t0 sa sk sf sc sz Q) : Rn d wtL (((82, 3), 3, [(82, 0, 3), (82, 1, 40), (82, 2, 43)]) : wW) (((82, 3), 3, [(82, 0, 3), (82, 1, 40), (82, 2, 43)]) : wW) xL_5 3 (some .boolean) xE_72 (xE_72.drop 14) [.ref 82, .int a1, .null, .null, .null] [.int t0] (sa, sk, sf, sc, sz) Q := by
  unfold w_72_14 at h
  refine n_st [.ref 82, .int a1, .int t0, .null, .null] rfl rfl rfl ?_
  refine n_ld rfl rfl rfl ?_
  refine n_brP rfl rfl ⟨fun hcn => ?_, fun hcn => ?_⟩
  · replace h := h.1 ((i_eq (x := t0) (y := 0) rfl (show (0 : Int32).toInt = 0 by decide)).mp hcn)
    exact k_72_23_3tk hd hc  h
  · replace h := h.2 (fun q => hcn ((i_eq (x := t0) (y := 0) rfl (show (0 : Int32).toInt = 0 by decide)).mpr q))
    refine n_ld rfl rfl rfl ?_
    refine n_c [.ref 82, .ref 82] xo_dup rfl rfl ?_
    refine n_get (v := .int sa) rfl (hv_f (a := 82) rfl rfl (fun _ _ hw => hw.1.1)) ?_
    refine n_c [.int 1, .int sa, .ref 82] (xo_push (.int 1)) rfl rfl ?_
    replace h := h _ (i_add (x := sa) (y := 1) rfl (show (1 : Int32).toInt = 1 by decide))
    replace h := h (i_addm (x := sa) (y := 1) rfl (show (1 : Int32).toInt = 1 by decide))
    refine n_c [.int (sa + 1), .ref 82] xo_iadd rfl rfl ?_
    refine n_put (a := 82) (w1 := (((82, 3), 3, [(82, 0, 3), (82, 1, 40), (82, 2, 43)]) : wW)) (s1 := ((sa + 1), sk, sf, sc, sz)) rfl rfl rfl rfl ⟨_, rfl, h.1.1, h.1.2⟩ rfl rfl rfl (Or.inr (Or.inl (by decide +kernel))) (ws_at (w := (((82, 3), 3, [(82, 0, 3), (82, 1, 40), (82, 2, 43)]) : wW)) (s := (sa, sk, sf, sc, sz)) rfl) ?_
    replace h := h.2
    exact k_72_23_3tk hd hc  h
set_option maxRecDepth 20000 in
theorem k_72_13_3tk {d d0 : Nat} (hd : d = d0 + 4) (hc : ∀ p ∈ s_w72, CTR (yex d) p.1 p.2)  {a1 : Int32} {sa : Int32} {sk : Int32} {sf : Int32} {sc : Int32} {sz : Int32} {Q : Option Value → sW → Prop}  (h : w_72_13 (fun k => Tt d wtL (wk_72tk 3 k) (wk_72tk 3 k)) 3  a1 sa sk sf sc sz Q) : Rn d wtL (((82, 3), 3, [(82, 0, 3), (82, 1, 40), (82, 2, 43)]) : wW) (((82, 3), 3, [(82, 0, 3), (82, 1, 40), (82, 2, 43)]) : wW) xL_5 3 (some .boolean) xE_72 (xE_72.drop 13) [.ref 82, .int a1, .null, .null, .null] [] (sa, sk, sf, sc, sz) Q := by
  unfold w_72_13 at h
  refine n_c [.int 0] (xo_push (.int 0)) rfl rfl ?_
  exact k_72_14_3tk hd hc  h
set_option maxRecDepth 20000 in
theorem k_72_0_3tk {d d0 : Nat} (hd : d = d0 + 4) (hc : ∀ p ∈ s_w72, CTR (yex d) p.1 p.2)  {a1 : Int32} {sa : Int32} {sk : Int32} {sf : Int32} {sc : Int32} {sz : Int32} {Q : Option Value → sW → Prop}  (h : w_72_0 (fun k => Tt d wtL (wk_72tk 3 k) (wk_72tk 3 k)) 3  a1 sa sk sf sc sz Q) : Rn d wtL (((82, 3), 3, [(82, 0, 3), (82, 1, 40), (82, 2, 43)]) : wW) (((82, 3), 3, [(82, 0, 3), (82, 1, 40), (82, 2, 43)]) : wW) xL_5 3 (some .boolean) xE_72 (xE_72.drop 0) [.ref 82, .int a1, .null, .null, .null] [] (sa, sk, sf, sc, sz) Q := by
  unfold w_72_0 at h
  refine n_ld rfl rfl rfl ?_
  refine n_get (v := .ref 3) rfl (hv_C (a := 82) (n := 0) rfl rfl rfl) ?_
  refine n_get (v := .int sf) rfl (hv_f (a := 3) rfl rfl (fun _ _ hw => hw.1.2.2.1)) ?_
  refine n_brN rfl rfl ⟨fun hcn => ?_, fun hcn => ?_⟩
  · replace h := h.1 (fun q => hcn ((i_eq (x := sf) (y := 0) rfl (show (0 : Int32).toInt = 0 by decide)).mpr q))
    exact k_72_13_3tk hd hc  h
  · replace h := h.2 ((i_eq (x := sf) (y := 0) rfl (show (0 : Int32).toInt = 0 by decide)).mp hcn)
    refine n_ld rfl rfl rfl ?_
    refine n_get (v := .ref 43) rfl (hv_C (a := 82) (n := 2) rfl rfl rfl) ?_
    refine n_ld rfl rfl rfl ?_
    refine n_get (v := .int sa) rfl (hv_f (a := 82) rfl rfl (fun _ _ hw => hw.1.1)) ?_
    refine n_row sa [] (a := 43) hd rfl rfl rfl rfl (fun x1 g1 g2 g3 => ?_)
    replace h := h x1 g2
    refine n_ld rfl rfl rfl ?_
    refine n_brN rfl rfl ⟨fun hcn => ?_, fun hcn => ?_⟩
    · replace h := h.1 (fun q => hcn ((i_eq (x := x1) (y := a1) rfl rfl).mpr q))
      exact k_72_13_3tk hd hc  h
    · replace h := h.2 ((i_eq (x := x1) (y := a1) rfl rfl).mp hcn)
      refine n_c [.int 1] (xo_push (.int 1)) rfl rfl ?_
      refine n_go rfl ?_
      exact k_72_14_3tk hd hc  h
theorem t_72_3tk {d : Nat} (hc : ∀ p ∈ s_w72, CTR (yex (d + 4)) p.1 p.2) {a1 : Int32} {sa : Int32} {sk : Int32} {sf : Int32} {sc : Int32} {sz : Int32} {Q : Option Value → sW → Prop} (h : w_72_0 (fun k => Tt (d + 4) wtL (wk_72tk 3 k) (wk_72tk 3 k)) 3 a1 sa sk sf sc sz Q) : Tt (d + 5) wtL (((82, 3), 3, [(82, 0, 3), (82, 1, 40), (82, 2, 43)]) : wW) (((82, 3), 3, [(82, 0, 3), (82, 1, 40), (82, 2, 43)]) : wW) 72 [.ref 82, .int a1] (sa, sk, sf, sc, sz) Q := tt_of (E := xE_72) (L := xL_5) (ml := 3) (ret := some .boolean) rfl rfl rfl (k_72_0_3tk rfl hc h)
set_option maxRecDepth 20000 in
theorem k_72_23_39TK {d d0 : Nat} (hd : d = d0 + 4) (hc : ∀ p ∈ s_w72, CTR (yex d) p.1 p.2)  {a1 : Int32} {a2 : Int32} {sa : Int32} {sk : Int32} {sf : Int32} {sc : Int32} {sz : Int32} {Q : Option Value → sW → Prop}  (h : w_72_23 (fun k => Tt d wtL (wk_72TK 39 k) (wk_72TK 39 k)) 39  a1 a2 sa sk sf sc sz Q) : Rn d wtL (((82, 3), 39, [(82, 0, 39), (82, 1, 4), (82, 2, 7)]) : wW) (((82, 3), 39, [(82, 0, 39), (82, 1, 4), (82, 2, 7)]) : wW) xL_5 3 (some .boolean) xE_72 (xE_72.drop 23) [.ref 82, .int a1, .int a2, .null, .null] [] (sa, sk, sf, sc, sz) Q := by
  unfold w_72_23 at h
  refine n_ld rfl rfl rfl ?_
  exact n_retZ rfl (i_z (x := a2) rfl h.1) h.2
set_option maxRecDepth 20000 in
theorem k_72_14_39TK {d d0 : Nat} (hd : d = d0 + 4) (hc : ∀ p ∈ s_w72, CTR (yex d) p.1 p.2)  {a1 : Int32} {t0 : Int32} {sa : Int32} {sk : Int32} {sf : Int32} {sc : Int32} {sz : Int32} {Q : Option Value → sW → Prop}  (h : w_72_14 (fun k => Tt d wtL (wk_72TK 39 k) (wk_72TK 39 k)) 39  a1 t0 sa sk sf sc sz Q) : Rn d wtL (((82, 3), 39, [(82, 0, 39), (82, 1, 4), (82, 2, 7)]) : wW) (((82, 3), 39, [(82, 0, 39), (82, 1, 4), (82, 2, 7)]) : wW) xL_5 3 (some .boolean) xE_72 (xE_72.drop 14) [.ref 82, .int a1, .null, .null, .null] [.int t0] (sa, sk, sf, sc, sz) Q := by
  unfold w_72_14 at h
  refine n_st [.ref 82, .int a1, .int t0, .null, .null] rfl rfl rfl ?_
  refine n_ld rfl rfl rfl ?_
  refine n_brP rfl rfl ⟨fun hcn => ?_, fun hcn => ?_⟩
  · replace h := h.1 ((i_eq (x := t0) (y := 0) rfl (show (0 : Int32).toInt = 0 by decide)).mp hcn)
    exact k_72_23_39TK hd hc  h
  · replace h := h.2 (fun q => hcn ((i_eq (x := t0) (y := 0) rfl (show (0 : Int32).toInt = 0 by decide)).mpr q))
    refine n_ld rfl rfl rfl ?_
    refine n_c [.ref 82, .ref 82] xo_dup rfl rfl ?_
    refine n_get (v := .int sa) rfl (hv_f (a := 82) rfl rfl (fun _ _ hw => hw.1.1)) ?_
    refine n_c [.int 1, .int sa, .ref 82] (xo_push (.int 1)) rfl rfl ?_
    replace h := h _ (i_add (x := sa) (y := 1) rfl (show (1 : Int32).toInt = 1 by decide))
    replace h := h (i_addm (x := sa) (y := 1) rfl (show (1 : Int32).toInt = 1 by decide))
    refine n_c [.int (sa + 1), .ref 82] xo_iadd rfl rfl ?_
    refine n_put (a := 82) (w1 := (((82, 3), 39, [(82, 0, 39), (82, 1, 4), (82, 2, 7)]) : wW)) (s1 := ((sa + 1), sk, sf, sc, sz)) rfl rfl rfl rfl ⟨_, rfl, h.1.1, h.1.2⟩ rfl rfl rfl (Or.inr (Or.inl (by decide +kernel))) (ws_at (w := (((82, 3), 39, [(82, 0, 39), (82, 1, 4), (82, 2, 7)]) : wW)) (s := (sa, sk, sf, sc, sz)) rfl) ?_
    replace h := h.2
    exact k_72_23_39TK hd hc  h
set_option maxRecDepth 20000 in
theorem k_72_13_39TK {d d0 : Nat} (hd : d = d0 + 4) (hc : ∀ p ∈ s_w72, CTR (yex d) p.1 p.2)  {a1 : Int32} {sa : Int32} {sk : Int32} {sf : Int32} {sc : Int32} {sz : Int32} {Q : Option Value → sW → Prop}  (h : w_72_13 (fun k => Tt d wtL (wk_72TK 39 k) (wk_72TK 39 k)) 39  a1 sa sk sf sc sz Q) : Rn d wtL (((82, 3), 39, [(82, 0, 39), (82, 1, 4), (82, 2, 7)]) : wW) (((82, 3), 39, [(82, 0, 39), (82, 1, 4), (82, 2, 7)]) : wW) xL_5 3 (some .boolean) xE_72 (xE_72.drop 13) [.ref 82, .int a1, .null, .null, .null] [] (sa, sk, sf, sc, sz) Q := by
  unfold w_72_13 at h
  refine n_c [.int 0] (xo_push (.int 0)) rfl rfl ?_
  exact k_72_14_39TK hd hc  h
set_option maxRecDepth 20000 in
theorem k_72_0_39TK {d d0 : Nat} (hd : d = d0 + 4) (hc : ∀ p ∈ s_w72, CTR (yex d) p.1 p.2)  {a1 : Int32} {sa : Int32} {sk : Int32} {sf : Int32} {sc : Int32} {sz : Int32} {Q : Option Value → sW → Prop}  (h : w_72_0 (fun k => Tt d wtL (wk_72TK 39 k) (wk_72TK 39 k)) 39  a1 sa sk sf sc sz Q) : Rn d wtL (((82, 3), 39, [(82, 0, 39), (82, 1, 4), (82, 2, 7)]) : wW) (((82, 3), 39, [(82, 0, 39), (82, 1, 4), (82, 2, 7)]) : wW) xL_5 3 (some .boolean) xE_72 (xE_72.drop 0) [.ref 82, .int a1, .null, .null, .null] [] (sa, sk, sf, sc, sz) Q := by
  unfold w_72_0 at h
  refine n_ld rfl rfl rfl ?_
  refine n_get (v := .ref 39) rfl (hv_C (a := 82) (n := 0) rfl rfl rfl) ?_
  refine n_get (v := .int sf) rfl (hv_f (a := 39) rfl rfl (fun _ _ hw => hw.1.2.2.1)) ?_
  refine n_brN rfl rfl ⟨fun hcn => ?_, fun hcn => ?_⟩
  · replace h := h.1 (fun q => hcn ((i_eq (x := sf) (y := 0) rfl (show (0 : Int32).toInt = 0 by decide)).mpr q))
    exact k_72_13_39TK hd hc  h
  · replace h := h.2 ((i_eq (x := sf) (y := 0) rfl (show (0 : Int32).toInt = 0 by decide)).mp hcn)
    refine n_ld rfl rfl rfl ?_
    refine n_get (v := .ref 7) rfl (hv_C (a := 82) (n := 2) rfl rfl rfl) ?_
    refine n_ld rfl rfl rfl ?_
    refine n_get (v := .int sa) rfl (hv_f (a := 82) rfl rfl (fun _ _ hw => hw.1.1)) ?_
    refine n_row sa [] (a := 7) hd rfl rfl rfl rfl (fun x1 g1 g2 g3 => ?_)
    replace h := h x1 g2
    refine n_ld rfl rfl rfl ?_
    refine n_brN rfl rfl ⟨fun hcn => ?_, fun hcn => ?_⟩
    · replace h := h.1 (fun q => hcn ((i_eq (x := x1) (y := a1) rfl rfl).mpr q))
      exact k_72_13_39TK hd hc  h
    · replace h := h.2 ((i_eq (x := x1) (y := a1) rfl rfl).mp hcn)
      refine n_c [.int 1] (xo_push (.int 1)) rfl rfl ?_
      refine n_go rfl ?_
      exact k_72_14_39TK hd hc  h
theorem t_72_39TK {d : Nat} (hc : ∀ p ∈ s_w72, CTR (yex (d + 4)) p.1 p.2) {a1 : Int32} {sa : Int32} {sk : Int32} {sf : Int32} {sc : Int32} {sz : Int32} {Q : Option Value → sW → Prop} (h : w_72_0 (fun k => Tt (d + 4) wtL (wk_72TK 39 k) (wk_72TK 39 k)) 39 a1 sa sk sf sc sz Q) : Tt (d + 5) wtL (((82, 3), 39, [(82, 0, 39), (82, 1, 4), (82, 2, 7)]) : wW) (((82, 3), 39, [(82, 0, 39), (82, 1, 4), (82, 2, 7)]) : wW) 72 [.ref 82, .int a1] (sa, sk, sf, sc, sz) Q := tt_of (E := xE_72) (L := xL_5) (ml := 3) (ret := some .boolean) rfl rfl rfl (k_72_0_39TK rfl hc h)
set_option maxRecDepth 20000 in
theorem k_72_23_39T {d d0 : Nat} (hd : d = d0 + 4) (hc : ∀ p ∈ s_w72, CTR (yex d) p.1 p.2)  {a1 : Int32} {a2 : Int32} {sa : Int32} {sk : Int32} {sf : Int32} {sc : Int32} {sz : Int32} {Q : Option Value → sW → Prop}  (h : w_72_23 (fun k => Tt d wtL (wk_72T 39 k) (wk_72T 39 k)) 39  a1 a2 sa sk sf sc sz Q) : Rn d wtL (((82, 3), 39, [(82, 0, 39), (82, 1, 4), (82, 2, 43)]) : wW) (((82, 3), 39, [(82, 0, 39), (82, 1, 4), (82, 2, 43)]) : wW) xL_5 3 (some .boolean) xE_72 (xE_72.drop 23) [.ref 82, .int a1, .int a2, .null, .null] [] (sa, sk, sf, sc, sz) Q := by
  unfold w_72_23 at h
  refine n_ld rfl rfl rfl ?_
  exact n_retZ rfl (i_z (x := a2) rfl h.1) h.2
set_option maxRecDepth 20000 in
theorem k_72_14_39T {d d0 : Nat} (hd : d = d0 + 4) (hc : ∀ p ∈ s_w72, CTR (yex d) p.1 p.2)  {a1 : Int32} {t0 : Int32} {sa : Int32} {sk : Int32} {sf : Int32} {sc : Int32} {sz : Int32} {Q : Option Value → sW → Prop}  (h : w_72_14 (fun k => Tt d wtL (wk_72T 39 k) (wk_72T 39 k)) 39  a1 t0 sa sk sf sc sz Q) : Rn d wtL (((82, 3), 39, [(82, 0, 39), (82, 1, 4), (82, 2, 43)]) : wW) (((82, 3), 39, [(82, 0, 39), (82, 1, 4), (82, 2, 43)]) : wW) xL_5 3 (some .boolean) xE_72 (xE_72.drop 14) [.ref 82, .int a1, .null, .null, .null] [.int t0] (sa, sk, sf, sc, sz) Q := by
  unfold w_72_14 at h
  refine n_st [.ref 82, .int a1, .int t0, .null, .null] rfl rfl rfl ?_
  refine n_ld rfl rfl rfl ?_
  refine n_brP rfl rfl ⟨fun hcn => ?_, fun hcn => ?_⟩
  · replace h := h.1 ((i_eq (x := t0) (y := 0) rfl (show (0 : Int32).toInt = 0 by decide)).mp hcn)
    exact k_72_23_39T hd hc  h
  · replace h := h.2 (fun q => hcn ((i_eq (x := t0) (y := 0) rfl (show (0 : Int32).toInt = 0 by decide)).mpr q))
    refine n_ld rfl rfl rfl ?_
    refine n_c [.ref 82, .ref 82] xo_dup rfl rfl ?_
    refine n_get (v := .int sa) rfl (hv_f (a := 82) rfl rfl (fun _ _ hw => hw.1.1)) ?_
    refine n_c [.int 1, .int sa, .ref 82] (xo_push (.int 1)) rfl rfl ?_
    replace h := h _ (i_add (x := sa) (y := 1) rfl (show (1 : Int32).toInt = 1 by decide))
    replace h := h (i_addm (x := sa) (y := 1) rfl (show (1 : Int32).toInt = 1 by decide))
    refine n_c [.int (sa + 1), .ref 82] xo_iadd rfl rfl ?_
    refine n_put (a := 82) (w1 := (((82, 3), 39, [(82, 0, 39), (82, 1, 4), (82, 2, 43)]) : wW)) (s1 := ((sa + 1), sk, sf, sc, sz)) rfl rfl rfl rfl ⟨_, rfl, h.1.1, h.1.2⟩ rfl rfl rfl (Or.inr (Or.inl (by decide +kernel))) (ws_at (w := (((82, 3), 39, [(82, 0, 39), (82, 1, 4), (82, 2, 43)]) : wW)) (s := (sa, sk, sf, sc, sz)) rfl) ?_
    replace h := h.2
    exact k_72_23_39T hd hc  h
set_option maxRecDepth 20000 in
theorem k_72_13_39T {d d0 : Nat} (hd : d = d0 + 4) (hc : ∀ p ∈ s_w72, CTR (yex d) p.1 p.2)  {a1 : Int32} {sa : Int32} {sk : Int32} {sf : Int32} {sc : Int32} {sz : Int32} {Q : Option Value → sW → Prop}  (h : w_72_13 (fun k => Tt d wtL (wk_72T 39 k) (wk_72T 39 k)) 39  a1 sa sk sf sc sz Q) : Rn d wtL (((82, 3), 39, [(82, 0, 39), (82, 1, 4), (82, 2, 43)]) : wW) (((82, 3), 39, [(82, 0, 39), (82, 1, 4), (82, 2, 43)]) : wW) xL_5 3 (some .boolean) xE_72 (xE_72.drop 13) [.ref 82, .int a1, .null, .null, .null] [] (sa, sk, sf, sc, sz) Q := by
  unfold w_72_13 at h
  refine n_c [.int 0] (xo_push (.int 0)) rfl rfl ?_
  exact k_72_14_39T hd hc  h
set_option maxRecDepth 20000 in
theorem k_72_0_39T {d d0 : Nat} (hd : d = d0 + 4) (hc : ∀ p ∈ s_w72, CTR (yex d) p.1 p.2)  {a1 : Int32} {sa : Int32} {sk : Int32} {sf : Int32} {sc : Int32} {sz : Int32} {Q : Option Value → sW → Prop}  (h : w_72_0 (fun k => Tt d wtL (wk_72T 39 k) (wk_72T 39 k)) 39  a1 sa sk sf sc sz Q) : Rn d wtL (((82, 3), 39, [(82, 0, 39), (82, 1, 4), (82, 2, 43)]) : wW) (((82, 3), 39, [(82, 0, 39), (82, 1, 4), (82, 2, 43)]) : wW) xL_5 3 (some .boolean) xE_72 (xE_72.drop 0) [.ref 82, .int a1, .null, .null, .null] [] (sa, sk, sf, sc, sz) Q := by
  unfold w_72_0 at h
  refine n_ld rfl rfl rfl ?_
  refine n_get (v := .ref 39) rfl (hv_C (a := 82) (n := 0) rfl rfl rfl) ?_
  refine n_get (v := .int sf) rfl (hv_f (a := 39) rfl rfl (fun _ _ hw => hw.1.2.2.1)) ?_
  refine n_brN rfl rfl ⟨fun hcn => ?_, fun hcn => ?_⟩
  · replace h := h.1 (fun q => hcn ((i_eq (x := sf) (y := 0) rfl (show (0 : Int32).toInt = 0 by decide)).mpr q))
    exact k_72_13_39T hd hc  h
  · replace h := h.2 ((i_eq (x := sf) (y := 0) rfl (show (0 : Int32).toInt = 0 by decide)).mp hcn)
    refine n_ld rfl rfl rfl ?_
    refine n_get (v := .ref 43) rfl (hv_C (a := 82) (n := 2) rfl rfl rfl) ?_
    refine n_ld rfl rfl rfl ?_
    refine n_get (v := .int sa) rfl (hv_f (a := 82) rfl rfl (fun _ _ hw => hw.1.1)) ?_
    refine n_row sa [] (a := 43) hd rfl rfl rfl rfl (fun x1 g1 g2 g3 => ?_)
    replace h := h x1 g2
    refine n_ld rfl rfl rfl ?_
    refine n_brN rfl rfl ⟨fun hcn => ?_, fun hcn => ?_⟩
    · replace h := h.1 (fun q => hcn ((i_eq (x := x1) (y := a1) rfl rfl).mpr q))
      exact k_72_13_39T hd hc  h
    · replace h := h.2 ((i_eq (x := x1) (y := a1) rfl rfl).mp hcn)
      refine n_c [.int 1] (xo_push (.int 1)) rfl rfl ?_
      refine n_go rfl ?_
      exact k_72_14_39T hd hc  h
theorem t_72_39T {d : Nat} (hc : ∀ p ∈ s_w72, CTR (yex (d + 4)) p.1 p.2) {a1 : Int32} {sa : Int32} {sk : Int32} {sf : Int32} {sc : Int32} {sz : Int32} {Q : Option Value → sW → Prop} (h : w_72_0 (fun k => Tt (d + 4) wtL (wk_72T 39 k) (wk_72T 39 k)) 39 a1 sa sk sf sc sz Q) : Tt (d + 5) wtL (((82, 3), 39, [(82, 0, 39), (82, 1, 4), (82, 2, 43)]) : wW) (((82, 3), 39, [(82, 0, 39), (82, 1, 4), (82, 2, 43)]) : wW) 72 [.ref 82, .int a1] (sa, sk, sf, sc, sz) Q := tt_of (E := xE_72) (L := xL_5) (ml := 3) (ret := some .boolean) rfl rfl rfl (k_72_0_39T rfl hc h)
set_option maxRecDepth 20000 in
theorem k_72_23_39K {d d0 : Nat} (hd : d = d0 + 4) (hc : ∀ p ∈ s_w72, CTR (yex d) p.1 p.2)  {a1 : Int32} {a2 : Int32} {sa : Int32} {sk : Int32} {sf : Int32} {sc : Int32} {sz : Int32} {Q : Option Value → sW → Prop}  (h : w_72_23 (fun k => Tt d wtL (wk_72K 39 k) (wk_72K 39 k)) 39  a1 a2 sa sk sf sc sz Q) : Rn d wtL (((82, 3), 39, [(82, 0, 39), (82, 1, 40), (82, 2, 7)]) : wW) (((82, 3), 39, [(82, 0, 39), (82, 1, 40), (82, 2, 7)]) : wW) xL_5 3 (some .boolean) xE_72 (xE_72.drop 23) [.ref 82, .int a1, .int a2, .null, .null] [] (sa, sk, sf, sc, sz) Q := by
  unfold w_72_23 at h
  refine n_ld rfl rfl rfl ?_
  exact n_retZ rfl (i_z (x := a2) rfl h.1) h.2
set_option maxRecDepth 20000 in
theorem k_72_14_39K {d d0 : Nat} (hd : d = d0 + 4) (hc : ∀ p ∈ s_w72, CTR (yex d) p.1 p.2)  {a1 : Int32} {t0 : Int32} {sa : Int32} {sk : Int32} {sf : Int32} {sc : Int32} {sz : Int32} {Q : Option Value → sW → Prop}  (h : w_72_14 (fun k => Tt d wtL (wk_72K 39 k) (wk_72K 39 k)) 39  a1 t0 sa sk sf sc sz Q) : Rn d wtL (((82, 3), 39, [(82, 0, 39), (82, 1, 40), (82, 2, 7)]) : wW) (((82, 3), 39, [(82, 0, 39), (82, 1, 40), (82, 2, 7)]) : wW) xL_5 3 (some .boolean) xE_72 (xE_72.drop 14) [.ref 82, .int a1, .null, .null, .null] [.int t0] (sa, sk, sf, sc, sz) Q := by
  unfold w_72_14 at h
  refine n_st [.ref 82, .int a1, .int t0, .null, .null] rfl rfl rfl ?_
  refine n_ld rfl rfl rfl ?_
  refine n_brP rfl rfl ⟨fun hcn => ?_, fun hcn => ?_⟩
  · replace h := h.1 ((i_eq (x := t0) (y := 0) rfl (show (0 : Int32).toInt = 0 by decide)).mp hcn)
    exact k_72_23_39K hd hc  h
  · replace h := h.2 (fun q => hcn ((i_eq (x := t0) (y := 0) rfl (show (0 : Int32).toInt = 0 by decide)).mpr q))
    refine n_ld rfl rfl rfl ?_
    refine n_c [.ref 82, .ref 82] xo_dup rfl rfl ?_
    refine n_get (v := .int sa) rfl (hv_f (a := 82) rfl rfl (fun _ _ hw => hw.1.1)) ?_
    refine n_c [.int 1, .int sa, .ref 82] (xo_push (.int 1)) rfl rfl ?_
    replace h := h _ (i_add (x := sa) (y := 1) rfl (show (1 : Int32).toInt = 1 by decide))
    replace h := h (i_addm (x := sa) (y := 1) rfl (show (1 : Int32).toInt = 1 by decide))
    refine n_c [.int (sa + 1), .ref 82] xo_iadd rfl rfl ?_
    refine n_put (a := 82) (w1 := (((82, 3), 39, [(82, 0, 39), (82, 1, 40), (82, 2, 7)]) : wW)) (s1 := ((sa + 1), sk, sf, sc, sz)) rfl rfl rfl rfl ⟨_, rfl, h.1.1, h.1.2⟩ rfl rfl rfl (Or.inr (Or.inl (by decide +kernel))) (ws_at (w := (((82, 3), 39, [(82, 0, 39), (82, 1, 40), (82, 2, 7)]) : wW)) (s := (sa, sk, sf, sc, sz)) rfl) ?_
    replace h := h.2
    exact k_72_23_39K hd hc  h
set_option maxRecDepth 20000 in
theorem k_72_13_39K {d d0 : Nat} (hd : d = d0 + 4) (hc : ∀ p ∈ s_w72, CTR (yex d) p.1 p.2)  {a1 : Int32} {sa : Int32} {sk : Int32} {sf : Int32} {sc : Int32} {sz : Int32} {Q : Option Value → sW → Prop}  (h : w_72_13 (fun k => Tt d wtL (wk_72K 39 k) (wk_72K 39 k)) 39  a1 sa sk sf sc sz Q) : Rn d wtL (((82, 3), 39, [(82, 0, 39), (82, 1, 40), (82, 2, 7)]) : wW) (((82, 3), 39, [(82, 0, 39), (82, 1, 40), (82, 2, 7)]) : wW) xL_5 3 (some .boolean) xE_72 (xE_72.drop 13) [.ref 82, .int a1, .null, .null, .null] [] (sa, sk, sf, sc, sz) Q := by
  unfold w_72_13 at h
  refine n_c [.int 0] (xo_push (.int 0)) rfl rfl ?_
  exact k_72_14_39K hd hc  h
set_option maxRecDepth 20000 in
theorem k_72_0_39K {d d0 : Nat} (hd : d = d0 + 4) (hc : ∀ p ∈ s_w72, CTR (yex d) p.1 p.2)  {a1 : Int32} {sa : Int32} {sk : Int32} {sf : Int32} {sc : Int32} {sz : Int32} {Q : Option Value → sW → Prop}  (h : w_72_0 (fun k => Tt d wtL (wk_72K 39 k) (wk_72K 39 k)) 39  a1 sa sk sf sc sz Q) : Rn d wtL (((82, 3), 39, [(82, 0, 39), (82, 1, 40), (82, 2, 7)]) : wW) (((82, 3), 39, [(82, 0, 39), (82, 1, 40), (82, 2, 7)]) : wW) xL_5 3 (some .boolean) xE_72 (xE_72.drop 0) [.ref 82, .int a1, .null, .null, .null] [] (sa, sk, sf, sc, sz) Q := by
  unfold w_72_0 at h
  refine n_ld rfl rfl rfl ?_
  refine n_get (v := .ref 39) rfl (hv_C (a := 82) (n := 0) rfl rfl rfl) ?_
  refine n_get (v := .int sf) rfl (hv_f (a := 39) rfl rfl (fun _ _ hw => hw.1.2.2.1)) ?_
  refine n_brN rfl rfl ⟨fun hcn => ?_, fun hcn => ?_⟩
  · replace h := h.1 (fun q => hcn ((i_eq (x := sf) (y := 0) rfl (show (0 : Int32).toInt = 0 by decide)).mpr q))
    exact k_72_13_39K hd hc  h
  · replace h := h.2 ((i_eq (x := sf) (y := 0) rfl (show (0 : Int32).toInt = 0 by decide)).mp hcn)
    refine n_ld rfl rfl rfl ?_
    refine n_get (v := .ref 7) rfl (hv_C (a := 82) (n := 2) rfl rfl rfl) ?_
    refine n_ld rfl rfl rfl ?_
    refine n_get (v := .int sa) rfl (hv_f (a := 82) rfl rfl (fun _ _ hw => hw.1.1)) ?_
    refine n_row sa [] (a := 7) hd rfl rfl rfl rfl (fun x1 g1 g2 g3 => ?_)
    replace h := h x1 g2
    refine n_ld rfl rfl rfl ?_
    refine n_brN rfl rfl ⟨fun hcn => ?_, fun hcn => ?_⟩
    · replace h := h.1 (fun q => hcn ((i_eq (x := x1) (y := a1) rfl rfl).mpr q))
      exact k_72_13_39K hd hc  h
    · replace h := h.2 ((i_eq (x := x1) (y := a1) rfl rfl).mp hcn)
      refine n_c [.int 1] (xo_push (.int 1)) rfl rfl ?_
      refine n_go rfl ?_
      exact k_72_14_39K hd hc  h
theorem t_72_39K {d : Nat} (hc : ∀ p ∈ s_w72, CTR (yex (d + 4)) p.1 p.2) {a1 : Int32} {sa : Int32} {sk : Int32} {sf : Int32} {sc : Int32} {sz : Int32} {Q : Option Value → sW → Prop} (h : w_72_0 (fun k => Tt (d + 4) wtL (wk_72K 39 k) (wk_72K 39 k)) 39 a1 sa sk sf sc sz Q) : Tt (d + 5) wtL (((82, 3), 39, [(82, 0, 39), (82, 1, 40), (82, 2, 7)]) : wW) (((82, 3), 39, [(82, 0, 39), (82, 1, 40), (82, 2, 7)]) : wW) 72 [.ref 82, .int a1] (sa, sk, sf, sc, sz) Q := tt_of (E := xE_72) (L := xL_5) (ml := 3) (ret := some .boolean) rfl rfl rfl (k_72_0_39K rfl hc h)
set_option maxRecDepth 20000 in
theorem k_72_23_39 {d d0 : Nat} (hd : d = d0 + 4) (hc : ∀ p ∈ s_w72, CTR (yex d) p.1 p.2)  {a1 : Int32} {a2 : Int32} {sa : Int32} {sk : Int32} {sf : Int32} {sc : Int32} {sz : Int32} {Q : Option Value → sW → Prop}  (h : w_72_23 (fun k => Tt d wtL (wk_72 39 k) (wk_72 39 k)) 39  a1 a2 sa sk sf sc sz Q) : Rn d wtL (((82, 3), 39, [(82, 0, 39), (82, 1, 40), (82, 2, 43)]) : wW) (((82, 3), 39, [(82, 0, 39), (82, 1, 40), (82, 2, 43)]) : wW) xL_5 3 (some .boolean) xE_72 (xE_72.drop 23) [.ref 82, .int a1, .int a2, .null, .null] [] (sa, sk, sf, sc, sz) Q := by
  unfold w_72_23 at h
  refine n_ld rfl rfl rfl ?_
  exact n_retZ rfl (i_z (x := a2) rfl h.1) h.2
set_option maxRecDepth 20000 in
theorem k_72_14_39 {d d0 : Nat} (hd : d = d0 + 4) (hc : ∀ p ∈ s_w72, CTR (yex d) p.1 p.2)  {a1 : Int32} {t0 : Int32} {sa : Int32} {sk : Int32} {sf : Int32} {sc : Int32} {sz : Int32} {Q : Option Value → sW → Prop}  (h : w_72_14 (fun k => Tt d wtL (wk_72 39 k) (wk_72 39 k)) 39  a1 t0 sa sk sf sc sz Q) : Rn d wtL (((82, 3), 39, [(82, 0, 39), (82, 1, 40), (82, 2, 43)]) : wW) (((82, 3), 39, [(82, 0, 39), (82, 1, 40), (82, 2, 43)]) : wW) xL_5 3 (some .boolean) xE_72 (xE_72.drop 14) [.ref 82, .int a1, .null, .null, .null] [.int t0] (sa, sk, sf, sc, sz) Q := by
  unfold w_72_14 at h
  refine n_st [.ref 82, .int a1, .int t0, .null, .null] rfl rfl rfl ?_
  refine n_ld rfl rfl rfl ?_
  refine n_brP rfl rfl ⟨fun hcn => ?_, fun hcn => ?_⟩
  · replace h := h.1 ((i_eq (x := t0) (y := 0) rfl (show (0 : Int32).toInt = 0 by decide)).mp hcn)
    exact k_72_23_39 hd hc  h
  · replace h := h.2 (fun q => hcn ((i_eq (x := t0) (y := 0) rfl (show (0 : Int32).toInt = 0 by decide)).mpr q))
    refine n_ld rfl rfl rfl ?_
    refine n_c [.ref 82, .ref 82] xo_dup rfl rfl ?_
    refine n_get (v := .int sa) rfl (hv_f (a := 82) rfl rfl (fun _ _ hw => hw.1.1)) ?_
    refine n_c [.int 1, .int sa, .ref 82] (xo_push (.int 1)) rfl rfl ?_
    replace h := h _ (i_add (x := sa) (y := 1) rfl (show (1 : Int32).toInt = 1 by decide))
    replace h := h (i_addm (x := sa) (y := 1) rfl (show (1 : Int32).toInt = 1 by decide))
    refine n_c [.int (sa + 1), .ref 82] xo_iadd rfl rfl ?_
    refine n_put (a := 82) (w1 := (((82, 3), 39, [(82, 0, 39), (82, 1, 40), (82, 2, 43)]) : wW)) (s1 := ((sa + 1), sk, sf, sc, sz)) rfl rfl rfl rfl ⟨_, rfl, h.1.1, h.1.2⟩ rfl rfl rfl (Or.inr (Or.inl (by decide +kernel))) (ws_at (w := (((82, 3), 39, [(82, 0, 39), (82, 1, 40), (82, 2, 43)]) : wW)) (s := (sa, sk, sf, sc, sz)) rfl) ?_
    replace h := h.2
    exact k_72_23_39 hd hc  h
set_option maxRecDepth 20000 in
theorem k_72_13_39 {d d0 : Nat} (hd : d = d0 + 4) (hc : ∀ p ∈ s_w72, CTR (yex d) p.1 p.2)  {a1 : Int32} {sa : Int32} {sk : Int32} {sf : Int32} {sc : Int32} {sz : Int32} {Q : Option Value → sW → Prop}  (h : w_72_13 (fun k => Tt d wtL (wk_72 39 k) (wk_72 39 k)) 39  a1 sa sk sf sc sz Q) : Rn d wtL (((82, 3), 39, [(82, 0, 39), (82, 1, 40), (82, 2, 43)]) : wW) (((82, 3), 39, [(82, 0, 39), (82, 1, 40), (82, 2, 43)]) : wW) xL_5 3 (some .boolean) xE_72 (xE_72.drop 13) [.ref 82, .int a1, .null, .null, .null] [] (sa, sk, sf, sc, sz) Q := by
  unfold w_72_13 at h
  refine n_c [.int 0] (xo_push (.int 0)) rfl rfl ?_
  exact k_72_14_39 hd hc  h
set_option maxRecDepth 20000 in
theorem k_72_0_39 {d d0 : Nat} (hd : d = d0 + 4) (hc : ∀ p ∈ s_w72, CTR (yex d) p.1 p.2)  {a1 : Int32} {sa : Int32} {sk : Int32} {sf : Int32} {sc : Int32} {sz : Int32} {Q : Option Value → sW → Prop}  (h : w_72_0 (fun k => Tt d wtL (wk_72 39 k) (wk_72 39 k)) 39  a1 sa sk sf sc sz Q) : Rn d wtL (((82, 3), 39, [(82, 0, 39), (82, 1, 40), (82, 2, 43)]) : wW) (((82, 3), 39, [(82, 0, 39), (82, 1, 40), (82, 2, 43)]) : wW) xL_5 3 (some .boolean) xE_72 (xE_72.drop 0) [.ref 82, .int a1, .null, .null, .null] [] (sa, sk, sf, sc, sz) Q := by
  unfold w_72_0 at h
  refine n_ld rfl rfl rfl ?_
  refine n_get (v := .ref 39) rfl (hv_C (a := 82) (n := 0) rfl rfl rfl) ?_
  refine n_get (v := .int sf) rfl (hv_f (a := 39) rfl rfl (fun _ _ hw => hw.1.2.2.1)) ?_
  refine n_brN rfl rfl ⟨fun hcn => ?_, fun hcn => ?_⟩
  · replace h := h.1 (fun q => hcn ((i_eq (x := sf) (y := 0) rfl (show (0 : Int32).toInt = 0 by decide)).mpr q))
    exact k_72_13_39 hd hc  h
  · replace h := h.2 ((i_eq (x := sf) (y := 0) rfl (show (0 : Int32).toInt = 0 by decide)).mp hcn)
    refine n_ld rfl rfl rfl ?_
    refine n_get (v := .ref 43) rfl (hv_C (a := 82) (n := 2) rfl rfl rfl) ?_
    refine n_ld rfl rfl rfl ?_
    refine n_get (v := .int sa) rfl (hv_f (a := 82) rfl rfl (fun _ _ hw => hw.1.1)) ?_
    refine n_row sa [] (a := 43) hd rfl rfl rfl rfl (fun x1 g1 g2 g3 => ?_)
    replace h := h x1 g2
    refine n_ld rfl rfl rfl ?_
    refine n_brN rfl rfl ⟨fun hcn => ?_, fun hcn => ?_⟩
    · replace h := h.1 (fun q => hcn ((i_eq (x := x1) (y := a1) rfl rfl).mpr q))
      exact k_72_13_39 hd hc  h
    · replace h := h.2 ((i_eq (x := x1) (y := a1) rfl rfl).mp hcn)
      refine n_c [.int 1] (xo_push (.int 1)) rfl rfl ?_
      refine n_go rfl ?_
      exact k_72_14_39 hd hc  h
theorem t_72_39 {d : Nat} (hc : ∀ p ∈ s_w72, CTR (yex (d + 4)) p.1 p.2) {a1 : Int32} {sa : Int32} {sk : Int32} {sf : Int32} {sc : Int32} {sz : Int32} {Q : Option Value → sW → Prop} (h : w_72_0 (fun k => Tt (d + 4) wtL (wk_72 39 k) (wk_72 39 k)) 39 a1 sa sk sf sc sz Q) : Tt (d + 5) wtL (((82, 3), 39, [(82, 0, 39), (82, 1, 40), (82, 2, 43)]) : wW) (((82, 3), 39, [(82, 0, 39), (82, 1, 40), (82, 2, 43)]) : wW) 72 [.ref 82, .int a1] (sa, sk, sf, sc, sz) Q := tt_of (E := xE_72) (L := xL_5) (ml := 3) (ret := some .boolean) rfl rfl rfl (k_72_0_39 rfl hc h)
/-! ===== the class: what its methods must be given (by wip/p2/cdec.py) ===== -/
def wxL : List (Nat × Nat) := [(4, 14), (5, 3)]
/-! FeatherBench$Reader.expect -/
def wk_73 (P : Nat) : Nat → wW
  | _ => (((82, 3), P, [(82, 0, P), (82, 1, (P + 1)), (82, 2, (P + 4))]) : wW)
def s_w73 : List (Nat × cSg) := []
def wk_73k (P : Nat) : Nat → wW
  | _ => (((82, 3), P, [(82, 0, P), (82, 1, (P + 1)), (82, 2, 43)]) : wW)
def wk_73t (P : Nat) : Nat → wW
  | _ => (((82, 3), P, [(82, 0, P), (82, 1, 40), (82, 2, (P + 4))]) : wW)
def wk_73tk (P : Nat) : Nat → wW
  | _ => (((82, 3), P, [(82, 0, P), (82, 1, 40), (82, 2, 43)]) : wW)
def wk_73TK (P : Nat) : Nat → wW
  | _ => (((82, 3), P, [(82, 0, P), (82, 1, 4), (82, 2, 7)]) : wW)
def wk_73T (P : Nat) : Nat → wW
  | _ => (((82, 3), P, [(82, 0, P), (82, 1, 4), (82, 2, (P + 4))]) : wW)
def wk_73K (P : Nat) : Nat → wW
  | _ => (((82, 3), P, [(82, 0, P), (82, 1, (P + 1)), (82, 2, 7)]) : wW)
def w_73_34 (T : Nat → Nat → List Value → sW → (Option Value → sW → Prop) → Prop) (P : Nat)  (a1 : Int32) (sa : Int32) (sk : Int32) (sf : Int32) (sc : Int32) (sz : Int32) (Q : Option Value → sW → Prop) : Prop :=
  Q none (sa, sk, sf, sc, sz)
def w_73_24 (T : Nat → Nat → List Value → sW → (Option Value → sW → Prop) → Prop) (P : Nat)  (a1 : Int32) (sa : Int32) (sk : Int32) (sf : Int32) (sc : Int32) (sz : Int32) (Q : Option Value → sW → Prop) : Prop :=
  (¬ (sf.toInt = 0) → w_73_34 T P  a1 sa sk sf sc sz Q) ∧ (sf.toInt = 0 → ∀ x1 : Int32, (-2147483648 ≤ sa.toInt + 1 ∧ sa.toInt + 1 ≤ 2147483647 → x1.toInt = sa.toInt + 1) → x1.toInt % 16 = (sa.toInt + 1) % 16 → (0 ≤ x1.toInt ∧ x1.toInt ≤ 5000) ∧ (w_73_34 T P  a1 x1 sk sf sc sz Q))
def w_73_0 (T : Nat → Nat → List Value → sW → (Option Value → sW → Prop) → Prop) (P : Nat)  (a1 : Int32) (sa : Int32) (sk : Int32) (sf : Int32) (sc : Int32) (sz : Int32) (Q : Option Value → sW → Prop) : Prop :=
  (¬ (sf.toInt = 0) → w_73_24 T P  a1 sa sk sf sc sz Q) ∧ (sf.toInt = 0 → ∀ x1 : Int32, (¬ x1.toInt = 0 → 0 ≤ sa.toInt ∧ sa.toInt < 4002) → (x1.toInt = a1.toInt → w_73_24 T P  a1 sa sk sf sc sz Q) ∧ (¬ (x1.toInt = a1.toInt) → ∀ x2 : Int32, (0 ≤ x2.toInt ∧ x2.toInt ≤ 5000) → ∀ x3 : Int32, (-2147483648 ≤ 16 * x2.toInt ∧ 16 * x2.toInt ≤ 2147483647 → x3.toInt = 16 * x2.toInt) → x3.toInt % 16 = (16 * x2.toInt) % 16 → ∀ x4 : Int32, (-2147483648 ≤ 1 + x3.toInt ∧ 1 + x3.toInt ≤ 2147483647 → x4.toInt = 1 + x3.toInt) → x4.toInt % 16 = (1 + x3.toInt) % 16 → (¬ x4.toInt = 0) ∧ (w_73_24 T P  a1 sa sk x4 sc sz Q)))
set_option maxRecDepth 20000 in
theorem k_73_34_3 {d d0 : Nat} (hd : d = d0 + 4) (hc : ∀ p ∈ s_w73, CTR (yex d) p.1 p.2)  {a1 : Int32} {sa : Int32} {sk : Int32} {sf : Int32} {sc : Int32} {sz : Int32} {Q : Option Value → sW → Prop}  (h : w_73_34 (fun k => Tt d wxL (wk_73 3 k) (wk_73 3 k)) 3  a1 sa sk sf sc sz Q) : Rn d wxL (((82, 3), 3, [(82, 0, 3), (82, 1, 4), (82, 2, 7)]) : wW) (((82, 3), 3, [(82, 0, 3), (82, 1, 4), (82, 2, 7)]) : wW) xL_5 2 (none) xE_73 (xE_73.drop 34) [.ref 82, .int a1, .null, .null] [] (sa, sk, sf, sc, sz) Q := by
  unfold w_73_34 at h
  exact n_ret0 rfl h
set_option maxRecDepth 20000 in
theorem k_73_24_3 {d d0 : Nat} (hd : d = d0 + 4) (hc : ∀ p ∈ s_w73, CTR (yex d) p.1 p.2)  {a1 : Int32} {sa : Int32} {sk : Int32} {sf : Int32} {sc : Int32} {sz : Int32} {Q : Option Value → sW → Prop}  (h : w_73_24 (fun k => Tt d wxL (wk_73 3 k) (wk_73 3 k)) 3  a1 sa sk sf sc sz Q) : Rn d wxL (((82, 3), 3, [(82, 0, 3), (82, 1, 4), (82, 2, 7)]) : wW) (((82, 3), 3, [(82, 0, 3), (82, 1, 4), (82, 2, 7)]) : wW) xL_5 2 (none) xE_73 (xE_73.drop 24) [.ref 82, .int a1, .null, .null] [] (sa, sk, sf, sc, sz) Q := by
  unfold w_73_24 at h
  refine n_ld rfl rfl rfl ?_
  refine n_get (v := .ref 3) rfl (hv_C (a := 82) (n := 0) rfl rfl rfl) ?_
  refine n_get (v := .int sf) rfl (hv_f (a := 3) rfl rfl (fun _ _ hw => hw.1.2.2.1)) ?_
  refine n_brN rfl rfl ⟨fun hcn => ?_, fun hcn => ?_⟩
  · replace h := h.1 (fun q => hcn ((i_eq (x := sf) (y := 0) rfl (show (0 : Int32).toInt = 0 by decide)).mpr q))
    exact k_73_34_3 hd hc  h
  · replace h := h.2 ((i_eq (x := sf) (y := 0) rfl (show (0 : Int32).toInt = 0 by decide)).mp hcn)
    refine n_ld rfl rfl rfl ?_
    refine n_c [.ref 82, .ref 82] xo_dup rfl rfl ?_
    refine n_get (v := .int sa) rfl (hv_f (a := 82) rfl rfl (fun _ _ hw => hw.1.1)) ?_
    refine n_c [.int 1, .int sa, .ref 82] (xo_push (.int 1)) rfl rfl ?_
    replace h := h _ (i_add (x := sa) (y := 1) rfl (show (1 : Int32).toInt = 1 by decide))
    replace h := h (i_addm (x := sa) (y := 1) rfl (show (1 : Int32).toInt = 1 by decide))
    refine n_c [.int (sa + 1), .ref 82] xo_iadd rfl rfl ?_
    refine n_put (a := 82) (w1 := (((82, 3), 3, [(82, 0, 3), (82, 1, 4), (82, 2, 7)]) : wW)) (s1 := ((sa + 1), sk, sf, sc, sz)) rfl rfl rfl rfl ⟨_, rfl, h.1.1, h.1.2⟩ rfl rfl rfl (Or.inr (Or.inl (by decide +kernel))) (ws_at (w := (((82, 3), 3, [(82, 0, 3), (82, 1, 4), (82, 2, 7)]) : wW)) (s := (sa, sk, sf, sc, sz)) rfl) ?_
    replace h := h.2
    exact k_73_34_3 hd hc  h
set_option maxRecDepth 20000 in
theorem k_73_0_3 {d d0 : Nat} (hd : d = d0 + 4) (hc : ∀ p ∈ s_w73, CTR (yex d) p.1 p.2)  {a1 : Int32} {sa : Int32} {sk : Int32} {sf : Int32} {sc : Int32} {sz : Int32} {Q : Option Value → sW → Prop}  (h : w_73_0 (fun k => Tt d wxL (wk_73 3 k) (wk_73 3 k)) 3  a1 sa sk sf sc sz Q) : Rn d wxL (((82, 3), 3, [(82, 0, 3), (82, 1, 4), (82, 2, 7)]) : wW) (((82, 3), 3, [(82, 0, 3), (82, 1, 4), (82, 2, 7)]) : wW) xL_5 2 (none) xE_73 (xE_73.drop 0) [.ref 82, .int a1, .null, .null] [] (sa, sk, sf, sc, sz) Q := by
  unfold w_73_0 at h
  refine n_ld rfl rfl rfl ?_
  refine n_get (v := .ref 3) rfl (hv_C (a := 82) (n := 0) rfl rfl rfl) ?_
  refine n_get (v := .int sf) rfl (hv_f (a := 3) rfl rfl (fun _ _ hw => hw.1.2.2.1)) ?_
  refine n_brN rfl rfl ⟨fun hcn => ?_, fun hcn => ?_⟩
  · replace h := h.1 (fun q => hcn ((i_eq (x := sf) (y := 0) rfl (show (0 : Int32).toInt = 0 by decide)).mpr q))
    exact k_73_24_3 hd hc  h
  · replace h := h.2 ((i_eq (x := sf) (y := 0) rfl (show (0 : Int32).toInt = 0 by decide)).mp hcn)
    refine n_ld rfl rfl rfl ?_
    refine n_get (v := .ref 7) rfl (hv_C (a := 82) (n := 2) rfl rfl rfl) ?_
    refine n_ld rfl rfl rfl ?_
    refine n_get (v := .int sa) rfl (hv_f (a := 82) rfl rfl (fun _ _ hw => hw.1.1)) ?_
    refine n_row sa [] (a := 7) hd rfl rfl rfl rfl (fun x1 g1 g2 g3 => ?_)
    replace h := h x1 g2
    refine n_ld rfl rfl rfl ?_
    refine n_brP rfl rfl ⟨fun hcn => ?_, fun hcn => ?_⟩
    · replace h := h.1 ((i_eq (x := x1) (y := a1) rfl rfl).mp hcn)
      exact k_73_24_3 hd hc  h
    · replace h := h.2 (fun q => hcn ((i_eq (x := x1) (y := a1) rfl rfl).mpr q))
      refine n_ld rfl rfl rfl ?_
      refine n_get (v := .ref 3) rfl (hv_C (a := 82) (n := 0) rfl rfl rfl) ?_
      refine n_c [.int 1, .ref 3] (xo_push (.int 1)) rfl rfl ?_
      refine n_c [.int 16, .int 1, .ref 3] (xo_push (.int 16)) rfl rfl ?_
      refine n_ld rfl rfl rfl ?_
      refine n_get (v := .ref 4) rfl (hv_C (a := 82) (n := 1) rfl rfl rfl) ?_
      refine n_get (v := .ref 9) rfl (hv_R (a := 4) rfl rfl) ?_
      refine n_ld rfl rfl rfl ?_
      refine n_get (v := .int sa) rfl (hv_f (a := 82) rfl rfl (fun _ _ hw => hw.1.1)) ?_
      refine n_row sa [.int 16, .int 1, .ref 3] (a := 9) hd rfl rfl rfl rfl (fun x2 g1 g2 g3 => ?_)
      replace h := h x2 g1
      replace h := h _ (i_mul (x := 16) (y := x2) (show (16 : Int32).toInt = 16 by decide) rfl)
      replace h := h (i_mulm (x := 16) (y := x2) (show (16 : Int32).toInt = 16 by decide) rfl)
      refine n_c [.int (16 * x2), .int 1, .ref 3] xo_imul rfl rfl ?_
      replace h := h _ (i_add (x := 1) (y := (16 * x2)) (show (1 : Int32).toInt = 1 by decide) rfl)
      replace h := h (i_addm (x := 1) (y := (16 * x2)) (show (1 : Int32).toInt = 1 by decide) rfl)
      refine n_c [.int (1 + (16 * x2)), .ref 3] xo_iadd rfl rfl ?_
      refine n_put (a := 3) (w1 := (((82, 3), 3, [(82, 0, 3), (82, 1, 4), (82, 2, 7)]) : wW)) (s1 := (sa, sk, (1 + (16 * x2)), sc, sz)) rfl rfl rfl rfl (vK_int _) rfl rfl rfl (Or.inr (Or.inr (fun q => h.1 (z32.mpr (Value.int.inj q))))) (ws_fl (w := (((82, 3), 3, [(82, 0, 3), (82, 1, 4), (82, 2, 7)]) : wW)) (s := (sa, sk, sf, sc, sz)) rfl) ?_
      replace h := h.2
      exact k_73_24_3 hd hc  h
theorem t_73_3 {d : Nat} (hc : ∀ p ∈ s_w73, CTR (yex (d + 4)) p.1 p.2) {a1 : Int32} {sa : Int32} {sk : Int32} {sf : Int32} {sc : Int32} {sz : Int32} {Q : Option Value → sW → Prop} (h : w_73_0 (fun k => Tt (d + 4) wxL (wk_73 3 k) (wk_73 3 k)) 3 a1 sa sk sf sc sz Q) : Tt (d + 5) wxL (((82, 3), 3, [(82, 0, 3), (82, 1, 4), (82, 2, 7)]) : wW) (((82, 3), 3, [(82, 0, 3), (82, 1, 4), (82, 2, 7)]) : wW) 73 [.ref 82, .int a1] (sa, sk, sf, sc, sz) Q := tt_of (E := xE_73) (L := xL_5) (ml := 2) (ret := none) rfl rfl rfl (k_73_0_3 rfl hc h)
set_option maxRecDepth 20000 in
theorem k_73_34_3k {d d0 : Nat} (hd : d = d0 + 4) (hc : ∀ p ∈ s_w73, CTR (yex d) p.1 p.2)  {a1 : Int32} {sa : Int32} {sk : Int32} {sf : Int32} {sc : Int32} {sz : Int32} {Q : Option Value → sW → Prop}  (h : w_73_34 (fun k => Tt d wxL (wk_73k 3 k) (wk_73k 3 k)) 3  a1 sa sk sf sc sz Q) : Rn d wxL (((82, 3), 3, [(82, 0, 3), (82, 1, 4), (82, 2, 43)]) : wW) (((82, 3), 3, [(82, 0, 3), (82, 1, 4), (82, 2, 43)]) : wW) xL_5 2 (none) xE_73 (xE_73.drop 34) [.ref 82, .int a1, .null, .null] [] (sa, sk, sf, sc, sz) Q := by
  unfold w_73_34 at h
  exact n_ret0 rfl h
set_option maxRecDepth 20000 in
theorem k_73_24_3k {d d0 : Nat} (hd : d = d0 + 4) (hc : ∀ p ∈ s_w73, CTR (yex d) p.1 p.2)  {a1 : Int32} {sa : Int32} {sk : Int32} {sf : Int32} {sc : Int32} {sz : Int32} {Q : Option Value → sW → Prop}  (h : w_73_24 (fun k => Tt d wxL (wk_73k 3 k) (wk_73k 3 k)) 3  a1 sa sk sf sc sz Q) : Rn d wxL (((82, 3), 3, [(82, 0, 3), (82, 1, 4), (82, 2, 43)]) : wW) (((82, 3), 3, [(82, 0, 3), (82, 1, 4), (82, 2, 43)]) : wW) xL_5 2 (none) xE_73 (xE_73.drop 24) [.ref 82, .int a1, .null, .null] [] (sa, sk, sf, sc, sz) Q := by
  unfold w_73_24 at h
  refine n_ld rfl rfl rfl ?_
  refine n_get (v := .ref 3) rfl (hv_C (a := 82) (n := 0) rfl rfl rfl) ?_
  refine n_get (v := .int sf) rfl (hv_f (a := 3) rfl rfl (fun _ _ hw => hw.1.2.2.1)) ?_
  refine n_brN rfl rfl ⟨fun hcn => ?_, fun hcn => ?_⟩
  · replace h := h.1 (fun q => hcn ((i_eq (x := sf) (y := 0) rfl (show (0 : Int32).toInt = 0 by decide)).mpr q))
    exact k_73_34_3k hd hc  h
  · replace h := h.2 ((i_eq (x := sf) (y := 0) rfl (show (0 : Int32).toInt = 0 by decide)).mp hcn)
    refine n_ld rfl rfl rfl ?_
    refine n_c [.ref 82, .ref 82] xo_dup rfl rfl ?_
    refine n_get (v := .int sa) rfl (hv_f (a := 82) rfl rfl (fun _ _ hw => hw.1.1)) ?_
    refine n_c [.int 1, .int sa, .ref 82] (xo_push (.int 1)) rfl rfl ?_
    replace h := h _ (i_add (x := sa) (y := 1) rfl (show (1 : Int32).toInt = 1 by decide))
    replace h := h (i_addm (x := sa) (y := 1) rfl (show (1 : Int32).toInt = 1 by decide))
    refine n_c [.int (sa + 1), .ref 82] xo_iadd rfl rfl ?_
    refine n_put (a := 82) (w1 := (((82, 3), 3, [(82, 0, 3), (82, 1, 4), (82, 2, 43)]) : wW)) (s1 := ((sa + 1), sk, sf, sc, sz)) rfl rfl rfl rfl ⟨_, rfl, h.1.1, h.1.2⟩ rfl rfl rfl (Or.inr (Or.inl (by decide +kernel))) (ws_at (w := (((82, 3), 3, [(82, 0, 3), (82, 1, 4), (82, 2, 43)]) : wW)) (s := (sa, sk, sf, sc, sz)) rfl) ?_
    replace h := h.2
    exact k_73_34_3k hd hc  h
set_option maxRecDepth 20000 in
theorem k_73_0_3k {d d0 : Nat} (hd : d = d0 + 4) (hc : ∀ p ∈ s_w73, CTR (yex d) p.1 p.2)  {a1 : Int32} {sa : Int32} {sk : Int32} {sf : Int32} {sc : Int32} {sz : Int32} {Q : Option Value → sW → Prop}  (h : w_73_0 (fun k => Tt d wxL (wk_73k 3 k) (wk_73k 3 k)) 3  a1 sa sk sf sc sz Q) : Rn d wxL (((82, 3), 3, [(82, 0, 3), (82, 1, 4), (82, 2, 43)]) : wW) (((82, 3), 3, [(82, 0, 3), (82, 1, 4), (82, 2, 43)]) : wW) xL_5 2 (none) xE_73 (xE_73.drop 0) [.ref 82, .int a1, .null, .null] [] (sa, sk, sf, sc, sz) Q := by
  unfold w_73_0 at h
  refine n_ld rfl rfl rfl ?_
  refine n_get (v := .ref 3) rfl (hv_C (a := 82) (n := 0) rfl rfl rfl) ?_
  refine n_get (v := .int sf) rfl (hv_f (a := 3) rfl rfl (fun _ _ hw => hw.1.2.2.1)) ?_
  refine n_brN rfl rfl ⟨fun hcn => ?_, fun hcn => ?_⟩
  · replace h := h.1 (fun q => hcn ((i_eq (x := sf) (y := 0) rfl (show (0 : Int32).toInt = 0 by decide)).mpr q))
    exact k_73_24_3k hd hc  h
  · replace h := h.2 ((i_eq (x := sf) (y := 0) rfl (show (0 : Int32).toInt = 0 by decide)).mp hcn)
    refine n_ld rfl rfl rfl ?_
    refine n_get (v := .ref 43) rfl (hv_C (a := 82) (n := 2) rfl rfl rfl) ?_
    refine n_ld rfl rfl rfl ?_
    refine n_get (v := .int sa) rfl (hv_f (a := 82) rfl rfl (fun _ _ hw => hw.1.1)) ?_
    refine n_row sa [] (a := 43) hd rfl rfl rfl rfl (fun x1 g1 g2 g3 => ?_)
    replace h := h x1 g2
    refine n_ld rfl rfl rfl ?_
    refine n_brP rfl rfl ⟨fun hcn => ?_, fun hcn => ?_⟩
    · replace h := h.1 ((i_eq (x := x1) (y := a1) rfl rfl).mp hcn)
      exact k_73_24_3k hd hc  h
    · replace h := h.2 (fun q => hcn ((i_eq (x := x1) (y := a1) rfl rfl).mpr q))
      refine n_ld rfl rfl rfl ?_
      refine n_get (v := .ref 3) rfl (hv_C (a := 82) (n := 0) rfl rfl rfl) ?_
      refine n_c [.int 1, .ref 3] (xo_push (.int 1)) rfl rfl ?_
      refine n_c [.int 16, .int 1, .ref 3] (xo_push (.int 16)) rfl rfl ?_
      refine n_ld rfl rfl rfl ?_
      refine n_get (v := .ref 4) rfl (hv_C (a := 82) (n := 1) rfl rfl rfl) ?_
      refine n_get (v := .ref 9) rfl (hv_R (a := 4) rfl rfl) ?_
      refine n_ld rfl rfl rfl ?_
      refine n_get (v := .int sa) rfl (hv_f (a := 82) rfl rfl (fun _ _ hw => hw.1.1)) ?_
      refine n_row sa [.int 16, .int 1, .ref 3] (a := 9) hd rfl rfl rfl rfl (fun x2 g1 g2 g3 => ?_)
      replace h := h x2 g1
      replace h := h _ (i_mul (x := 16) (y := x2) (show (16 : Int32).toInt = 16 by decide) rfl)
      replace h := h (i_mulm (x := 16) (y := x2) (show (16 : Int32).toInt = 16 by decide) rfl)
      refine n_c [.int (16 * x2), .int 1, .ref 3] xo_imul rfl rfl ?_
      replace h := h _ (i_add (x := 1) (y := (16 * x2)) (show (1 : Int32).toInt = 1 by decide) rfl)
      replace h := h (i_addm (x := 1) (y := (16 * x2)) (show (1 : Int32).toInt = 1 by decide) rfl)
      refine n_c [.int (1 + (16 * x2)), .ref 3] xo_iadd rfl rfl ?_
      refine n_put (a := 3) (w1 := (((82, 3), 3, [(82, 0, 3), (82, 1, 4), (82, 2, 43)]) : wW)) (s1 := (sa, sk, (1 + (16 * x2)), sc, sz)) rfl rfl rfl rfl (vK_int _) rfl rfl rfl (Or.inr (Or.inr (fun q => h.1 (z32.mpr (Value.int.inj q))))) (ws_fl (w := (((82, 3), 3, [(82, 0, 3), (82, 1, 4), (82, 2, 43)]) : wW)) (s := (sa, sk, sf, sc, sz)) rfl) ?_
      replace h := h.2
      exact k_73_24_3k hd hc  h
theorem t_73_3k {d : Nat} (hc : ∀ p ∈ s_w73, CTR (yex (d + 4)) p.1 p.2) {a1 : Int32} {sa : Int32} {sk : Int32} {sf : Int32} {sc : Int32} {sz : Int32} {Q : Option Value → sW → Prop} (h : w_73_0 (fun k => Tt (d + 4) wxL (wk_73k 3 k) (wk_73k 3 k)) 3 a1 sa sk sf sc sz Q) : Tt (d + 5) wxL (((82, 3), 3, [(82, 0, 3), (82, 1, 4), (82, 2, 43)]) : wW) (((82, 3), 3, [(82, 0, 3), (82, 1, 4), (82, 2, 43)]) : wW) 73 [.ref 82, .int a1] (sa, sk, sf, sc, sz) Q := tt_of (E := xE_73) (L := xL_5) (ml := 2) (ret := none) rfl rfl rfl (k_73_0_3k rfl hc h)
set_option maxRecDepth 20000 in
theorem k_73_34_3t {d d0 : Nat} (hd : d = d0 + 4) (hc : ∀ p ∈ s_w73, CTR (yex d) p.1 p.2)  {a1 : Int32} {sa : Int32} {sk : Int32} {sf : Int32} {sc : Int32} {sz : Int32} {Q : Option Value → sW → Prop}  (h : w_73_34 (fun k => Tt d wxL (wk_73t 3 k) (wk_73t 3 k)) 3  a1 sa sk sf sc sz Q) : Rn d wxL (((82, 3), 3, [(82, 0, 3), (82, 1, 40), (82, 2, 7)]) : wW) (((82, 3), 3, [(82, 0, 3), (82, 1, 40), (82, 2, 7)]) : wW) xL_5 2 (none) xE_73 (xE_73.drop 34) [.ref 82, .int a1, .null, .null] [] (sa, sk, sf, sc, sz) Q := by
  unfold w_73_34 at h
  exact n_ret0 rfl h
set_option maxRecDepth 20000 in
theorem k_73_24_3t {d d0 : Nat} (hd : d = d0 + 4) (hc : ∀ p ∈ s_w73, CTR (yex d) p.1 p.2)  {a1 : Int32} {sa : Int32} {sk : Int32} {sf : Int32} {sc : Int32} {sz : Int32} {Q : Option Value → sW → Prop}  (h : w_73_24 (fun k => Tt d wxL (wk_73t 3 k) (wk_73t 3 k)) 3  a1 sa sk sf sc sz Q) : Rn d wxL (((82, 3), 3, [(82, 0, 3), (82, 1, 40), (82, 2, 7)]) : wW) (((82, 3), 3, [(82, 0, 3), (82, 1, 40), (82, 2, 7)]) : wW) xL_5 2 (none) xE_73 (xE_73.drop 24) [.ref 82, .int a1, .null, .null] [] (sa, sk, sf, sc, sz) Q := by
  unfold w_73_24 at h
  refine n_ld rfl rfl rfl ?_
  refine n_get (v := .ref 3) rfl (hv_C (a := 82) (n := 0) rfl rfl rfl) ?_
  refine n_get (v := .int sf) rfl (hv_f (a := 3) rfl rfl (fun _ _ hw => hw.1.2.2.1)) ?_
  refine n_brN rfl rfl ⟨fun hcn => ?_, fun hcn => ?_⟩
  · replace h := h.1 (fun q => hcn ((i_eq (x := sf) (y := 0) rfl (show (0 : Int32).toInt = 0 by decide)).mpr q))
    exact k_73_34_3t hd hc  h
  · replace h := h.2 ((i_eq (x := sf) (y := 0) rfl (show (0 : Int32).toInt = 0 by decide)).mp hcn)
    refine n_ld rfl rfl rfl ?_
    refine n_c [.ref 82, .ref 82] xo_dup rfl rfl ?_
    refine n_get (v := .int sa) rfl (hv_f (a := 82) rfl rfl (fun _ _ hw => hw.1.1)) ?_
    refine n_c [.int 1, .int sa, .ref 82] (xo_push (.int 1)) rfl rfl ?_
    replace h := h _ (i_add (x := sa) (y := 1) rfl (show (1 : Int32).toInt = 1 by decide))
    replace h := h (i_addm (x := sa) (y := 1) rfl (show (1 : Int32).toInt = 1 by decide))
    refine n_c [.int (sa + 1), .ref 82] xo_iadd rfl rfl ?_
    refine n_put (a := 82) (w1 := (((82, 3), 3, [(82, 0, 3), (82, 1, 40), (82, 2, 7)]) : wW)) (s1 := ((sa + 1), sk, sf, sc, sz)) rfl rfl rfl rfl ⟨_, rfl, h.1.1, h.1.2⟩ rfl rfl rfl (Or.inr (Or.inl (by decide +kernel))) (ws_at (w := (((82, 3), 3, [(82, 0, 3), (82, 1, 40), (82, 2, 7)]) : wW)) (s := (sa, sk, sf, sc, sz)) rfl) ?_
    replace h := h.2
    exact k_73_34_3t hd hc  h
set_option maxRecDepth 20000 in
theorem k_73_0_3t {d d0 : Nat} (hd : d = d0 + 4) (hc : ∀ p ∈ s_w73, CTR (yex d) p.1 p.2)  {a1 : Int32} {sa : Int32} {sk : Int32} {sf : Int32} {sc : Int32} {sz : Int32} {Q : Option Value → sW → Prop}  (h : w_73_0 (fun k => Tt d wxL (wk_73t 3 k) (wk_73t 3 k)) 3  a1 sa sk sf sc sz Q) : Rn d wxL (((82, 3), 3, [(82, 0, 3), (82, 1, 40), (82, 2, 7)]) : wW) (((82, 3), 3, [(82, 0, 3), (82, 1, 40), (82, 2, 7)]) : wW) xL_5 2 (none) xE_73 (xE_73.drop 0) [.ref 82, .int a1, .null, .null] [] (sa, sk, sf, sc, sz) Q := by
  unfold w_73_0 at h
  refine n_ld rfl rfl rfl ?_
  refine n_get (v := .ref 3) rfl (hv_C (a := 82) (n := 0) rfl rfl rfl) ?_
  refine n_get (v := .int sf) rfl (hv_f (a := 3) rfl rfl (fun _ _ hw => hw.1.2.2.1)) ?_
  refine n_brN rfl rfl ⟨fun hcn => ?_, fun hcn => ?_⟩
  · replace h := h.1 (fun q => hcn ((i_eq (x := sf) (y := 0) rfl (show (0 : Int32).toInt = 0 by decide)).mpr q))
    exact k_73_24_3t hd hc  h
  · replace h := h.2 ((i_eq (x := sf) (y := 0) rfl (show (0 : Int32).toInt = 0 by decide)).mp hcn)
    refine n_ld rfl rfl rfl ?_
    refine n_get (v := .ref 7) rfl (hv_C (a := 82) (n := 2) rfl rfl rfl) ?_
    refine n_ld rfl rfl rfl ?_
    refine n_get (v := .int sa) rfl (hv_f (a := 82) rfl rfl (fun _ _ hw => hw.1.1)) ?_
    refine n_row sa [] (a := 7) hd rfl rfl rfl rfl (fun x1 g1 g2 g3 => ?_)
    replace h := h x1 g2
    refine n_ld rfl rfl rfl ?_
    refine n_brP rfl rfl ⟨fun hcn => ?_, fun hcn => ?_⟩
    · replace h := h.1 ((i_eq (x := x1) (y := a1) rfl rfl).mp hcn)
      exact k_73_24_3t hd hc  h
    · replace h := h.2 (fun q => hcn ((i_eq (x := x1) (y := a1) rfl rfl).mpr q))
      refine n_ld rfl rfl rfl ?_
      refine n_get (v := .ref 3) rfl (hv_C (a := 82) (n := 0) rfl rfl rfl) ?_
      refine n_c [.int 1, .ref 3] (xo_push (.int 1)) rfl rfl ?_
      refine n_c [.int 16, .int 1, .ref 3] (xo_push (.int 16)) rfl rfl ?_
      refine n_ld rfl rfl rfl ?_
      refine n_get (v := .ref 40) rfl (hv_C (a := 82) (n := 1) rfl rfl rfl) ?_
      refine n_get (v := .ref 45) rfl (hv_R (a := 40) rfl rfl) ?_
      refine n_ld rfl rfl rfl ?_
      refine n_get (v := .int sa) rfl (hv_f (a := 82) rfl rfl (fun _ _ hw => hw.1.1)) ?_
      refine n_row sa [.int 16, .int 1, .ref 3] (a := 45) hd rfl rfl rfl rfl (fun x2 g1 g2 g3 => ?_)
      replace h := h x2 g1
      replace h := h _ (i_mul (x := 16) (y := x2) (show (16 : Int32).toInt = 16 by decide) rfl)
      replace h := h (i_mulm (x := 16) (y := x2) (show (16 : Int32).toInt = 16 by decide) rfl)
      refine n_c [.int (16 * x2), .int 1, .ref 3] xo_imul rfl rfl ?_
      replace h := h _ (i_add (x := 1) (y := (16 * x2)) (show (1 : Int32).toInt = 1 by decide) rfl)
      replace h := h (i_addm (x := 1) (y := (16 * x2)) (show (1 : Int32).toInt = 1 by decide) rfl)
      refine n_c [.int (1 + (16 * x2)), .ref 3] xo_iadd rfl rfl ?_
      refine n_put (a := 3) (w1 := (((82, 3), 3, [(82, 0, 3), (82, 1, 40), (82, 2, 7)]) : wW)) (s1 := (sa, sk, (1 + (16 * x2)), sc, sz)) rfl rfl rfl rfl (vK_int _) rfl rfl rfl (Or.inr (Or.inr (fun q => h.1 (z32.mpr (Value.int.inj q))))) (ws_fl (w := (((82, 3), 3, [(82, 0, 3), (82, 1, 40), (82, 2, 7)]) : wW)) (s := (sa, sk, sf, sc, sz)) rfl) ?_
      replace h := h.2
      exact k_73_24_3t hd hc  h
theorem t_73_3t {d : Nat} (hc : ∀ p ∈ s_w73, CTR (yex (d + 4)) p.1 p.2) {a1 : Int32} {sa : Int32} {sk : Int32} {sf : Int32} {sc : Int32} {sz : Int32} {Q : Option Value → sW → Prop} (h : w_73_0 (fun k => Tt (d + 4) wxL (wk_73t 3 k) (wk_73t 3 k)) 3 a1 sa sk sf sc sz Q) : Tt (d + 5) wxL (((82, 3), 3, [(82, 0, 3), (82, 1, 40), (82, 2, 7)]) : wW) (((82, 3), 3, [(82, 0, 3), (82, 1, 40), (82, 2, 7)]) : wW) 73 [.ref 82, .int a1] (sa, sk, sf, sc, sz) Q := tt_of (E := xE_73) (L := xL_5) (ml := 2) (ret := none) rfl rfl rfl (k_73_0_3t rfl hc h)
set_option maxRecDepth 20000 in
theorem k_73_34_3tk {d d0 : Nat} (hd : d = d0 + 4) (hc : ∀ p ∈ s_w73, CTR (yex d) p.1 p.2)  {a1 : Int32} {sa : Int32} {sk : Int32} {sf : Int32} {sc : Int32} {sz : Int32} {Q : Option Value → sW → Prop}  (h : w_73_34 (fun k => Tt d wxL (wk_73tk 3 k) (wk_73tk 3 k)) 3  a1 sa sk sf sc sz Q) : Rn d wxL (((82, 3), 3, [(82, 0, 3), (82, 1, 40), (82, 2, 43)]) : wW) (((82, 3), 3, [(82, 0, 3), (82, 1, 40), (82, 2, 43)]) : wW) xL_5 2 (none) xE_73 (xE_73.drop 34) [.ref 82, .int a1, .null, .null] [] (sa, sk, sf, sc, sz) Q := by
  unfold w_73_34 at h
  exact n_ret0 rfl h
set_option maxRecDepth 20000 in
theorem k_73_24_3tk {d d0 : Nat} (hd : d = d0 + 4) (hc : ∀ p ∈ s_w73, CTR (yex d) p.1 p.2)  {a1 : Int32} {sa : Int32} {sk : Int32} {sf : Int32} {sc : Int32} {sz : Int32} {Q : Option Value → sW → Prop}  (h : w_73_24 (fun k => Tt d wxL (wk_73tk 3 k) (wk_73tk 3 k)) 3  a1 sa sk sf sc sz Q) : Rn d wxL (((82, 3), 3, [(82, 0, 3), (82, 1, 40), (82, 2, 43)]) : wW) (((82, 3), 3, [(82, 0, 3), (82, 1, 40), (82, 2, 43)]) : wW) xL_5 2 (none) xE_73 (xE_73.drop 24) [.ref 82, .int a1, .null, .null] [] (sa, sk, sf, sc, sz) Q := by
  unfold w_73_24 at h
  refine n_ld rfl rfl rfl ?_
  refine n_get (v := .ref 3) rfl (hv_C (a := 82) (n := 0) rfl rfl rfl) ?_
  refine n_get (v := .int sf) rfl (hv_f (a := 3) rfl rfl (fun _ _ hw => hw.1.2.2.1)) ?_
  refine n_brN rfl rfl ⟨fun hcn => ?_, fun hcn => ?_⟩
  · replace h := h.1 (fun q => hcn ((i_eq (x := sf) (y := 0) rfl (show (0 : Int32).toInt = 0 by decide)).mpr q))
    exact k_73_34_3tk hd hc  h
  · replace h := h.2 ((i_eq (x := sf) (y := 0) rfl (show (0 : Int32).toInt = 0 by decide)).mp hcn)
    refine n_ld rfl rfl rfl ?_
    refine n_c [.ref 82, .ref 82] xo_dup rfl rfl ?_
    refine n_get (v := .int sa) rfl (hv_f (a := 82) rfl rfl (fun _ _ hw => hw.1.1)) ?_
    refine n_c [.int 1, .int sa, .ref 82] (xo_push (.int 1)) rfl rfl ?_
    replace h := h _ (i_add (x := sa) (y := 1) rfl (show (1 : Int32).toInt = 1 by decide))
    replace h := h (i_addm (x := sa) (y := 1) rfl (show (1 : Int32).toInt = 1 by decide))
    refine n_c [.int (sa + 1), .ref 82] xo_iadd rfl rfl ?_
    refine n_put (a := 82) (w1 := (((82, 3), 3, [(82, 0, 3), (82, 1, 40), (82, 2, 43)]) : wW)) (s1 := ((sa + 1), sk, sf, sc, sz)) rfl rfl rfl rfl ⟨_, rfl, h.1.1, h.1.2⟩ rfl rfl rfl (Or.inr (Or.inl (by decide +kernel))) (ws_at (w := (((82, 3), 3, [(82, 0, 3), (82, 1, 40), (82, 2, 43)]) : wW)) (s := (sa, sk, sf, sc, sz)) rfl) ?_
    replace h := h.2
    exact k_73_34_3tk hd hc  h
set_option maxRecDepth 20000 in
theorem k_73_0_3tk {d d0 : Nat} (hd : d = d0 + 4) (hc : ∀ p ∈ s_w73, CTR (yex d) p.1 p.2)  {a1 : Int32} {sa : Int32} {sk : Int32} {sf : Int32} {sc : Int32} {sz : Int32} {Q : Option Value → sW → Prop}  (h : w_73_0 (fun k => Tt d wxL (wk_73tk 3 k) (wk_73tk 3 k)) 3  a1 sa sk sf sc sz Q) : Rn d wxL (((82, 3), 3, [(82, 0, 3), (82, 1, 40), (82, 2, 43)]) : wW) (((82, 3), 3, [(82, 0, 3), (82, 1, 40), (82, 2, 43)]) : wW) xL_5 2 (none) xE_73 (xE_73.drop 0) [.ref 82, .int a1, .null, .null] [] (sa, sk, sf, sc, sz) Q := by
  unfold w_73_0 at h
  refine n_ld rfl rfl rfl ?_
  refine n_get (v := .ref 3) rfl (hv_C (a := 82) (n := 0) rfl rfl rfl) ?_
  refine n_get (v := .int sf) rfl (hv_f (a := 3) rfl rfl (fun _ _ hw => hw.1.2.2.1)) ?_
  refine n_brN rfl rfl ⟨fun hcn => ?_, fun hcn => ?_⟩
  · replace h := h.1 (fun q => hcn ((i_eq (x := sf) (y := 0) rfl (show (0 : Int32).toInt = 0 by decide)).mpr q))
    exact k_73_24_3tk hd hc  h
  · replace h := h.2 ((i_eq (x := sf) (y := 0) rfl (show (0 : Int32).toInt = 0 by decide)).mp hcn)
    refine n_ld rfl rfl rfl ?_
    refine n_get (v := .ref 43) rfl (hv_C (a := 82) (n := 2) rfl rfl rfl) ?_
    refine n_ld rfl rfl rfl ?_
    refine n_get (v := .int sa) rfl (hv_f (a := 82) rfl rfl (fun _ _ hw => hw.1.1)) ?_
    refine n_row sa [] (a := 43) hd rfl rfl rfl rfl (fun x1 g1 g2 g3 => ?_)
    replace h := h x1 g2
    refine n_ld rfl rfl rfl ?_
    refine n_brP rfl rfl ⟨fun hcn => ?_, fun hcn => ?_⟩
    · replace h := h.1 ((i_eq (x := x1) (y := a1) rfl rfl).mp hcn)
      exact k_73_24_3tk hd hc  h
    · replace h := h.2 (fun q => hcn ((i_eq (x := x1) (y := a1) rfl rfl).mpr q))
      refine n_ld rfl rfl rfl ?_
      refine n_get (v := .ref 3) rfl (hv_C (a := 82) (n := 0) rfl rfl rfl) ?_
      refine n_c [.int 1, .ref 3] (xo_push (.int 1)) rfl rfl ?_
      refine n_c [.int 16, .int 1, .ref 3] (xo_push (.int 16)) rfl rfl ?_
      refine n_ld rfl rfl rfl ?_
      refine n_get (v := .ref 40) rfl (hv_C (a := 82) (n := 1) rfl rfl rfl) ?_
      refine n_get (v := .ref 45) rfl (hv_R (a := 40) rfl rfl) ?_
      refine n_ld rfl rfl rfl ?_
      refine n_get (v := .int sa) rfl (hv_f (a := 82) rfl rfl (fun _ _ hw => hw.1.1)) ?_
      refine n_row sa [.int 16, .int 1, .ref 3] (a := 45) hd rfl rfl rfl rfl (fun x2 g1 g2 g3 => ?_)
      replace h := h x2 g1
      replace h := h _ (i_mul (x := 16) (y := x2) (show (16 : Int32).toInt = 16 by decide) rfl)
      replace h := h (i_mulm (x := 16) (y := x2) (show (16 : Int32).toInt = 16 by decide) rfl)
      refine n_c [.int (16 * x2), .int 1, .ref 3] xo_imul rfl rfl ?_
      replace h := h _ (i_add (x := 1) (y := (16 * x2)) (show (1 : Int32).toInt = 1 by decide) rfl)
      replace h := h (i_addm (x := 1) (y := (16 * x2)) (show (1 : Int32).toInt = 1 by decide) rfl)
      refine n_c [.int (1 + (16 * x2)), .ref 3] xo_iadd rfl rfl ?_
      refine n_put (a := 3) (w1 := (((82, 3), 3, [(82, 0, 3), (82, 1, 40), (82, 2, 43)]) : wW)) (s1 := (sa, sk, (1 + (16 * x2)), sc, sz)) rfl rfl rfl rfl (vK_int _) rfl rfl rfl (Or.inr (Or.inr (fun q => h.1 (z32.mpr (Value.int.inj q))))) (ws_fl (w := (((82, 3), 3, [(82, 0, 3), (82, 1, 40), (82, 2, 43)]) : wW)) (s := (sa, sk, sf, sc, sz)) rfl) ?_
      replace h := h.2
      exact k_73_24_3tk hd hc  h
theorem t_73_3tk {d : Nat} (hc : ∀ p ∈ s_w73, CTR (yex (d + 4)) p.1 p.2) {a1 : Int32} {sa : Int32} {sk : Int32} {sf : Int32} {sc : Int32} {sz : Int32} {Q : Option Value → sW → Prop} (h : w_73_0 (fun k => Tt (d + 4) wxL (wk_73tk 3 k) (wk_73tk 3 k)) 3 a1 sa sk sf sc sz Q) : Tt (d + 5) wxL (((82, 3), 3, [(82, 0, 3), (82, 1, 40), (82, 2, 43)]) : wW) (((82, 3), 3, [(82, 0, 3), (82, 1, 40), (82, 2, 43)]) : wW) 73 [.ref 82, .int a1] (sa, sk, sf, sc, sz) Q := tt_of (E := xE_73) (L := xL_5) (ml := 2) (ret := none) rfl rfl rfl (k_73_0_3tk rfl hc h)
set_option maxRecDepth 20000 in
theorem k_73_34_39TK {d d0 : Nat} (hd : d = d0 + 4) (hc : ∀ p ∈ s_w73, CTR (yex d) p.1 p.2)  {a1 : Int32} {sa : Int32} {sk : Int32} {sf : Int32} {sc : Int32} {sz : Int32} {Q : Option Value → sW → Prop}  (h : w_73_34 (fun k => Tt d wxL (wk_73TK 39 k) (wk_73TK 39 k)) 39  a1 sa sk sf sc sz Q) : Rn d wxL (((82, 3), 39, [(82, 0, 39), (82, 1, 4), (82, 2, 7)]) : wW) (((82, 3), 39, [(82, 0, 39), (82, 1, 4), (82, 2, 7)]) : wW) xL_5 2 (none) xE_73 (xE_73.drop 34) [.ref 82, .int a1, .null, .null] [] (sa, sk, sf, sc, sz) Q := by
  unfold w_73_34 at h
  exact n_ret0 rfl h
set_option maxRecDepth 20000 in
theorem k_73_24_39TK {d d0 : Nat} (hd : d = d0 + 4) (hc : ∀ p ∈ s_w73, CTR (yex d) p.1 p.2)  {a1 : Int32} {sa : Int32} {sk : Int32} {sf : Int32} {sc : Int32} {sz : Int32} {Q : Option Value → sW → Prop}  (h : w_73_24 (fun k => Tt d wxL (wk_73TK 39 k) (wk_73TK 39 k)) 39  a1 sa sk sf sc sz Q) : Rn d wxL (((82, 3), 39, [(82, 0, 39), (82, 1, 4), (82, 2, 7)]) : wW) (((82, 3), 39, [(82, 0, 39), (82, 1, 4), (82, 2, 7)]) : wW) xL_5 2 (none) xE_73 (xE_73.drop 24) [.ref 82, .int a1, .null, .null] [] (sa, sk, sf, sc, sz) Q := by
  unfold w_73_24 at h
  refine n_ld rfl rfl rfl ?_
  refine n_get (v := .ref 39) rfl (hv_C (a := 82) (n := 0) rfl rfl rfl) ?_
  refine n_get (v := .int sf) rfl (hv_f (a := 39) rfl rfl (fun _ _ hw => hw.1.2.2.1)) ?_
  refine n_brN rfl rfl ⟨fun hcn => ?_, fun hcn => ?_⟩
  · replace h := h.1 (fun q => hcn ((i_eq (x := sf) (y := 0) rfl (show (0 : Int32).toInt = 0 by decide)).mpr q))
    exact k_73_34_39TK hd hc  h
  · replace h := h.2 ((i_eq (x := sf) (y := 0) rfl (show (0 : Int32).toInt = 0 by decide)).mp hcn)
    refine n_ld rfl rfl rfl ?_
    refine n_c [.ref 82, .ref 82] xo_dup rfl rfl ?_
    refine n_get (v := .int sa) rfl (hv_f (a := 82) rfl rfl (fun _ _ hw => hw.1.1)) ?_
    refine n_c [.int 1, .int sa, .ref 82] (xo_push (.int 1)) rfl rfl ?_
    replace h := h _ (i_add (x := sa) (y := 1) rfl (show (1 : Int32).toInt = 1 by decide))
    replace h := h (i_addm (x := sa) (y := 1) rfl (show (1 : Int32).toInt = 1 by decide))
    refine n_c [.int (sa + 1), .ref 82] xo_iadd rfl rfl ?_
    refine n_put (a := 82) (w1 := (((82, 3), 39, [(82, 0, 39), (82, 1, 4), (82, 2, 7)]) : wW)) (s1 := ((sa + 1), sk, sf, sc, sz)) rfl rfl rfl rfl ⟨_, rfl, h.1.1, h.1.2⟩ rfl rfl rfl (Or.inr (Or.inl (by decide +kernel))) (ws_at (w := (((82, 3), 39, [(82, 0, 39), (82, 1, 4), (82, 2, 7)]) : wW)) (s := (sa, sk, sf, sc, sz)) rfl) ?_
    replace h := h.2
    exact k_73_34_39TK hd hc  h
set_option maxRecDepth 20000 in
theorem k_73_0_39TK {d d0 : Nat} (hd : d = d0 + 4) (hc : ∀ p ∈ s_w73, CTR (yex d) p.1 p.2)  {a1 : Int32} {sa : Int32} {sk : Int32} {sf : Int32} {sc : Int32} {sz : Int32} {Q : Option Value → sW → Prop}  (h : w_73_0 (fun k => Tt d wxL (wk_73TK 39 k) (wk_73TK 39 k)) 39  a1 sa sk sf sc sz Q) : Rn d wxL (((82, 3), 39, [(82, 0, 39), (82, 1, 4), (82, 2, 7)]) : wW) (((82, 3), 39, [(82, 0, 39), (82, 1, 4), (82, 2, 7)]) : wW) xL_5 2 (none) xE_73 (xE_73.drop 0) [.ref 82, .int a1, .null, .null] [] (sa, sk, sf, sc, sz) Q := by
  unfold w_73_0 at h
  refine n_ld rfl rfl rfl ?_
  refine n_get (v := .ref 39) rfl (hv_C (a := 82) (n := 0) rfl rfl rfl) ?_
  refine n_get (v := .int sf) rfl (hv_f (a := 39) rfl rfl (fun _ _ hw => hw.1.2.2.1)) ?_
  refine n_brN rfl rfl ⟨fun hcn => ?_, fun hcn => ?_⟩
  · replace h := h.1 (fun q => hcn ((i_eq (x := sf) (y := 0) rfl (show (0 : Int32).toInt = 0 by decide)).mpr q))
    exact k_73_24_39TK hd hc  h
  · replace h := h.2 ((i_eq (x := sf) (y := 0) rfl (show (0 : Int32).toInt = 0 by decide)).mp hcn)
    refine n_ld rfl rfl rfl ?_
    refine n_get (v := .ref 7) rfl (hv_C (a := 82) (n := 2) rfl rfl rfl) ?_
    refine n_ld rfl rfl rfl ?_
    refine n_get (v := .int sa) rfl (hv_f (a := 82) rfl rfl (fun _ _ hw => hw.1.1)) ?_
    refine n_row sa [] (a := 7) hd rfl rfl rfl rfl (fun x1 g1 g2 g3 => ?_)
    replace h := h x1 g2
    refine n_ld rfl rfl rfl ?_
    refine n_brP rfl rfl ⟨fun hcn => ?_, fun hcn => ?_⟩
    · replace h := h.1 ((i_eq (x := x1) (y := a1) rfl rfl).mp hcn)
      exact k_73_24_39TK hd hc  h
    · replace h := h.2 (fun q => hcn ((i_eq (x := x1) (y := a1) rfl rfl).mpr q))
      refine n_ld rfl rfl rfl ?_
      refine n_get (v := .ref 39) rfl (hv_C (a := 82) (n := 0) rfl rfl rfl) ?_
      refine n_c [.int 1, .ref 39] (xo_push (.int 1)) rfl rfl ?_
      refine n_c [.int 16, .int 1, .ref 39] (xo_push (.int 16)) rfl rfl ?_
      refine n_ld rfl rfl rfl ?_
      refine n_get (v := .ref 4) rfl (hv_C (a := 82) (n := 1) rfl rfl rfl) ?_
      refine n_get (v := .ref 9) rfl (hv_R (a := 4) rfl rfl) ?_
      refine n_ld rfl rfl rfl ?_
      refine n_get (v := .int sa) rfl (hv_f (a := 82) rfl rfl (fun _ _ hw => hw.1.1)) ?_
      refine n_row sa [.int 16, .int 1, .ref 39] (a := 9) hd rfl rfl rfl rfl (fun x2 g1 g2 g3 => ?_)
      replace h := h x2 g1
      replace h := h _ (i_mul (x := 16) (y := x2) (show (16 : Int32).toInt = 16 by decide) rfl)
      replace h := h (i_mulm (x := 16) (y := x2) (show (16 : Int32).toInt = 16 by decide) rfl)
      refine n_c [.int (16 * x2), .int 1, .ref 39] xo_imul rfl rfl ?_
      replace h := h _ (i_add (x := 1) (y := (16 * x2)) (show (1 : Int32).toInt = 1 by decide) rfl)
      replace h := h (i_addm (x := 1) (y := (16 * x2)) (show (1 : Int32).toInt = 1 by decide) rfl)
      refine n_c [.int (1 + (16 * x2)), .ref 39] xo_iadd rfl rfl ?_
      refine n_put (a := 39) (w1 := (((82, 3), 39, [(82, 0, 39), (82, 1, 4), (82, 2, 7)]) : wW)) (s1 := (sa, sk, (1 + (16 * x2)), sc, sz)) rfl rfl rfl rfl (vK_int _) rfl rfl rfl (Or.inr (Or.inr (fun q => h.1 (z32.mpr (Value.int.inj q))))) (ws_fl (w := (((82, 3), 39, [(82, 0, 39), (82, 1, 4), (82, 2, 7)]) : wW)) (s := (sa, sk, sf, sc, sz)) rfl) ?_
      replace h := h.2
      exact k_73_24_39TK hd hc  h
theorem t_73_39TK {d : Nat} (hc : ∀ p ∈ s_w73, CTR (yex (d + 4)) p.1 p.2) {a1 : Int32} {sa : Int32} {sk : Int32} {sf : Int32} {sc : Int32} {sz : Int32} {Q : Option Value → sW → Prop} (h : w_73_0 (fun k => Tt (d + 4) wxL (wk_73TK 39 k) (wk_73TK 39 k)) 39 a1 sa sk sf sc sz Q) : Tt (d + 5) wxL (((82, 3), 39, [(82, 0, 39), (82, 1, 4), (82, 2, 7)]) : wW) (((82, 3), 39, [(82, 0, 39), (82, 1, 4), (82, 2, 7)]) : wW) 73 [.ref 82, .int a1] (sa, sk, sf, sc, sz) Q := tt_of (E := xE_73) (L := xL_5) (ml := 2) (ret := none) rfl rfl rfl (k_73_0_39TK rfl hc h)
set_option maxRecDepth 20000 in
theorem k_73_34_39T {d d0 : Nat} (hd : d = d0 + 4) (hc : ∀ p ∈ s_w73, CTR (yex d) p.1 p.2)  {a1 : Int32} {sa : Int32} {sk : Int32} {sf : Int32} {sc : Int32} {sz : Int32} {Q : Option Value → sW → Prop}  (h : w_73_34 (fun k => Tt d wxL (wk_73T 39 k) (wk_73T 39 k)) 39  a1 sa sk sf sc sz Q) : Rn d wxL (((82, 3), 39, [(82, 0, 39), (82, 1, 4), (82, 2, 43)]) : wW) (((82, 3), 39, [(82, 0, 39), (82, 1, 4), (82, 2, 43)]) : wW) xL_5 2 (none) xE_73 (xE_73.drop 34) [.ref 82, .int a1, .null, .null] [] (sa, sk, sf, sc, sz) Q := by
  unfold w_73_34 at h
  exact n_ret0 rfl h
set_option maxRecDepth 20000 in
theorem k_73_24_39T {d d0 : Nat} (hd : d = d0 + 4) (hc : ∀ p ∈ s_w73, CTR (yex d) p.1 p.2)  {a1 : Int32} {sa : Int32} {sk : Int32} {sf : Int32} {sc : Int32} {sz : Int32} {Q : Option Value → sW → Prop}  (h : w_73_24 (fun k => Tt d wxL (wk_73T 39 k) (wk_73T 39 k)) 39  a1 sa sk sf sc sz Q) : Rn d wxL (((82, 3), 39, [(82, 0, 39), (82, 1, 4), (82, 2, 43)]) : wW) (((82, 3), 39, [(82, 0, 39), (82, 1, 4), (82, 2, 43)]) : wW) xL_5 2 (none) xE_73 (xE_73.drop 24) [.ref 82, .int a1, .null, .null] [] (sa, sk, sf, sc, sz) Q := by
  unfold w_73_24 at h
  refine n_ld rfl rfl rfl ?_
  refine n_get (v := .ref 39) rfl (hv_C (a := 82) (n := 0) rfl rfl rfl) ?_
  refine n_get (v := .int sf) rfl (hv_f (a := 39) rfl rfl (fun _ _ hw => hw.1.2.2.1)) ?_
  refine n_brN rfl rfl ⟨fun hcn => ?_, fun hcn => ?_⟩
  · replace h := h.1 (fun q => hcn ((i_eq (x := sf) (y := 0) rfl (show (0 : Int32).toInt = 0 by decide)).mpr q))
    exact k_73_34_39T hd hc  h
  · replace h := h.2 ((i_eq (x := sf) (y := 0) rfl (show (0 : Int32).toInt = 0 by decide)).mp hcn)
    refine n_ld rfl rfl rfl ?_
    refine n_c [.ref 82, .ref 82] xo_dup rfl rfl ?_
    refine n_get (v := .int sa) rfl (hv_f (a := 82) rfl rfl (fun _ _ hw => hw.1.1)) ?_
    refine n_c [.int 1, .int sa, .ref 82] (xo_push (.int 1)) rfl rfl ?_
    replace h := h _ (i_add (x := sa) (y := 1) rfl (show (1 : Int32).toInt = 1 by decide))
    replace h := h (i_addm (x := sa) (y := 1) rfl (show (1 : Int32).toInt = 1 by decide))
    refine n_c [.int (sa + 1), .ref 82] xo_iadd rfl rfl ?_
    refine n_put (a := 82) (w1 := (((82, 3), 39, [(82, 0, 39), (82, 1, 4), (82, 2, 43)]) : wW)) (s1 := ((sa + 1), sk, sf, sc, sz)) rfl rfl rfl rfl ⟨_, rfl, h.1.1, h.1.2⟩ rfl rfl rfl (Or.inr (Or.inl (by decide +kernel))) (ws_at (w := (((82, 3), 39, [(82, 0, 39), (82, 1, 4), (82, 2, 43)]) : wW)) (s := (sa, sk, sf, sc, sz)) rfl) ?_
    replace h := h.2
    exact k_73_34_39T hd hc  h
set_option maxRecDepth 20000 in
theorem k_73_0_39T {d d0 : Nat} (hd : d = d0 + 4) (hc : ∀ p ∈ s_w73, CTR (yex d) p.1 p.2)  {a1 : Int32} {sa : Int32} {sk : Int32} {sf : Int32} {sc : Int32} {sz : Int32} {Q : Option Value → sW → Prop}  (h : w_73_0 (fun k => Tt d wxL (wk_73T 39 k) (wk_73T 39 k)) 39  a1 sa sk sf sc sz Q) : Rn d wxL (((82, 3), 39, [(82, 0, 39), (82, 1, 4), (82, 2, 43)]) : wW) (((82, 3), 39, [(82, 0, 39), (82, 1, 4), (82, 2, 43)]) : wW) xL_5 2 (none) xE_73 (xE_73.drop 0) [.ref 82, .int a1, .null, .null] [] (sa, sk, sf, sc, sz) Q := by
  unfold w_73_0 at h
  refine n_ld rfl rfl rfl ?_
  refine n_get (v := .ref 39) rfl (hv_C (a := 82) (n := 0) rfl rfl rfl) ?_
  refine n_get (v := .int sf) rfl (hv_f (a := 39) rfl rfl (fun _ _ hw => hw.1.2.2.1)) ?_
  refine n_brN rfl rfl ⟨fun hcn => ?_, fun hcn => ?_⟩
  · replace h := h.1 (fun q => hcn ((i_eq (x := sf) (y := 0) rfl (show (0 : Int32).toInt = 0 by decide)).mpr q))
    exact k_73_24_39T hd hc  h
  · replace h := h.2 ((i_eq (x := sf) (y := 0) rfl (show (0 : Int32).toInt = 0 by decide)).mp hcn)
    refine n_ld rfl rfl rfl ?_
    refine n_get (v := .ref 43) rfl (hv_C (a := 82) (n := 2) rfl rfl rfl) ?_
    refine n_ld rfl rfl rfl ?_
    refine n_get (v := .int sa) rfl (hv_f (a := 82) rfl rfl (fun _ _ hw => hw.1.1)) ?_
    refine n_row sa [] (a := 43) hd rfl rfl rfl rfl (fun x1 g1 g2 g3 => ?_)
    replace h := h x1 g2
    refine n_ld rfl rfl rfl ?_
    refine n_brP rfl rfl ⟨fun hcn => ?_, fun hcn => ?_⟩
    · replace h := h.1 ((i_eq (x := x1) (y := a1) rfl rfl).mp hcn)
      exact k_73_24_39T hd hc  h
    · replace h := h.2 (fun q => hcn ((i_eq (x := x1) (y := a1) rfl rfl).mpr q))
      refine n_ld rfl rfl rfl ?_
      refine n_get (v := .ref 39) rfl (hv_C (a := 82) (n := 0) rfl rfl rfl) ?_
      refine n_c [.int 1, .ref 39] (xo_push (.int 1)) rfl rfl ?_
      refine n_c [.int 16, .int 1, .ref 39] (xo_push (.int 16)) rfl rfl ?_
      refine n_ld rfl rfl rfl ?_
      refine n_get (v := .ref 4) rfl (hv_C (a := 82) (n := 1) rfl rfl rfl) ?_
      refine n_get (v := .ref 9) rfl (hv_R (a := 4) rfl rfl) ?_
      refine n_ld rfl rfl rfl ?_
      refine n_get (v := .int sa) rfl (hv_f (a := 82) rfl rfl (fun _ _ hw => hw.1.1)) ?_
      refine n_row sa [.int 16, .int 1, .ref 39] (a := 9) hd rfl rfl rfl rfl (fun x2 g1 g2 g3 => ?_)
      replace h := h x2 g1
      replace h := h _ (i_mul (x := 16) (y := x2) (show (16 : Int32).toInt = 16 by decide) rfl)
      replace h := h (i_mulm (x := 16) (y := x2) (show (16 : Int32).toInt = 16 by decide) rfl)
      refine n_c [.int (16 * x2), .int 1, .ref 39] xo_imul rfl rfl ?_
      replace h := h _ (i_add (x := 1) (y := (16 * x2)) (show (1 : Int32).toInt = 1 by decide) rfl)
      replace h := h (i_addm (x := 1) (y := (16 * x2)) (show (1 : Int32).toInt = 1 by decide) rfl)
      refine n_c [.int (1 + (16 * x2)), .ref 39] xo_iadd rfl rfl ?_
      refine n_put (a := 39) (w1 := (((82, 3), 39, [(82, 0, 39), (82, 1, 4), (82, 2, 43)]) : wW)) (s1 := (sa, sk, (1 + (16 * x2)), sc, sz)) rfl rfl rfl rfl (vK_int _) rfl rfl rfl (Or.inr (Or.inr (fun q => h.1 (z32.mpr (Value.int.inj q))))) (ws_fl (w := (((82, 3), 39, [(82, 0, 39), (82, 1, 4), (82, 2, 43)]) : wW)) (s := (sa, sk, sf, sc, sz)) rfl) ?_
      replace h := h.2
      exact k_73_24_39T hd hc  h
theorem t_73_39T {d : Nat} (hc : ∀ p ∈ s_w73, CTR (yex (d + 4)) p.1 p.2) {a1 : Int32} {sa : Int32} {sk : Int32} {sf : Int32} {sc : Int32} {sz : Int32} {Q : Option Value → sW → Prop} (h : w_73_0 (fun k => Tt (d + 4) wxL (wk_73T 39 k) (wk_73T 39 k)) 39 a1 sa sk sf sc sz Q) : Tt (d + 5) wxL (((82, 3), 39, [(82, 0, 39), (82, 1, 4), (82, 2, 43)]) : wW) (((82, 3), 39, [(82, 0, 39), (82, 1, 4), (82, 2, 43)]) : wW) 73 [.ref 82, .int a1] (sa, sk, sf, sc, sz) Q := tt_of (E := xE_73) (L := xL_5) (ml := 2) (ret := none) rfl rfl rfl (k_73_0_39T rfl hc h)
set_option maxRecDepth 20000 in
theorem k_73_34_39K {d d0 : Nat} (hd : d = d0 + 4) (hc : ∀ p ∈ s_w73, CTR (yex d) p.1 p.2)  {a1 : Int32} {sa : Int32} {sk : Int32} {sf : Int32} {sc : Int32} {sz : Int32} {Q : Option Value → sW → Prop}  (h : w_73_34 (fun k => Tt d wxL (wk_73K 39 k) (wk_73K 39 k)) 39  a1 sa sk sf sc sz Q) : Rn d wxL (((82, 3), 39, [(82, 0, 39), (82, 1, 40), (82, 2, 7)]) : wW) (((82, 3), 39, [(82, 0, 39), (82, 1, 40), (82, 2, 7)]) : wW) xL_5 2 (none) xE_73 (xE_73.drop 34) [.ref 82, .int a1, .null, .null] [] (sa, sk, sf, sc, sz) Q := by
  unfold w_73_34 at h
  exact n_ret0 rfl h
set_option maxRecDepth 20000 in
theorem k_73_24_39K {d d0 : Nat} (hd : d = d0 + 4) (hc : ∀ p ∈ s_w73, CTR (yex d) p.1 p.2)  {a1 : Int32} {sa : Int32} {sk : Int32} {sf : Int32} {sc : Int32} {sz : Int32} {Q : Option Value → sW → Prop}  (h : w_73_24 (fun k => Tt d wxL (wk_73K 39 k) (wk_73K 39 k)) 39  a1 sa sk sf sc sz Q) : Rn d wxL (((82, 3), 39, [(82, 0, 39), (82, 1, 40), (82, 2, 7)]) : wW) (((82, 3), 39, [(82, 0, 39), (82, 1, 40), (82, 2, 7)]) : wW) xL_5 2 (none) xE_73 (xE_73.drop 24) [.ref 82, .int a1, .null, .null] [] (sa, sk, sf, sc, sz) Q := by
  unfold w_73_24 at h
  refine n_ld rfl rfl rfl ?_
  refine n_get (v := .ref 39) rfl (hv_C (a := 82) (n := 0) rfl rfl rfl) ?_
  refine n_get (v := .int sf) rfl (hv_f (a := 39) rfl rfl (fun _ _ hw => hw.1.2.2.1)) ?_
  refine n_brN rfl rfl ⟨fun hcn => ?_, fun hcn => ?_⟩
  · replace h := h.1 (fun q => hcn ((i_eq (x := sf) (y := 0) rfl (show (0 : Int32).toInt = 0 by decide)).mpr q))
    exact k_73_34_39K hd hc  h
  · replace h := h.2 ((i_eq (x := sf) (y := 0) rfl (show (0 : Int32).toInt = 0 by decide)).mp hcn)
    refine n_ld rfl rfl rfl ?_
    refine n_c [.ref 82, .ref 82] xo_dup rfl rfl ?_
    refine n_get (v := .int sa) rfl (hv_f (a := 82) rfl rfl (fun _ _ hw => hw.1.1)) ?_
    refine n_c [.int 1, .int sa, .ref 82] (xo_push (.int 1)) rfl rfl ?_
    replace h := h _ (i_add (x := sa) (y := 1) rfl (show (1 : Int32).toInt = 1 by decide))
    replace h := h (i_addm (x := sa) (y := 1) rfl (show (1 : Int32).toInt = 1 by decide))
    refine n_c [.int (sa + 1), .ref 82] xo_iadd rfl rfl ?_
    refine n_put (a := 82) (w1 := (((82, 3), 39, [(82, 0, 39), (82, 1, 40), (82, 2, 7)]) : wW)) (s1 := ((sa + 1), sk, sf, sc, sz)) rfl rfl rfl rfl ⟨_, rfl, h.1.1, h.1.2⟩ rfl rfl rfl (Or.inr (Or.inl (by decide +kernel))) (ws_at (w := (((82, 3), 39, [(82, 0, 39), (82, 1, 40), (82, 2, 7)]) : wW)) (s := (sa, sk, sf, sc, sz)) rfl) ?_
    replace h := h.2
    exact k_73_34_39K hd hc  h
set_option maxRecDepth 20000 in
theorem k_73_0_39K {d d0 : Nat} (hd : d = d0 + 4) (hc : ∀ p ∈ s_w73, CTR (yex d) p.1 p.2)  {a1 : Int32} {sa : Int32} {sk : Int32} {sf : Int32} {sc : Int32} {sz : Int32} {Q : Option Value → sW → Prop}  (h : w_73_0 (fun k => Tt d wxL (wk_73K 39 k) (wk_73K 39 k)) 39  a1 sa sk sf sc sz Q) : Rn d wxL (((82, 3), 39, [(82, 0, 39), (82, 1, 40), (82, 2, 7)]) : wW) (((82, 3), 39, [(82, 0, 39), (82, 1, 40), (82, 2, 7)]) : wW) xL_5 2 (none) xE_73 (xE_73.drop 0) [.ref 82, .int a1, .null, .null] [] (sa, sk, sf, sc, sz) Q := by
  unfold w_73_0 at h
  refine n_ld rfl rfl rfl ?_
  refine n_get (v := .ref 39) rfl (hv_C (a := 82) (n := 0) rfl rfl rfl) ?_
  refine n_get (v := .int sf) rfl (hv_f (a := 39) rfl rfl (fun _ _ hw => hw.1.2.2.1)) ?_
  refine n_brN rfl rfl ⟨fun hcn => ?_, fun hcn => ?_⟩
  · replace h := h.1 (fun q => hcn ((i_eq (x := sf) (y := 0) rfl (show (0 : Int32).toInt = 0 by decide)).mpr q))
    exact k_73_24_39K hd hc  h
  · replace h := h.2 ((i_eq (x := sf) (y := 0) rfl (show (0 : Int32).toInt = 0 by decide)).mp hcn)
    refine n_ld rfl rfl rfl ?_
    refine n_get (v := .ref 7) rfl (hv_C (a := 82) (n := 2) rfl rfl rfl) ?_
    refine n_ld rfl rfl rfl ?_
    refine n_get (v := .int sa) rfl (hv_f (a := 82) rfl rfl (fun _ _ hw => hw.1.1)) ?_
    refine n_row sa [] (a := 7) hd rfl rfl rfl rfl (fun x1 g1 g2 g3 => ?_)
    replace h := h x1 g2
    refine n_ld rfl rfl rfl ?_
    refine n_brP rfl rfl ⟨fun hcn => ?_, fun hcn => ?_⟩
    · replace h := h.1 ((i_eq (x := x1) (y := a1) rfl rfl).mp hcn)
      exact k_73_24_39K hd hc  h
    · replace h := h.2 (fun q => hcn ((i_eq (x := x1) (y := a1) rfl rfl).mpr q))
      refine n_ld rfl rfl rfl ?_
      refine n_get (v := .ref 39) rfl (hv_C (a := 82) (n := 0) rfl rfl rfl) ?_
      refine n_c [.int 1, .ref 39] (xo_push (.int 1)) rfl rfl ?_
      refine n_c [.int 16, .int 1, .ref 39] (xo_push (.int 16)) rfl rfl ?_
      refine n_ld rfl rfl rfl ?_
      refine n_get (v := .ref 40) rfl (hv_C (a := 82) (n := 1) rfl rfl rfl) ?_
      refine n_get (v := .ref 45) rfl (hv_R (a := 40) rfl rfl) ?_
      refine n_ld rfl rfl rfl ?_
      refine n_get (v := .int sa) rfl (hv_f (a := 82) rfl rfl (fun _ _ hw => hw.1.1)) ?_
      refine n_row sa [.int 16, .int 1, .ref 39] (a := 45) hd rfl rfl rfl rfl (fun x2 g1 g2 g3 => ?_)
      replace h := h x2 g1
      replace h := h _ (i_mul (x := 16) (y := x2) (show (16 : Int32).toInt = 16 by decide) rfl)
      replace h := h (i_mulm (x := 16) (y := x2) (show (16 : Int32).toInt = 16 by decide) rfl)
      refine n_c [.int (16 * x2), .int 1, .ref 39] xo_imul rfl rfl ?_
      replace h := h _ (i_add (x := 1) (y := (16 * x2)) (show (1 : Int32).toInt = 1 by decide) rfl)
      replace h := h (i_addm (x := 1) (y := (16 * x2)) (show (1 : Int32).toInt = 1 by decide) rfl)
      refine n_c [.int (1 + (16 * x2)), .ref 39] xo_iadd rfl rfl ?_
      refine n_put (a := 39) (w1 := (((82, 3), 39, [(82, 0, 39), (82, 1, 40), (82, 2, 7)]) : wW)) (s1 := (sa, sk, (1 + (16 * x2)), sc, sz)) rfl rfl rfl rfl (vK_int _) rfl rfl rfl (Or.inr (Or.inr (fun q => h.1 (z32.mpr (Value.int.inj q))))) (ws_fl (w := (((82, 3), 39, [(82, 0, 39), (82, 1, 40), (82, 2, 7)]) : wW)) (s := (sa, sk, sf, sc, sz)) rfl) ?_
      replace h := h.2
      exact k_73_24_39K hd hc  h
theorem t_73_39K {d : Nat} (hc : ∀ p ∈ s_w73, CTR (yex (d + 4)) p.1 p.2) {a1 : Int32} {sa : Int32} {sk : Int32} {sf : Int32} {sc : Int32} {sz : Int32} {Q : Option Value → sW → Prop} (h : w_73_0 (fun k => Tt (d + 4) wxL (wk_73K 39 k) (wk_73K 39 k)) 39 a1 sa sk sf sc sz Q) : Tt (d + 5) wxL (((82, 3), 39, [(82, 0, 39), (82, 1, 40), (82, 2, 7)]) : wW) (((82, 3), 39, [(82, 0, 39), (82, 1, 40), (82, 2, 7)]) : wW) 73 [.ref 82, .int a1] (sa, sk, sf, sc, sz) Q := tt_of (E := xE_73) (L := xL_5) (ml := 2) (ret := none) rfl rfl rfl (k_73_0_39K rfl hc h)
set_option maxRecDepth 20000 in
theorem k_73_34_39 {d d0 : Nat} (hd : d = d0 + 4) (hc : ∀ p ∈ s_w73, CTR (yex d) p.1 p.2)  {a1 : Int32} {sa : Int32} {sk : Int32} {sf : Int32} {sc : Int32} {sz : Int32} {Q : Option Value → sW → Prop}  (h : w_73_34 (fun k => Tt d wxL (wk_73 39 k) (wk_73 39 k)) 39  a1 sa sk sf sc sz Q) : Rn d wxL (((82, 3), 39, [(82, 0, 39), (82, 1, 40), (82, 2, 43)]) : wW) (((82, 3), 39, [(82, 0, 39), (82, 1, 40), (82, 2, 43)]) : wW) xL_5 2 (none) xE_73 (xE_73.drop 34) [.ref 82, .int a1, .null, .null] [] (sa, sk, sf, sc, sz) Q := by
  unfold w_73_34 at h
  exact n_ret0 rfl h
set_option maxRecDepth 20000 in
theorem k_73_24_39 {d d0 : Nat} (hd : d = d0 + 4) (hc : ∀ p ∈ s_w73, CTR (yex d) p.1 p.2)  {a1 : Int32} {sa : Int32} {sk : Int32} {sf : Int32} {sc : Int32} {sz : Int32} {Q : Option Value → sW → Prop}  (h : w_73_24 (fun k => Tt d wxL (wk_73 39 k) (wk_73 39 k)) 39  a1 sa sk sf sc sz Q) : Rn d wxL (((82, 3), 39, [(82, 0, 39), (82, 1, 40), (82, 2, 43)]) : wW) (((82, 3), 39, [(82, 0, 39), (82, 1, 40), (82, 2, 43)]) : wW) xL_5 2 (none) xE_73 (xE_73.drop 24) [.ref 82, .int a1, .null, .null] [] (sa, sk, sf, sc, sz) Q := by
  unfold w_73_24 at h
  refine n_ld rfl rfl rfl ?_
  refine n_get (v := .ref 39) rfl (hv_C (a := 82) (n := 0) rfl rfl rfl) ?_
  refine n_get (v := .int sf) rfl (hv_f (a := 39) rfl rfl (fun _ _ hw => hw.1.2.2.1)) ?_
  refine n_brN rfl rfl ⟨fun hcn => ?_, fun hcn => ?_⟩
  · replace h := h.1 (fun q => hcn ((i_eq (x := sf) (y := 0) rfl (show (0 : Int32).toInt = 0 by decide)).mpr q))
    exact k_73_34_39 hd hc  h
  · replace h := h.2 ((i_eq (x := sf) (y := 0) rfl (show (0 : Int32).toInt = 0 by decide)).mp hcn)
    refine n_ld rfl rfl rfl ?_
    refine n_c [.ref 82, .ref 82] xo_dup rfl rfl ?_
    refine n_get (v := .int sa) rfl (hv_f (a := 82) rfl rfl (fun _ _ hw => hw.1.1)) ?_
    refine n_c [.int 1, .int sa, .ref 82] (xo_push (.int 1)) rfl rfl ?_
    replace h := h _ (i_add (x := sa) (y := 1) rfl (show (1 : Int32).toInt = 1 by decide))
    replace h := h (i_addm (x := sa) (y := 1) rfl (show (1 : Int32).toInt = 1 by decide))
    refine n_c [.int (sa + 1), .ref 82] xo_iadd rfl rfl ?_
    refine n_put (a := 82) (w1 := (((82, 3), 39, [(82, 0, 39), (82, 1, 40), (82, 2, 43)]) : wW)) (s1 := ((sa + 1), sk, sf, sc, sz)) rfl rfl rfl rfl ⟨_, rfl, h.1.1, h.1.2⟩ rfl rfl rfl (Or.inr (Or.inl (by decide +kernel))) (ws_at (w := (((82, 3), 39, [(82, 0, 39), (82, 1, 40), (82, 2, 43)]) : wW)) (s := (sa, sk, sf, sc, sz)) rfl) ?_
    replace h := h.2
    exact k_73_34_39 hd hc  h
set_option maxRecDepth 20000 in
theorem k_73_0_39 {d d0 : Nat} (hd : d = d0 + 4) (hc : ∀ p ∈ s_w73, CTR (yex d) p.1 p.2)  {a1 : Int32} {sa : Int32} {sk : Int32} {sf : Int32} {sc : Int32} {sz : Int32} {Q : Option Value → sW → Prop}  (h : w_73_0 (fun k => Tt d wxL (wk_73 39 k) (wk_73 39 k)) 39  a1 sa sk sf sc sz Q) : Rn d wxL (((82, 3), 39, [(82, 0, 39), (82, 1, 40), (82, 2, 43)]) : wW) (((82, 3), 39, [(82, 0, 39), (82, 1, 40), (82, 2, 43)]) : wW) xL_5 2 (none) xE_73 (xE_73.drop 0) [.ref 82, .int a1, .null, .null] [] (sa, sk, sf, sc, sz) Q := by
  unfold w_73_0 at h
  refine n_ld rfl rfl rfl ?_
  refine n_get (v := .ref 39) rfl (hv_C (a := 82) (n := 0) rfl rfl rfl) ?_
  refine n_get (v := .int sf) rfl (hv_f (a := 39) rfl rfl (fun _ _ hw => hw.1.2.2.1)) ?_
  refine n_brN rfl rfl ⟨fun hcn => ?_, fun hcn => ?_⟩
  · replace h := h.1 (fun q => hcn ((i_eq (x := sf) (y := 0) rfl (show (0 : Int32).toInt = 0 by decide)).mpr q))
    exact k_73_24_39 hd hc  h
  · replace h := h.2 ((i_eq (x := sf) (y := 0) rfl (show (0 : Int32).toInt = 0 by decide)).mp hcn)
    refine n_ld rfl rfl rfl ?_
    refine n_get (v := .ref 43) rfl (hv_C (a := 82) (n := 2) rfl rfl rfl) ?_
    refine n_ld rfl rfl rfl ?_
    refine n_get (v := .int sa) rfl (hv_f (a := 82) rfl rfl (fun _ _ hw => hw.1.1)) ?_
    refine n_row sa [] (a := 43) hd rfl rfl rfl rfl (fun x1 g1 g2 g3 => ?_)
    replace h := h x1 g2
    refine n_ld rfl rfl rfl ?_
    refine n_brP rfl rfl ⟨fun hcn => ?_, fun hcn => ?_⟩
    · replace h := h.1 ((i_eq (x := x1) (y := a1) rfl rfl).mp hcn)
      exact k_73_24_39 hd hc  h
    · replace h := h.2 (fun q => hcn ((i_eq (x := x1) (y := a1) rfl rfl).mpr q))
      refine n_ld rfl rfl rfl ?_
      refine n_get (v := .ref 39) rfl (hv_C (a := 82) (n := 0) rfl rfl rfl) ?_
      refine n_c [.int 1, .ref 39] (xo_push (.int 1)) rfl rfl ?_
      refine n_c [.int 16, .int 1, .ref 39] (xo_push (.int 16)) rfl rfl ?_
      refine n_ld rfl rfl rfl ?_
      refine n_get (v := .ref 40) rfl (hv_C (a := 82) (n := 1) rfl rfl rfl) ?_
      refine n_get (v := .ref 45) rfl (hv_R (a := 40) rfl rfl) ?_
      refine n_ld rfl rfl rfl ?_
      refine n_get (v := .int sa) rfl (hv_f (a := 82) rfl rfl (fun _ _ hw => hw.1.1)) ?_
      refine n_row sa [.int 16, .int 1, .ref 39] (a := 45) hd rfl rfl rfl rfl (fun x2 g1 g2 g3 => ?_)
      replace h := h x2 g1
      replace h := h _ (i_mul (x := 16) (y := x2) (show (16 : Int32).toInt = 16 by decide) rfl)
      replace h := h (i_mulm (x := 16) (y := x2) (show (16 : Int32).toInt = 16 by decide) rfl)
      refine n_c [.int (16 * x2), .int 1, .ref 39] xo_imul rfl rfl ?_
      replace h := h _ (i_add (x := 1) (y := (16 * x2)) (show (1 : Int32).toInt = 1 by decide) rfl)
      replace h := h (i_addm (x := 1) (y := (16 * x2)) (show (1 : Int32).toInt = 1 by decide) rfl)
      refine n_c [.int (1 + (16 * x2)), .ref 39] xo_iadd rfl rfl ?_
      refine n_put (a := 39) (w1 := (((82, 3), 39, [(82, 0, 39), (82, 1, 40), (82, 2, 43)]) : wW)) (s1 := (sa, sk, (1 + (16 * x2)), sc, sz)) rfl rfl rfl rfl (vK_int _) rfl rfl rfl (Or.inr (Or.inr (fun q => h.1 (z32.mpr (Value.int.inj q))))) (ws_fl (w := (((82, 3), 39, [(82, 0, 39), (82, 1, 40), (82, 2, 43)]) : wW)) (s := (sa, sk, sf, sc, sz)) rfl) ?_
      replace h := h.2
      exact k_73_24_39 hd hc  h
theorem t_73_39 {d : Nat} (hc : ∀ p ∈ s_w73, CTR (yex (d + 4)) p.1 p.2) {a1 : Int32} {sa : Int32} {sk : Int32} {sf : Int32} {sc : Int32} {sz : Int32} {Q : Option Value → sW → Prop} (h : w_73_0 (fun k => Tt (d + 4) wxL (wk_73 39 k) (wk_73 39 k)) 39 a1 sa sk sf sc sz Q) : Tt (d + 5) wxL (((82, 3), 39, [(82, 0, 39), (82, 1, 40), (82, 2, 43)]) : wW) (((82, 3), 39, [(82, 0, 39), (82, 1, 40), (82, 2, 43)]) : wW) 73 [.ref 82, .int a1] (sa, sk, sf, sc, sz) Q := tt_of (E := xE_73) (L := xL_5) (ml := 2) (ret := none) rfl rfl rfl (k_73_0_39 rfl hc h)
/-! FeatherBench$Reader.expectFirst -/
def wk_74 (P : Nat) : Nat → wW
  | _ => (((82, 3), P, [(82, 0, P), (82, 1, (P + 1)), (82, 2, (P + 4))]) : wW)
def s_w74 : List (Nat × cSg) := []
def wk_74k (P : Nat) : Nat → wW
  | _ => (((82, 3), P, [(82, 0, P), (82, 1, (P + 1)), (82, 2, 43)]) : wW)
def wk_74t (P : Nat) : Nat → wW
  | _ => (((82, 3), P, [(82, 0, P), (82, 1, 40), (82, 2, (P + 4))]) : wW)
def wk_74tk (P : Nat) : Nat → wW
  | _ => (((82, 3), P, [(82, 0, P), (82, 1, 40), (82, 2, 43)]) : wW)
def wk_74TK (P : Nat) : Nat → wW
  | _ => (((82, 3), P, [(82, 0, P), (82, 1, 4), (82, 2, 7)]) : wW)
def wk_74T (P : Nat) : Nat → wW
  | _ => (((82, 3), P, [(82, 0, P), (82, 1, 4), (82, 2, (P + 4))]) : wW)
def wk_74K (P : Nat) : Nat → wW
  | _ => (((82, 3), P, [(82, 0, P), (82, 1, (P + 1)), (82, 2, 7)]) : wW)
def w_74_60 (T : Nat → Nat → List Value → sW → (Option Value → sW → Prop) → Prop) (P : Nat)  (a1 : Int32) (sa : Int32) (sk : Int32) (sf : Int32) (sc : Int32) (sz : Int32) (Q : Option Value → sW → Prop) : Prop :=
  Q none (sa, sk, sf, sc, sz)
def w_74_50 (T : Nat → Nat → List Value → sW → (Option Value → sW → Prop) → Prop) (P : Nat)  (a1 : Int32) (sa : Int32) (sk : Int32) (sf : Int32) (sc : Int32) (sz : Int32) (Q : Option Value → sW → Prop) : Prop :=
  (¬ (sf.toInt = 0) → w_74_60 T P  a1 sa sk sf sc sz Q) ∧ (sf.toInt = 0 → ∀ x1 : Int32, (-2147483648 ≤ sa.toInt + 1 ∧ sa.toInt + 1 ≤ 2147483647 → x1.toInt = sa.toInt + 1) → x1.toInt % 16 = (sa.toInt + 1) % 16 → (0 ≤ x1.toInt ∧ x1.toInt ≤ 5000) ∧ (w_74_60 T P  a1 x1 sk sf sc sz Q))
def w_74_26 (T : Nat → Nat → List Value → sW → (Option Value → sW → Prop) → Prop) (P : Nat)  (a1 : Int32) (sa : Int32) (sk : Int32) (sf : Int32) (sc : Int32) (sz : Int32) (Q : Option Value → sW → Prop) : Prop :=
  (¬ (sf.toInt = 0) → w_74_50 T P  a1 sa sk sf sc sz Q) ∧ (sf.toInt = 0 → ∀ x1 : Int32, (¬ x1.toInt = 0 → 0 ≤ sa.toInt ∧ sa.toInt < 4002) → (x1.toInt = 1 → w_74_50 T P  a1 sa sk sf sc sz Q) ∧ (¬ (x1.toInt = 1) → ∀ x2 : Int32, (0 ≤ x2.toInt ∧ x2.toInt ≤ 5000) → ∀ x3 : Int32, (-2147483648 ≤ 16 * x2.toInt ∧ 16 * x2.toInt ≤ 2147483647 → x3.toInt = 16 * x2.toInt) → x3.toInt % 16 = (16 * x2.toInt) % 16 → ∀ x4 : Int32, (-2147483648 ≤ 1 + x3.toInt ∧ 1 + x3.toInt ≤ 2147483647 → x4.toInt = 1 + x3.toInt) → x4.toInt % 16 = (1 + x3.toInt) % 16 → (¬ x4.toInt = 0) ∧ (w_74_50 T P  a1 sa sk x4 sc sz Q)))
def w_74_0 (T : Nat → Nat → List Value → sW → (Option Value → sW → Prop) → Prop) (P : Nat)  (a1 : Int32) (sa : Int32) (sk : Int32) (sf : Int32) (sc : Int32) (sz : Int32) (Q : Option Value → sW → Prop) : Prop :=
  (¬ (sf.toInt = 0) → w_74_26 T P  a1 sa sk sf sc sz Q) ∧ (sf.toInt = 0 → (a1.toInt = 0 → w_74_26 T P  a1 sa sk sf sc sz Q) ∧ (¬ (a1.toInt = 0) → ∀ x1 : Int32, (¬ x1.toInt = 0 → 0 ≤ sa.toInt ∧ sa.toInt < 4002) → (¬ (x1.toInt = 1) → w_74_26 T P  a1 sa sk sf sc sz Q) ∧ (x1.toInt = 1 → ∀ x2 : Int32, (0 ≤ x2.toInt ∧ x2.toInt ≤ 5000) → ∀ x3 : Int32, (-2147483648 ≤ 16 * x2.toInt ∧ 16 * x2.toInt ≤ 2147483647 → x3.toInt = 16 * x2.toInt) → x3.toInt % 16 = (16 * x2.toInt) % 16 → ∀ x4 : Int32, (-2147483648 ≤ 5 + x3.toInt ∧ 5 + x3.toInt ≤ 2147483647 → x4.toInt = 5 + x3.toInt) → x4.toInt % 16 = (5 + x3.toInt) % 16 → (¬ x4.toInt = 0) ∧ (w_74_26 T P  a1 sa sk x4 sc sz Q))))
set_option maxRecDepth 20000 in
theorem k_74_60_3 {d d0 : Nat} (hd : d = d0 + 4) (hc : ∀ p ∈ s_w74, CTR (yex d) p.1 p.2)  {a1 : Int32} {sa : Int32} {sk : Int32} {sf : Int32} {sc : Int32} {sz : Int32} {Q : Option Value → sW → Prop}  (h : w_74_60 (fun k => Tt d wxL (wk_74 3 k) (wk_74 3 k)) 3  a1 sa sk sf sc sz Q) : Rn d wxL (((82, 3), 3, [(82, 0, 3), (82, 1, 4), (82, 2, 7)]) : wW) (((82, 3), 3, [(82, 0, 3), (82, 1, 4), (82, 2, 7)]) : wW) xL_5 2 (none) xE_74 (xE_74.drop 60) [.ref 82, .int a1, .null, .null] [] (sa, sk, sf, sc, sz) Q := by
  unfold w_74_60 at h
  exact n_ret0 rfl h
set_option maxRecDepth 20000 in
theorem k_74_50_3 {d d0 : Nat} (hd : d = d0 + 4) (hc : ∀ p ∈ s_w74, CTR (yex d) p.1 p.2)  {a1 : Int32} {sa : Int32} {sk : Int32} {sf : Int32} {sc : Int32} {sz : Int32} {Q : Option Value → sW → Prop}  (h : w_74_50 (fun k => Tt d wxL (wk_74 3 k) (wk_74 3 k)) 3  a1 sa sk sf sc sz Q) : Rn d wxL (((82, 3), 3, [(82, 0, 3), (82, 1, 4), (82, 2, 7)]) : wW) (((82, 3), 3, [(82, 0, 3), (82, 1, 4), (82, 2, 7)]) : wW) xL_5 2 (none) xE_74 (xE_74.drop 50) [.ref 82, .int a1, .null, .null] [] (sa, sk, sf, sc, sz) Q := by
  unfold w_74_50 at h
  refine n_ld rfl rfl rfl ?_
  refine n_get (v := .ref 3) rfl (hv_C (a := 82) (n := 0) rfl rfl rfl) ?_
  refine n_get (v := .int sf) rfl (hv_f (a := 3) rfl rfl (fun _ _ hw => hw.1.2.2.1)) ?_
  refine n_brN rfl rfl ⟨fun hcn => ?_, fun hcn => ?_⟩
  · replace h := h.1 (fun q => hcn ((i_eq (x := sf) (y := 0) rfl (show (0 : Int32).toInt = 0 by decide)).mpr q))
    exact k_74_60_3 hd hc  h
  · replace h := h.2 ((i_eq (x := sf) (y := 0) rfl (show (0 : Int32).toInt = 0 by decide)).mp hcn)
    refine n_ld rfl rfl rfl ?_
    refine n_c [.ref 82, .ref 82] xo_dup rfl rfl ?_
    refine n_get (v := .int sa) rfl (hv_f (a := 82) rfl rfl (fun _ _ hw => hw.1.1)) ?_
    refine n_c [.int 1, .int sa, .ref 82] (xo_push (.int 1)) rfl rfl ?_
    replace h := h _ (i_add (x := sa) (y := 1) rfl (show (1 : Int32).toInt = 1 by decide))
    replace h := h (i_addm (x := sa) (y := 1) rfl (show (1 : Int32).toInt = 1 by decide))
    refine n_c [.int (sa + 1), .ref 82] xo_iadd rfl rfl ?_
    refine n_put (a := 82) (w1 := (((82, 3), 3, [(82, 0, 3), (82, 1, 4), (82, 2, 7)]) : wW)) (s1 := ((sa + 1), sk, sf, sc, sz)) rfl rfl rfl rfl ⟨_, rfl, h.1.1, h.1.2⟩ rfl rfl rfl (Or.inr (Or.inl (by decide +kernel))) (ws_at (w := (((82, 3), 3, [(82, 0, 3), (82, 1, 4), (82, 2, 7)]) : wW)) (s := (sa, sk, sf, sc, sz)) rfl) ?_
    replace h := h.2
    exact k_74_60_3 hd hc  h
set_option maxRecDepth 20000 in
theorem k_74_26_3 {d d0 : Nat} (hd : d = d0 + 4) (hc : ∀ p ∈ s_w74, CTR (yex d) p.1 p.2)  {a1 : Int32} {sa : Int32} {sk : Int32} {sf : Int32} {sc : Int32} {sz : Int32} {Q : Option Value → sW → Prop}  (h : w_74_26 (fun k => Tt d wxL (wk_74 3 k) (wk_74 3 k)) 3  a1 sa sk sf sc sz Q) : Rn d wxL (((82, 3), 3, [(82, 0, 3), (82, 1, 4), (82, 2, 7)]) : wW) (((82, 3), 3, [(82, 0, 3), (82, 1, 4), (82, 2, 7)]) : wW) xL_5 2 (none) xE_74 (xE_74.drop 26) [.ref 82, .int a1, .null, .null] [] (sa, sk, sf, sc, sz) Q := by
  unfold w_74_26 at h
  refine n_ld rfl rfl rfl ?_
  refine n_get (v := .ref 3) rfl (hv_C (a := 82) (n := 0) rfl rfl rfl) ?_
  refine n_get (v := .int sf) rfl (hv_f (a := 3) rfl rfl (fun _ _ hw => hw.1.2.2.1)) ?_
  refine n_brN rfl rfl ⟨fun hcn => ?_, fun hcn => ?_⟩
  · replace h := h.1 (fun q => hcn ((i_eq (x := sf) (y := 0) rfl (show (0 : Int32).toInt = 0 by decide)).mpr q))
    exact k_74_50_3 hd hc  h
  · replace h := h.2 ((i_eq (x := sf) (y := 0) rfl (show (0 : Int32).toInt = 0 by decide)).mp hcn)
    refine n_ld rfl rfl rfl ?_
    refine n_get (v := .ref 7) rfl (hv_C (a := 82) (n := 2) rfl rfl rfl) ?_
    refine n_ld rfl rfl rfl ?_
    refine n_get (v := .int sa) rfl (hv_f (a := 82) rfl rfl (fun _ _ hw => hw.1.1)) ?_
    refine n_row sa [] (a := 7) hd rfl rfl rfl rfl (fun x1 g1 g2 g3 => ?_)
    replace h := h x1 g2
    refine n_c [.int 1, .int x1] (xo_push (.int 1)) rfl rfl ?_
    refine n_brP rfl rfl ⟨fun hcn => ?_, fun hcn => ?_⟩
    · replace h := h.1 ((i_eq (x := x1) (y := 1) rfl (show (1 : Int32).toInt = 1 by decide)).mp hcn)
      exact k_74_50_3 hd hc  h
    · replace h := h.2 (fun q => hcn ((i_eq (x := x1) (y := 1) rfl (show (1 : Int32).toInt = 1 by decide)).mpr q))
      refine n_ld rfl rfl rfl ?_
      refine n_get (v := .ref 3) rfl (hv_C (a := 82) (n := 0) rfl rfl rfl) ?_
      refine n_c [.int 1, .ref 3] (xo_push (.int 1)) rfl rfl ?_
      refine n_c [.int 16, .int 1, .ref 3] (xo_push (.int 16)) rfl rfl ?_
      refine n_ld rfl rfl rfl ?_
      refine n_get (v := .ref 4) rfl (hv_C (a := 82) (n := 1) rfl rfl rfl) ?_
      refine n_get (v := .ref 9) rfl (hv_R (a := 4) rfl rfl) ?_
      refine n_ld rfl rfl rfl ?_
      refine n_get (v := .int sa) rfl (hv_f (a := 82) rfl rfl (fun _ _ hw => hw.1.1)) ?_
      refine n_row sa [.int 16, .int 1, .ref 3] (a := 9) hd rfl rfl rfl rfl (fun x2 g1 g2 g3 => ?_)
      replace h := h x2 g1
      replace h := h _ (i_mul (x := 16) (y := x2) (show (16 : Int32).toInt = 16 by decide) rfl)
      replace h := h (i_mulm (x := 16) (y := x2) (show (16 : Int32).toInt = 16 by decide) rfl)
      refine n_c [.int (16 * x2), .int 1, .ref 3] xo_imul rfl rfl ?_
      replace h := h _ (i_add (x := 1) (y := (16 * x2)) (show (1 : Int32).toInt = 1 by decide) rfl)
      replace h := h (i_addm (x := 1) (y := (16 * x2)) (show (1 : Int32).toInt = 1 by decide) rfl)
      refine n_c [.int (1 + (16 * x2)), .ref 3] xo_iadd rfl rfl ?_
      refine n_put (a := 3) (w1 := (((82, 3), 3, [(82, 0, 3), (82, 1, 4), (82, 2, 7)]) : wW)) (s1 := (sa, sk, (1 + (16 * x2)), sc, sz)) rfl rfl rfl rfl (vK_int _) rfl rfl rfl (Or.inr (Or.inr (fun q => h.1 (z32.mpr (Value.int.inj q))))) (ws_fl (w := (((82, 3), 3, [(82, 0, 3), (82, 1, 4), (82, 2, 7)]) : wW)) (s := (sa, sk, sf, sc, sz)) rfl) ?_
      replace h := h.2
      exact k_74_50_3 hd hc  h
set_option maxRecDepth 20000 in
theorem k_74_0_3 {d d0 : Nat} (hd : d = d0 + 4) (hc : ∀ p ∈ s_w74, CTR (yex d) p.1 p.2)  {a1 : Int32} {sa : Int32} {sk : Int32} {sf : Int32} {sc : Int32} {sz : Int32} {Q : Option Value → sW → Prop}  (h : w_74_0 (fun k => Tt d wxL (wk_74 3 k) (wk_74 3 k)) 3  a1 sa sk sf sc sz Q) : Rn d wxL (((82, 3), 3, [(82, 0, 3), (82, 1, 4), (82, 2, 7)]) : wW) (((82, 3), 3, [(82, 0, 3), (82, 1, 4), (82, 2, 7)]) : wW) xL_5 2 (none) xE_74 (xE_74.drop 0) [.ref 82, .int a1, .null, .null] [] (sa, sk, sf, sc, sz) Q := by
  unfold w_74_0 at h
  refine n_ld rfl rfl rfl ?_
  refine n_get (v := .ref 3) rfl (hv_C (a := 82) (n := 0) rfl rfl rfl) ?_
  refine n_get (v := .int sf) rfl (hv_f (a := 3) rfl rfl (fun _ _ hw => hw.1.2.2.1)) ?_
  refine n_brN rfl rfl ⟨fun hcn => ?_, fun hcn => ?_⟩
  · replace h := h.1 (fun q => hcn ((i_eq (x := sf) (y := 0) rfl (show (0 : Int32).toInt = 0 by decide)).mpr q))
    exact k_74_26_3 hd hc  h
  · replace h := h.2 ((i_eq (x := sf) (y := 0) rfl (show (0 : Int32).toInt = 0 by decide)).mp hcn)
    refine n_ld rfl rfl rfl ?_
    refine n_brP rfl rfl ⟨fun hcn => ?_, fun hcn => ?_⟩
    · replace h := h.1 ((i_eq (x := a1) (y := 0) rfl (show (0 : Int32).toInt = 0 by decide)).mp hcn)
      exact k_74_26_3 hd hc  h
    · replace h := h.2 (fun q => hcn ((i_eq (x := a1) (y := 0) rfl (show (0 : Int32).toInt = 0 by decide)).mpr q))
      refine n_ld rfl rfl rfl ?_
      refine n_get (v := .ref 7) rfl (hv_C (a := 82) (n := 2) rfl rfl rfl) ?_
      refine n_ld rfl rfl rfl ?_
      refine n_get (v := .int sa) rfl (hv_f (a := 82) rfl rfl (fun _ _ hw => hw.1.1)) ?_
      refine n_row sa [] (a := 7) hd rfl rfl rfl rfl (fun x1 g1 g2 g3 => ?_)
      replace h := h x1 g2
      refine n_c [.int 1, .int x1] (xo_push (.int 1)) rfl rfl ?_
      refine n_brN rfl rfl ⟨fun hcn => ?_, fun hcn => ?_⟩
      · replace h := h.1 (fun q => hcn ((i_eq (x := x1) (y := 1) rfl (show (1 : Int32).toInt = 1 by decide)).mpr q))
        exact k_74_26_3 hd hc  h
      · replace h := h.2 ((i_eq (x := x1) (y := 1) rfl (show (1 : Int32).toInt = 1 by decide)).mp hcn)
        refine n_ld rfl rfl rfl ?_
        refine n_get (v := .ref 3) rfl (hv_C (a := 82) (n := 0) rfl rfl rfl) ?_
        refine n_c [.int 5, .ref 3] (xo_push (.int 5)) rfl rfl ?_
        refine n_c [.int 16, .int 5, .ref 3] (xo_push (.int 16)) rfl rfl ?_
        refine n_ld rfl rfl rfl ?_
        refine n_get (v := .ref 4) rfl (hv_C (a := 82) (n := 1) rfl rfl rfl) ?_
        refine n_get (v := .ref 9) rfl (hv_R (a := 4) rfl rfl) ?_
        refine n_ld rfl rfl rfl ?_
        refine n_get (v := .int sa) rfl (hv_f (a := 82) rfl rfl (fun _ _ hw => hw.1.1)) ?_
        refine n_row sa [.int 16, .int 5, .ref 3] (a := 9) hd rfl rfl rfl rfl (fun x2 g1 g2 g3 => ?_)
        replace h := h x2 g1
        replace h := h _ (i_mul (x := 16) (y := x2) (show (16 : Int32).toInt = 16 by decide) rfl)
        replace h := h (i_mulm (x := 16) (y := x2) (show (16 : Int32).toInt = 16 by decide) rfl)
        refine n_c [.int (16 * x2), .int 5, .ref 3] xo_imul rfl rfl ?_
        replace h := h _ (i_add (x := 5) (y := (16 * x2)) (show (5 : Int32).toInt = 5 by decide) rfl)
        replace h := h (i_addm (x := 5) (y := (16 * x2)) (show (5 : Int32).toInt = 5 by decide) rfl)
        refine n_c [.int (5 + (16 * x2)), .ref 3] xo_iadd rfl rfl ?_
        refine n_put (a := 3) (w1 := (((82, 3), 3, [(82, 0, 3), (82, 1, 4), (82, 2, 7)]) : wW)) (s1 := (sa, sk, (5 + (16 * x2)), sc, sz)) rfl rfl rfl rfl (vK_int _) rfl rfl rfl (Or.inr (Or.inr (fun q => h.1 (z32.mpr (Value.int.inj q))))) (ws_fl (w := (((82, 3), 3, [(82, 0, 3), (82, 1, 4), (82, 2, 7)]) : wW)) (s := (sa, sk, sf, sc, sz)) rfl) ?_
        replace h := h.2
        exact k_74_26_3 hd hc  h
theorem t_74_3 {d : Nat} (hc : ∀ p ∈ s_w74, CTR (yex (d + 4)) p.1 p.2) {a1 : Int32} {sa : Int32} {sk : Int32} {sf : Int32} {sc : Int32} {sz : Int32} {Q : Option Value → sW → Prop} (h : w_74_0 (fun k => Tt (d + 4) wxL (wk_74 3 k) (wk_74 3 k)) 3 a1 sa sk sf sc sz Q) : Tt (d + 5) wxL (((82, 3), 3, [(82, 0, 3), (82, 1, 4), (82, 2, 7)]) : wW) (((82, 3), 3, [(82, 0, 3), (82, 1, 4), (82, 2, 7)]) : wW) 74 [.ref 82, .int a1] (sa, sk, sf, sc, sz) Q := tt_of (E := xE_74) (L := xL_5) (ml := 2) (ret := none) rfl rfl rfl (k_74_0_3 rfl hc h)
set_option maxRecDepth 20000 in
theorem k_74_60_3k {d d0 : Nat} (hd : d = d0 + 4) (hc : ∀ p ∈ s_w74, CTR (yex d) p.1 p.2)  {a1 : Int32} {sa : Int32} {sk : Int32} {sf : Int32} {sc : Int32} {sz : Int32} {Q : Option Value → sW → Prop}  (h : w_74_60 (fun k => Tt d wxL (wk_74k 3 k) (wk_74k 3 k)) 3  a1 sa sk sf sc sz Q) : Rn d wxL (((82, 3), 3, [(82, 0, 3), (82, 1, 4), (82, 2, 43)]) : wW) (((82, 3), 3, [(82, 0, 3), (82, 1, 4), (82, 2, 43)]) : wW) xL_5 2 (none) xE_74 (xE_74.drop 60) [.ref 82, .int a1, .null, .null] [] (sa, sk, sf, sc, sz) Q := by
  unfold w_74_60 at h
  exact n_ret0 rfl h
set_option maxRecDepth 20000 in
theorem k_74_50_3k {d d0 : Nat} (hd : d = d0 + 4) (hc : ∀ p ∈ s_w74, CTR (yex d) p.1 p.2)  {a1 : Int32} {sa : Int32} {sk : Int32} {sf : Int32} {sc : Int32} {sz : Int32} {Q : Option Value → sW → Prop}  (h : w_74_50 (fun k => Tt d wxL (wk_74k 3 k) (wk_74k 3 k)) 3  a1 sa sk sf sc sz Q) : Rn d wxL (((82, 3), 3, [(82, 0, 3), (82, 1, 4), (82, 2, 43)]) : wW) (((82, 3), 3, [(82, 0, 3), (82, 1, 4), (82, 2, 43)]) : wW) xL_5 2 (none) xE_74 (xE_74.drop 50) [.ref 82, .int a1, .null, .null] [] (sa, sk, sf, sc, sz) Q := by
  unfold w_74_50 at h
  refine n_ld rfl rfl rfl ?_
  refine n_get (v := .ref 3) rfl (hv_C (a := 82) (n := 0) rfl rfl rfl) ?_
  refine n_get (v := .int sf) rfl (hv_f (a := 3) rfl rfl (fun _ _ hw => hw.1.2.2.1)) ?_
  refine n_brN rfl rfl ⟨fun hcn => ?_, fun hcn => ?_⟩
  · replace h := h.1 (fun q => hcn ((i_eq (x := sf) (y := 0) rfl (show (0 : Int32).toInt = 0 by decide)).mpr q))
    exact k_74_60_3k hd hc  h
  · replace h := h.2 ((i_eq (x := sf) (y := 0) rfl (show (0 : Int32).toInt = 0 by decide)).mp hcn)
    refine n_ld rfl rfl rfl ?_
    refine n_c [.ref 82, .ref 82] xo_dup rfl rfl ?_
    refine n_get (v := .int sa) rfl (hv_f (a := 82) rfl rfl (fun _ _ hw => hw.1.1)) ?_
    refine n_c [.int 1, .int sa, .ref 82] (xo_push (.int 1)) rfl rfl ?_
    replace h := h _ (i_add (x := sa) (y := 1) rfl (show (1 : Int32).toInt = 1 by decide))
    replace h := h (i_addm (x := sa) (y := 1) rfl (show (1 : Int32).toInt = 1 by decide))
    refine n_c [.int (sa + 1), .ref 82] xo_iadd rfl rfl ?_
    refine n_put (a := 82) (w1 := (((82, 3), 3, [(82, 0, 3), (82, 1, 4), (82, 2, 43)]) : wW)) (s1 := ((sa + 1), sk, sf, sc, sz)) rfl rfl rfl rfl ⟨_, rfl, h.1.1, h.1.2⟩ rfl rfl rfl (Or.inr (Or.inl (by decide +kernel))) (ws_at (w := (((82, 3), 3, [(82, 0, 3), (82, 1, 4), (82, 2, 43)]) : wW)) (s := (sa, sk, sf, sc, sz)) rfl) ?_
    replace h := h.2
    exact k_74_60_3k hd hc  h
set_option maxRecDepth 20000 in
theorem k_74_26_3k {d d0 : Nat} (hd : d = d0 + 4) (hc : ∀ p ∈ s_w74, CTR (yex d) p.1 p.2)  {a1 : Int32} {sa : Int32} {sk : Int32} {sf : Int32} {sc : Int32} {sz : Int32} {Q : Option Value → sW → Prop}  (h : w_74_26 (fun k => Tt d wxL (wk_74k 3 k) (wk_74k 3 k)) 3  a1 sa sk sf sc sz Q) : Rn d wxL (((82, 3), 3, [(82, 0, 3), (82, 1, 4), (82, 2, 43)]) : wW) (((82, 3), 3, [(82, 0, 3), (82, 1, 4), (82, 2, 43)]) : wW) xL_5 2 (none) xE_74 (xE_74.drop 26) [.ref 82, .int a1, .null, .null] [] (sa, sk, sf, sc, sz) Q := by
  unfold w_74_26 at h
  refine n_ld rfl rfl rfl ?_
  refine n_get (v := .ref 3) rfl (hv_C (a := 82) (n := 0) rfl rfl rfl) ?_
  refine n_get (v := .int sf) rfl (hv_f (a := 3) rfl rfl (fun _ _ hw => hw.1.2.2.1)) ?_
  refine n_brN rfl rfl ⟨fun hcn => ?_, fun hcn => ?_⟩
  · replace h := h.1 (fun q => hcn ((i_eq (x := sf) (y := 0) rfl (show (0 : Int32).toInt = 0 by decide)).mpr q))
    exact k_74_50_3k hd hc  h
  · replace h := h.2 ((i_eq (x := sf) (y := 0) rfl (show (0 : Int32).toInt = 0 by decide)).mp hcn)
    refine n_ld rfl rfl rfl ?_
    refine n_get (v := .ref 43) rfl (hv_C (a := 82) (n := 2) rfl rfl rfl) ?_
    refine n_ld rfl rfl rfl ?_
    refine n_get (v := .int sa) rfl (hv_f (a := 82) rfl rfl (fun _ _ hw => hw.1.1)) ?_
    refine n_row sa [] (a := 43) hd rfl rfl rfl rfl (fun x1 g1 g2 g3 => ?_)
    replace h := h x1 g2
    refine n_c [.int 1, .int x1] (xo_push (.int 1)) rfl rfl ?_
    refine n_brP rfl rfl ⟨fun hcn => ?_, fun hcn => ?_⟩
    · replace h := h.1 ((i_eq (x := x1) (y := 1) rfl (show (1 : Int32).toInt = 1 by decide)).mp hcn)
      exact k_74_50_3k hd hc  h
    · replace h := h.2 (fun q => hcn ((i_eq (x := x1) (y := 1) rfl (show (1 : Int32).toInt = 1 by decide)).mpr q))
      refine n_ld rfl rfl rfl ?_
      refine n_get (v := .ref 3) rfl (hv_C (a := 82) (n := 0) rfl rfl rfl) ?_
      refine n_c [.int 1, .ref 3] (xo_push (.int 1)) rfl rfl ?_
      refine n_c [.int 16, .int 1, .ref 3] (xo_push (.int 16)) rfl rfl ?_
      refine n_ld rfl rfl rfl ?_
      refine n_get (v := .ref 4) rfl (hv_C (a := 82) (n := 1) rfl rfl rfl) ?_
      refine n_get (v := .ref 9) rfl (hv_R (a := 4) rfl rfl) ?_
      refine n_ld rfl rfl rfl ?_
      refine n_get (v := .int sa) rfl (hv_f (a := 82) rfl rfl (fun _ _ hw => hw.1.1)) ?_
      refine n_row sa [.int 16, .int 1, .ref 3] (a := 9) hd rfl rfl rfl rfl (fun x2 g1 g2 g3 => ?_)
      replace h := h x2 g1
      replace h := h _ (i_mul (x := 16) (y := x2) (show (16 : Int32).toInt = 16 by decide) rfl)
      replace h := h (i_mulm (x := 16) (y := x2) (show (16 : Int32).toInt = 16 by decide) rfl)
      refine n_c [.int (16 * x2), .int 1, .ref 3] xo_imul rfl rfl ?_
      replace h := h _ (i_add (x := 1) (y := (16 * x2)) (show (1 : Int32).toInt = 1 by decide) rfl)
      replace h := h (i_addm (x := 1) (y := (16 * x2)) (show (1 : Int32).toInt = 1 by decide) rfl)
      refine n_c [.int (1 + (16 * x2)), .ref 3] xo_iadd rfl rfl ?_
      refine n_put (a := 3) (w1 := (((82, 3), 3, [(82, 0, 3), (82, 1, 4), (82, 2, 43)]) : wW)) (s1 := (sa, sk, (1 + (16 * x2)), sc, sz)) rfl rfl rfl rfl (vK_int _) rfl rfl rfl (Or.inr (Or.inr (fun q => h.1 (z32.mpr (Value.int.inj q))))) (ws_fl (w := (((82, 3), 3, [(82, 0, 3), (82, 1, 4), (82, 2, 43)]) : wW)) (s := (sa, sk, sf, sc, sz)) rfl) ?_
      replace h := h.2
      exact k_74_50_3k hd hc  h
set_option maxRecDepth 20000 in
theorem k_74_0_3k {d d0 : Nat} (hd : d = d0 + 4) (hc : ∀ p ∈ s_w74, CTR (yex d) p.1 p.2)  {a1 : Int32} {sa : Int32} {sk : Int32} {sf : Int32} {sc : Int32} {sz : Int32} {Q : Option Value → sW → Prop}  (h : w_74_0 (fun k => Tt d wxL (wk_74k 3 k) (wk_74k 3 k)) 3  a1 sa sk sf sc sz Q) : Rn d wxL (((82, 3), 3, [(82, 0, 3), (82, 1, 4), (82, 2, 43)]) : wW) (((82, 3), 3, [(82, 0, 3), (82, 1, 4), (82, 2, 43)]) : wW) xL_5 2 (none) xE_74 (xE_74.drop 0) [.ref 82, .int a1, .null, .null] [] (sa, sk, sf, sc, sz) Q := by
  unfold w_74_0 at h
  refine n_ld rfl rfl rfl ?_
  refine n_get (v := .ref 3) rfl (hv_C (a := 82) (n := 0) rfl rfl rfl) ?_
  refine n_get (v := .int sf) rfl (hv_f (a := 3) rfl rfl (fun _ _ hw => hw.1.2.2.1)) ?_
  refine n_brN rfl rfl ⟨fun hcn => ?_, fun hcn => ?_⟩
  · replace h := h.1 (fun q => hcn ((i_eq (x := sf) (y := 0) rfl (show (0 : Int32).toInt = 0 by decide)).mpr q))
    exact k_74_26_3k hd hc  h
  · replace h := h.2 ((i_eq (x := sf) (y := 0) rfl (show (0 : Int32).toInt = 0 by decide)).mp hcn)
    refine n_ld rfl rfl rfl ?_
    refine n_brP rfl rfl ⟨fun hcn => ?_, fun hcn => ?_⟩
    · replace h := h.1 ((i_eq (x := a1) (y := 0) rfl (show (0 : Int32).toInt = 0 by decide)).mp hcn)
      exact k_74_26_3k hd hc  h
    · replace h := h.2 (fun q => hcn ((i_eq (x := a1) (y := 0) rfl (show (0 : Int32).toInt = 0 by decide)).mpr q))
      refine n_ld rfl rfl rfl ?_
      refine n_get (v := .ref 43) rfl (hv_C (a := 82) (n := 2) rfl rfl rfl) ?_
      refine n_ld rfl rfl rfl ?_
      refine n_get (v := .int sa) rfl (hv_f (a := 82) rfl rfl (fun _ _ hw => hw.1.1)) ?_
      refine n_row sa [] (a := 43) hd rfl rfl rfl rfl (fun x1 g1 g2 g3 => ?_)
      replace h := h x1 g2
      refine n_c [.int 1, .int x1] (xo_push (.int 1)) rfl rfl ?_
      refine n_brN rfl rfl ⟨fun hcn => ?_, fun hcn => ?_⟩
      · replace h := h.1 (fun q => hcn ((i_eq (x := x1) (y := 1) rfl (show (1 : Int32).toInt = 1 by decide)).mpr q))
        exact k_74_26_3k hd hc  h
      · replace h := h.2 ((i_eq (x := x1) (y := 1) rfl (show (1 : Int32).toInt = 1 by decide)).mp hcn)
        refine n_ld rfl rfl rfl ?_
        refine n_get (v := .ref 3) rfl (hv_C (a := 82) (n := 0) rfl rfl rfl) ?_
        refine n_c [.int 5, .ref 3] (xo_push (.int 5)) rfl rfl ?_
        refine n_c [.int 16, .int 5, .ref 3] (xo_push (.int 16)) rfl rfl ?_
        refine n_ld rfl rfl rfl ?_
        refine n_get (v := .ref 4) rfl (hv_C (a := 82) (n := 1) rfl rfl rfl) ?_
        refine n_get (v := .ref 9) rfl (hv_R (a := 4) rfl rfl) ?_
        refine n_ld rfl rfl rfl ?_
        refine n_get (v := .int sa) rfl (hv_f (a := 82) rfl rfl (fun _ _ hw => hw.1.1)) ?_
        refine n_row sa [.int 16, .int 5, .ref 3] (a := 9) hd rfl rfl rfl rfl (fun x2 g1 g2 g3 => ?_)
        replace h := h x2 g1
        replace h := h _ (i_mul (x := 16) (y := x2) (show (16 : Int32).toInt = 16 by decide) rfl)
        replace h := h (i_mulm (x := 16) (y := x2) (show (16 : Int32).toInt = 16 by decide) rfl)
        refine n_c [.int (16 * x2), .int 5, .ref 3] xo_imul rfl rfl ?_
        replace h := h _ (i_add (x := 5) (y := (16 * x2)) (show (5 : Int32).toInt = 5 by decide) rfl)
        replace h := h (i_addm (x := 5) (y := (16 * x2)) (show (5 : Int32).toInt = 5 by decide) rfl)
        refine n_c [.int (5 + (16 * x2)), .ref 3] xo_iadd rfl rfl ?_
        refine n_put (a := 3) (w1 := (((82, 3), 3, [(82, 0, 3), (82, 1, 4), (82, 2, 43)]) : wW)) (s1 := (sa, sk, (5 + (16 * x2)), sc, sz)) rfl rfl rfl rfl (vK_int _) rfl rfl rfl (Or.inr (Or.inr (fun q => h.1 (z32.mpr (Value.int.inj q))))) (ws_fl (w := (((82, 3), 3, [(82, 0, 3), (82, 1, 4), (82, 2, 43)]) : wW)) (s := (sa, sk, sf, sc, sz)) rfl) ?_
        replace h := h.2
        exact k_74_26_3k hd hc  h
theorem t_74_3k {d : Nat} (hc : ∀ p ∈ s_w74, CTR (yex (d + 4)) p.1 p.2) {a1 : Int32} {sa : Int32} {sk : Int32} {sf : Int32} {sc : Int32} {sz : Int32} {Q : Option Value → sW → Prop} (h : w_74_0 (fun k => Tt (d + 4) wxL (wk_74k 3 k) (wk_74k 3 k)) 3 a1 sa sk sf sc sz Q) : Tt (d + 5) wxL (((82, 3), 3, [(82, 0, 3), (82, 1, 4), (82, 2, 43)]) : wW) (((82, 3), 3, [(82, 0, 3), (82, 1, 4), (82, 2, 43)]) : wW) 74 [.ref 82, .int a1] (sa, sk, sf, sc, sz) Q := tt_of (E := xE_74) (L := xL_5) (ml := 2) (ret := none) rfl rfl rfl (k_74_0_3k rfl hc h)
set_option maxRecDepth 20000 in
theorem k_74_60_3t {d d0 : Nat} (hd : d = d0 + 4) (hc : ∀ p ∈ s_w74, CTR (yex d) p.1 p.2)  {a1 : Int32} {sa : Int32} {sk : Int32} {sf : Int32} {sc : Int32} {sz : Int32} {Q : Option Value → sW → Prop}  (h : w_74_60 (fun k => Tt d wxL (wk_74t 3 k) (wk_74t 3 k)) 3  a1 sa sk sf sc sz Q) : Rn d wxL (((82, 3), 3, [(82, 0, 3), (82, 1, 40), (82, 2, 7)]) : wW) (((82, 3), 3, [(82, 0, 3), (82, 1, 40), (82, 2, 7)]) : wW) xL_5 2 (none) xE_74 (xE_74.drop 60) [.ref 82, .int a1, .null, .null] [] (sa, sk, sf, sc, sz) Q := by
  unfold w_74_60 at h
  exact n_ret0 rfl h
set_option maxRecDepth 20000 in
theorem k_74_50_3t {d d0 : Nat} (hd : d = d0 + 4) (hc : ∀ p ∈ s_w74, CTR (yex d) p.1 p.2)  {a1 : Int32} {sa : Int32} {sk : Int32} {sf : Int32} {sc : Int32} {sz : Int32} {Q : Option Value → sW → Prop}  (h : w_74_50 (fun k => Tt d wxL (wk_74t 3 k) (wk_74t 3 k)) 3  a1 sa sk sf sc sz Q) : Rn d wxL (((82, 3), 3, [(82, 0, 3), (82, 1, 40), (82, 2, 7)]) : wW) (((82, 3), 3, [(82, 0, 3), (82, 1, 40), (82, 2, 7)]) : wW) xL_5 2 (none) xE_74 (xE_74.drop 50) [.ref 82, .int a1, .null, .null] [] (sa, sk, sf, sc, sz) Q := by
  unfold w_74_50 at h
  refine n_ld rfl rfl rfl ?_
  refine n_get (v := .ref 3) rfl (hv_C (a := 82) (n := 0) rfl rfl rfl) ?_
  refine n_get (v := .int sf) rfl (hv_f (a := 3) rfl rfl (fun _ _ hw => hw.1.2.2.1)) ?_
  refine n_brN rfl rfl ⟨fun hcn => ?_, fun hcn => ?_⟩
  · replace h := h.1 (fun q => hcn ((i_eq (x := sf) (y := 0) rfl (show (0 : Int32).toInt = 0 by decide)).mpr q))
    exact k_74_60_3t hd hc  h
  · replace h := h.2 ((i_eq (x := sf) (y := 0) rfl (show (0 : Int32).toInt = 0 by decide)).mp hcn)
    refine n_ld rfl rfl rfl ?_
    refine n_c [.ref 82, .ref 82] xo_dup rfl rfl ?_
    refine n_get (v := .int sa) rfl (hv_f (a := 82) rfl rfl (fun _ _ hw => hw.1.1)) ?_
    refine n_c [.int 1, .int sa, .ref 82] (xo_push (.int 1)) rfl rfl ?_
    replace h := h _ (i_add (x := sa) (y := 1) rfl (show (1 : Int32).toInt = 1 by decide))
    replace h := h (i_addm (x := sa) (y := 1) rfl (show (1 : Int32).toInt = 1 by decide))
    refine n_c [.int (sa + 1), .ref 82] xo_iadd rfl rfl ?_
    refine n_put (a := 82) (w1 := (((82, 3), 3, [(82, 0, 3), (82, 1, 40), (82, 2, 7)]) : wW)) (s1 := ((sa + 1), sk, sf, sc, sz)) rfl rfl rfl rfl ⟨_, rfl, h.1.1, h.1.2⟩ rfl rfl rfl (Or.inr (Or.inl (by decide +kernel))) (ws_at (w := (((82, 3), 3, [(82, 0, 3), (82, 1, 40), (82, 2, 7)]) : wW)) (s := (sa, sk, sf, sc, sz)) rfl) ?_
    replace h := h.2
    exact k_74_60_3t hd hc  h
set_option maxRecDepth 20000 in
theorem k_74_26_3t {d d0 : Nat} (hd : d = d0 + 4) (hc : ∀ p ∈ s_w74, CTR (yex d) p.1 p.2)  {a1 : Int32} {sa : Int32} {sk : Int32} {sf : Int32} {sc : Int32} {sz : Int32} {Q : Option Value → sW → Prop}  (h : w_74_26 (fun k => Tt d wxL (wk_74t 3 k) (wk_74t 3 k)) 3  a1 sa sk sf sc sz Q) : Rn d wxL (((82, 3), 3, [(82, 0, 3), (82, 1, 40), (82, 2, 7)]) : wW) (((82, 3), 3, [(82, 0, 3), (82, 1, 40), (82, 2, 7)]) : wW) xL_5 2 (none) xE_74 (xE_74.drop 26) [.ref 82, .int a1, .null, .null] [] (sa, sk, sf, sc, sz) Q := by
  unfold w_74_26 at h
  refine n_ld rfl rfl rfl ?_
  refine n_get (v := .ref 3) rfl (hv_C (a := 82) (n := 0) rfl rfl rfl) ?_
  refine n_get (v := .int sf) rfl (hv_f (a := 3) rfl rfl (fun _ _ hw => hw.1.2.2.1)) ?_
  refine n_brN rfl rfl ⟨fun hcn => ?_, fun hcn => ?_⟩
  · replace h := h.1 (fun q => hcn ((i_eq (x := sf) (y := 0) rfl (show (0 : Int32).toInt = 0 by decide)).mpr q))
    exact k_74_50_3t hd hc  h
  · replace h := h.2 ((i_eq (x := sf) (y := 0) rfl (show (0 : Int32).toInt = 0 by decide)).mp hcn)
    refine n_ld rfl rfl rfl ?_
    refine n_get (v := .ref 7) rfl (hv_C (a := 82) (n := 2) rfl rfl rfl) ?_
    refine n_ld rfl rfl rfl ?_
    refine n_get (v := .int sa) rfl (hv_f (a := 82) rfl rfl (fun _ _ hw => hw.1.1)) ?_
    refine n_row sa [] (a := 7) hd rfl rfl rfl rfl (fun x1 g1 g2 g3 => ?_)
    replace h := h x1 g2
    refine n_c [.int 1, .int x1] (xo_push (.int 1)) rfl rfl ?_
    refine n_brP rfl rfl ⟨fun hcn => ?_, fun hcn => ?_⟩
    · replace h := h.1 ((i_eq (x := x1) (y := 1) rfl (show (1 : Int32).toInt = 1 by decide)).mp hcn)
      exact k_74_50_3t hd hc  h
    · replace h := h.2 (fun q => hcn ((i_eq (x := x1) (y := 1) rfl (show (1 : Int32).toInt = 1 by decide)).mpr q))
      refine n_ld rfl rfl rfl ?_
      refine n_get (v := .ref 3) rfl (hv_C (a := 82) (n := 0) rfl rfl rfl) ?_
      refine n_c [.int 1, .ref 3] (xo_push (.int 1)) rfl rfl ?_
      refine n_c [.int 16, .int 1, .ref 3] (xo_push (.int 16)) rfl rfl ?_
      refine n_ld rfl rfl rfl ?_
      refine n_get (v := .ref 40) rfl (hv_C (a := 82) (n := 1) rfl rfl rfl) ?_
      refine n_get (v := .ref 45) rfl (hv_R (a := 40) rfl rfl) ?_
      refine n_ld rfl rfl rfl ?_
      refine n_get (v := .int sa) rfl (hv_f (a := 82) rfl rfl (fun _ _ hw => hw.1.1)) ?_
      refine n_row sa [.int 16, .int 1, .ref 3] (a := 45) hd rfl rfl rfl rfl (fun x2 g1 g2 g3 => ?_)
      replace h := h x2 g1
      replace h := h _ (i_mul (x := 16) (y := x2) (show (16 : Int32).toInt = 16 by decide) rfl)
      replace h := h (i_mulm (x := 16) (y := x2) (show (16 : Int32).toInt = 16 by decide) rfl)
      refine n_c [.int (16 * x2), .int 1, .ref 3] xo_imul rfl rfl ?_
      replace h := h _ (i_add (x := 1) (y := (16 * x2)) (show (1 : Int32).toInt = 1 by decide) rfl)
      replace h := h (i_addm (x := 1) (y := (16 * x2)) (show (1 : Int32).toInt = 1 by decide) rfl)
      refine n_c [.int (1 + (16 * x2)), .ref 3] xo_iadd rfl rfl ?_
      refine n_put (a := 3) (w1 := (((82, 3), 3, [(82, 0, 3), (82, 1, 40), (82, 2, 7)]) : wW)) (s1 := (sa, sk, (1 + (16 * x2)), sc, sz)) rfl rfl rfl rfl (vK_int _) rfl rfl rfl (Or.inr (Or.inr (fun q => h.1 (z32.mpr (Value.int.inj q))))) (ws_fl (w := (((82, 3), 3, [(82, 0, 3), (82, 1, 40), (82, 2, 7)]) : wW)) (s := (sa, sk, sf, sc, sz)) rfl) ?_
      replace h := h.2
      exact k_74_50_3t hd hc  h
set_option maxRecDepth 20000 in
theorem k_74_0_3t {d d0 : Nat} (hd : d = d0 + 4) (hc : ∀ p ∈ s_w74, CTR (yex d) p.1 p.2)  {a1 : Int32} {sa : Int32} {sk : Int32} {sf : Int32} {sc : Int32} {sz : Int32} {Q : Option Value → sW → Prop}  (h : w_74_0 (fun k => Tt d wxL (wk_74t 3 k) (wk_74t 3 k)) 3  a1 sa sk sf sc sz Q) : Rn d wxL (((82, 3), 3, [(82, 0, 3), (82, 1, 40), (82, 2, 7)]) : wW) (((82, 3), 3, [(82, 0, 3), (82, 1, 40), (82, 2, 7)]) : wW) xL_5 2 (none) xE_74 (xE_74.drop 0) [.ref 82, .int a1, .null, .null] [] (sa, sk, sf, sc, sz) Q := by
  unfold w_74_0 at h
  refine n_ld rfl rfl rfl ?_
  refine n_get (v := .ref 3) rfl (hv_C (a := 82) (n := 0) rfl rfl rfl) ?_
  refine n_get (v := .int sf) rfl (hv_f (a := 3) rfl rfl (fun _ _ hw => hw.1.2.2.1)) ?_
  refine n_brN rfl rfl ⟨fun hcn => ?_, fun hcn => ?_⟩
  · replace h := h.1 (fun q => hcn ((i_eq (x := sf) (y := 0) rfl (show (0 : Int32).toInt = 0 by decide)).mpr q))
    exact k_74_26_3t hd hc  h
  · replace h := h.2 ((i_eq (x := sf) (y := 0) rfl (show (0 : Int32).toInt = 0 by decide)).mp hcn)
    refine n_ld rfl rfl rfl ?_
    refine n_brP rfl rfl ⟨fun hcn => ?_, fun hcn => ?_⟩
    · replace h := h.1 ((i_eq (x := a1) (y := 0) rfl (show (0 : Int32).toInt = 0 by decide)).mp hcn)
      exact k_74_26_3t hd hc  h
    · replace h := h.2 (fun q => hcn ((i_eq (x := a1) (y := 0) rfl (show (0 : Int32).toInt = 0 by decide)).mpr q))
      refine n_ld rfl rfl rfl ?_
      refine n_get (v := .ref 7) rfl (hv_C (a := 82) (n := 2) rfl rfl rfl) ?_
      refine n_ld rfl rfl rfl ?_
      refine n_get (v := .int sa) rfl (hv_f (a := 82) rfl rfl (fun _ _ hw => hw.1.1)) ?_
      refine n_row sa [] (a := 7) hd rfl rfl rfl rfl (fun x1 g1 g2 g3 => ?_)
      replace h := h x1 g2
      refine n_c [.int 1, .int x1] (xo_push (.int 1)) rfl rfl ?_
      refine n_brN rfl rfl ⟨fun hcn => ?_, fun hcn => ?_⟩
      · replace h := h.1 (fun q => hcn ((i_eq (x := x1) (y := 1) rfl (show (1 : Int32).toInt = 1 by decide)).mpr q))
        exact k_74_26_3t hd hc  h
      · replace h := h.2 ((i_eq (x := x1) (y := 1) rfl (show (1 : Int32).toInt = 1 by decide)).mp hcn)
        refine n_ld rfl rfl rfl ?_
        refine n_get (v := .ref 3) rfl (hv_C (a := 82) (n := 0) rfl rfl rfl) ?_
        refine n_c [.int 5, .ref 3] (xo_push (.int 5)) rfl rfl ?_
        refine n_c [.int 16, .int 5, .ref 3] (xo_push (.int 16)) rfl rfl ?_
        refine n_ld rfl rfl rfl ?_
        refine n_get (v := .ref 40) rfl (hv_C (a := 82) (n := 1) rfl rfl rfl) ?_
        refine n_get (v := .ref 45) rfl (hv_R (a := 40) rfl rfl) ?_
        refine n_ld rfl rfl rfl ?_
        refine n_get (v := .int sa) rfl (hv_f (a := 82) rfl rfl (fun _ _ hw => hw.1.1)) ?_
        refine n_row sa [.int 16, .int 5, .ref 3] (a := 45) hd rfl rfl rfl rfl (fun x2 g1 g2 g3 => ?_)
        replace h := h x2 g1
        replace h := h _ (i_mul (x := 16) (y := x2) (show (16 : Int32).toInt = 16 by decide) rfl)
        replace h := h (i_mulm (x := 16) (y := x2) (show (16 : Int32).toInt = 16 by decide) rfl)
        refine n_c [.int (16 * x2), .int 5, .ref 3] xo_imul rfl rfl ?_
        replace h := h _ (i_add (x := 5) (y := (16 * x2)) (show (5 : Int32).toInt = 5 by decide) rfl)
        replace h := h (i_addm (x := 5) (y := (16 * x2)) (show (5 : Int32).toInt = 5 by decide) rfl)
        refine n_c [.int (5 + (16 * x2)), .ref 3] xo_iadd rfl rfl ?_
        refine n_put (a := 3) (w1 := (((82, 3), 3, [(82, 0, 3), (82, 1, 40), (82, 2, 7)]) : wW)) (s1 := (sa, sk, (5 + (16 * x2)), sc, sz)) rfl rfl rfl rfl (vK_int _) rfl rfl rfl (Or.inr (Or.inr (fun q => h.1 (z32.mpr (Value.int.inj q))))) (ws_fl (w := (((82, 3), 3, [(82, 0, 3), (82, 1, 40), (82, 2, 7)]) : wW)) (s := (sa, sk, sf, sc, sz)) rfl) ?_
        replace h := h.2
        exact k_74_26_3t hd hc  h
theorem t_74_3t {d : Nat} (hc : ∀ p ∈ s_w74, CTR (yex (d + 4)) p.1 p.2) {a1 : Int32} {sa : Int32} {sk : Int32} {sf : Int32} {sc : Int32} {sz : Int32} {Q : Option Value → sW → Prop} (h : w_74_0 (fun k => Tt (d + 4) wxL (wk_74t 3 k) (wk_74t 3 k)) 3 a1 sa sk sf sc sz Q) : Tt (d + 5) wxL (((82, 3), 3, [(82, 0, 3), (82, 1, 40), (82, 2, 7)]) : wW) (((82, 3), 3, [(82, 0, 3), (82, 1, 40), (82, 2, 7)]) : wW) 74 [.ref 82, .int a1] (sa, sk, sf, sc, sz) Q := tt_of (E := xE_74) (L := xL_5) (ml := 2) (ret := none) rfl rfl rfl (k_74_0_3t rfl hc h)
set_option maxRecDepth 20000 in
theorem k_74_60_3tk {d d0 : Nat} (hd : d = d0 + 4) (hc : ∀ p ∈ s_w74, CTR (yex d) p.1 p.2)  {a1 : Int32} {sa : Int32} {sk : Int32} {sf : Int32} {sc : Int32} {sz : Int32} {Q : Option Value → sW → Prop}  (h : w_74_60 (fun k => Tt d wxL (wk_74tk 3 k) (wk_74tk 3 k)) 3  a1 sa sk sf sc sz Q) : Rn d wxL (((82, 3), 3, [(82, 0, 3), (82, 1, 40), (82, 2, 43)]) : wW) (((82, 3), 3, [(82, 0, 3), (82, 1, 40), (82, 2, 43)]) : wW) xL_5 2 (none) xE_74 (xE_74.drop 60) [.ref 82, .int a1, .null, .null] [] (sa, sk, sf, sc, sz) Q := by
  unfold w_74_60 at h
  exact n_ret0 rfl h
set_option maxRecDepth 20000 in
theorem k_74_50_3tk {d d0 : Nat} (hd : d = d0 + 4) (hc : ∀ p ∈ s_w74, CTR (yex d) p.1 p.2)  {a1 : Int32} {sa : Int32} {sk : Int32} {sf : Int32} {sc : Int32} {sz : Int32} {Q : Option Value → sW → Prop}  (h : w_74_50 (fun k => Tt d wxL (wk_74tk 3 k) (wk_74tk 3 k)) 3  a1 sa sk sf sc sz Q) : Rn d wxL (((82, 3), 3, [(82, 0, 3), (82, 1, 40), (82, 2, 43)]) : wW) (((82, 3), 3, [(82, 0, 3), (82, 1, 40), (82, 2, 43)]) : wW) xL_5 2 (none) xE_74 (xE_74.drop 50) [.ref 82, .int a1, .null, .null] [] (sa, sk, sf, sc, sz) Q := by
  unfold w_74_50 at h
  refine n_ld rfl rfl rfl ?_
  refine n_get (v := .ref 3) rfl (hv_C (a := 82) (n := 0) rfl rfl rfl) ?_
  refine n_get (v := .int sf) rfl (hv_f (a := 3) rfl rfl (fun _ _ hw => hw.1.2.2.1)) ?_
  refine n_brN rfl rfl ⟨fun hcn => ?_, fun hcn => ?_⟩
  · replace h := h.1 (fun q => hcn ((i_eq (x := sf) (y := 0) rfl (show (0 : Int32).toInt = 0 by decide)).mpr q))
    exact k_74_60_3tk hd hc  h
  · replace h := h.2 ((i_eq (x := sf) (y := 0) rfl (show (0 : Int32).toInt = 0 by decide)).mp hcn)
    refine n_ld rfl rfl rfl ?_
    refine n_c [.ref 82, .ref 82] xo_dup rfl rfl ?_
    refine n_get (v := .int sa) rfl (hv_f (a := 82) rfl rfl (fun _ _ hw => hw.1.1)) ?_
    refine n_c [.int 1, .int sa, .ref 82] (xo_push (.int 1)) rfl rfl ?_
    replace h := h _ (i_add (x := sa) (y := 1) rfl (show (1 : Int32).toInt = 1 by decide))
    replace h := h (i_addm (x := sa) (y := 1) rfl (show (1 : Int32).toInt = 1 by decide))
    refine n_c [.int (sa + 1), .ref 82] xo_iadd rfl rfl ?_
    refine n_put (a := 82) (w1 := (((82, 3), 3, [(82, 0, 3), (82, 1, 40), (82, 2, 43)]) : wW)) (s1 := ((sa + 1), sk, sf, sc, sz)) rfl rfl rfl rfl ⟨_, rfl, h.1.1, h.1.2⟩ rfl rfl rfl (Or.inr (Or.inl (by decide +kernel))) (ws_at (w := (((82, 3), 3, [(82, 0, 3), (82, 1, 40), (82, 2, 43)]) : wW)) (s := (sa, sk, sf, sc, sz)) rfl) ?_
    replace h := h.2
    exact k_74_60_3tk hd hc  h
set_option maxRecDepth 20000 in
theorem k_74_26_3tk {d d0 : Nat} (hd : d = d0 + 4) (hc : ∀ p ∈ s_w74, CTR (yex d) p.1 p.2)  {a1 : Int32} {sa : Int32} {sk : Int32} {sf : Int32} {sc : Int32} {sz : Int32} {Q : Option Value → sW → Prop}  (h : w_74_26 (fun k => Tt d wxL (wk_74tk 3 k) (wk_74tk 3 k)) 3  a1 sa sk sf sc sz Q) : Rn d wxL (((82, 3), 3, [(82, 0, 3), (82, 1, 40), (82, 2, 43)]) : wW) (((82, 3), 3, [(82, 0, 3), (82, 1, 40), (82, 2, 43)]) : wW) xL_5 2 (none) xE_74 (xE_74.drop 26) [.ref 82, .int a1, .null, .null] [] (sa, sk, sf, sc, sz) Q := by
  unfold w_74_26 at h
  refine n_ld rfl rfl rfl ?_
  refine n_get (v := .ref 3) rfl (hv_C (a := 82) (n := 0) rfl rfl rfl) ?_
  refine n_get (v := .int sf) rfl (hv_f (a := 3) rfl rfl (fun _ _ hw => hw.1.2.2.1)) ?_
  refine n_brN rfl rfl ⟨fun hcn => ?_, fun hcn => ?_⟩
  · replace h := h.1 (fun q => hcn ((i_eq (x := sf) (y := 0) rfl (show (0 : Int32).toInt = 0 by decide)).mpr q))
    exact k_74_50_3tk hd hc  h
  · replace h := h.2 ((i_eq (x := sf) (y := 0) rfl (show (0 : Int32).toInt = 0 by decide)).mp hcn)
    refine n_ld rfl rfl rfl ?_
    refine n_get (v := .ref 43) rfl (hv_C (a := 82) (n := 2) rfl rfl rfl) ?_
    refine n_ld rfl rfl rfl ?_
    refine n_get (v := .int sa) rfl (hv_f (a := 82) rfl rfl (fun _ _ hw => hw.1.1)) ?_
    refine n_row sa [] (a := 43) hd rfl rfl rfl rfl (fun x1 g1 g2 g3 => ?_)
    replace h := h x1 g2
    refine n_c [.int 1, .int x1] (xo_push (.int 1)) rfl rfl ?_
    refine n_brP rfl rfl ⟨fun hcn => ?_, fun hcn => ?_⟩
    · replace h := h.1 ((i_eq (x := x1) (y := 1) rfl (show (1 : Int32).toInt = 1 by decide)).mp hcn)
      exact k_74_50_3tk hd hc  h
    · replace h := h.2 (fun q => hcn ((i_eq (x := x1) (y := 1) rfl (show (1 : Int32).toInt = 1 by decide)).mpr q))
      refine n_ld rfl rfl rfl ?_
      refine n_get (v := .ref 3) rfl (hv_C (a := 82) (n := 0) rfl rfl rfl) ?_
      refine n_c [.int 1, .ref 3] (xo_push (.int 1)) rfl rfl ?_
      refine n_c [.int 16, .int 1, .ref 3] (xo_push (.int 16)) rfl rfl ?_
      refine n_ld rfl rfl rfl ?_
      refine n_get (v := .ref 40) rfl (hv_C (a := 82) (n := 1) rfl rfl rfl) ?_
      refine n_get (v := .ref 45) rfl (hv_R (a := 40) rfl rfl) ?_
      refine n_ld rfl rfl rfl ?_
      refine n_get (v := .int sa) rfl (hv_f (a := 82) rfl rfl (fun _ _ hw => hw.1.1)) ?_
      refine n_row sa [.int 16, .int 1, .ref 3] (a := 45) hd rfl rfl rfl rfl (fun x2 g1 g2 g3 => ?_)
      replace h := h x2 g1
      replace h := h _ (i_mul (x := 16) (y := x2) (show (16 : Int32).toInt = 16 by decide) rfl)
      replace h := h (i_mulm (x := 16) (y := x2) (show (16 : Int32).toInt = 16 by decide) rfl)
      refine n_c [.int (16 * x2), .int 1, .ref 3] xo_imul rfl rfl ?_
      replace h := h _ (i_add (x := 1) (y := (16 * x2)) (show (1 : Int32).toInt = 1 by decide) rfl)
      replace h := h (i_addm (x := 1) (y := (16 * x2)) (show (1 : Int32).toInt = 1 by decide) rfl)
      refine n_c [.int (1 + (16 * x2)), .ref 3] xo_iadd rfl rfl ?_
      refine n_put (a := 3) (w1 := (((82, 3), 3, [(82, 0, 3), (82, 1, 40), (82, 2, 43)]) : wW)) (s1 := (sa, sk, (1 + (16 * x2)), sc, sz)) rfl rfl rfl rfl (vK_int _) rfl rfl rfl (Or.inr (Or.inr (fun q => h.1 (z32.mpr (Value.int.inj q))))) (ws_fl (w := (((82, 3), 3, [(82, 0, 3), (82, 1, 40), (82, 2, 43)]) : wW)) (s := (sa, sk, sf, sc, sz)) rfl) ?_
      replace h := h.2
      exact k_74_50_3tk hd hc  h
set_option maxRecDepth 20000 in
theorem k_74_0_3tk {d d0 : Nat} (hd : d = d0 + 4) (hc : ∀ p ∈ s_w74, CTR (yex d) p.1 p.2)  {a1 : Int32} {sa : Int32} {sk : Int32} {sf : Int32} {sc : Int32} {sz : Int32} {Q : Option Value → sW → Prop}  (h : w_74_0 (fun k => Tt d wxL (wk_74tk 3 k) (wk_74tk 3 k)) 3  a1 sa sk sf sc sz Q) : Rn d wxL (((82, 3), 3, [(82, 0, 3), (82, 1, 40), (82, 2, 43)]) : wW) (((82, 3), 3, [(82, 0, 3), (82, 1, 40), (82, 2, 43)]) : wW) xL_5 2 (none) xE_74 (xE_74.drop 0) [.ref 82, .int a1, .null, .null] [] (sa, sk, sf, sc, sz) Q := by
  unfold w_74_0 at h
  refine n_ld rfl rfl rfl ?_
  refine n_get (v := .ref 3) rfl (hv_C (a := 82) (n := 0) rfl rfl rfl) ?_
  refine n_get (v := .int sf) rfl (hv_f (a := 3) rfl rfl (fun _ _ hw => hw.1.2.2.1)) ?_
  refine n_brN rfl rfl ⟨fun hcn => ?_, fun hcn => ?_⟩
  · replace h := h.1 (fun q => hcn ((i_eq (x := sf) (y := 0) rfl (show (0 : Int32).toInt = 0 by decide)).mpr q))
    exact k_74_26_3tk hd hc  h
  · replace h := h.2 ((i_eq (x := sf) (y := 0) rfl (show (0 : Int32).toInt = 0 by decide)).mp hcn)
    refine n_ld rfl rfl rfl ?_
    refine n_brP rfl rfl ⟨fun hcn => ?_, fun hcn => ?_⟩
    · replace h := h.1 ((i_eq (x := a1) (y := 0) rfl (show (0 : Int32).toInt = 0 by decide)).mp hcn)
      exact k_74_26_3tk hd hc  h
    · replace h := h.2 (fun q => hcn ((i_eq (x := a1) (y := 0) rfl (show (0 : Int32).toInt = 0 by decide)).mpr q))
      refine n_ld rfl rfl rfl ?_
      refine n_get (v := .ref 43) rfl (hv_C (a := 82) (n := 2) rfl rfl rfl) ?_
      refine n_ld rfl rfl rfl ?_
      refine n_get (v := .int sa) rfl (hv_f (a := 82) rfl rfl (fun _ _ hw => hw.1.1)) ?_
      refine n_row sa [] (a := 43) hd rfl rfl rfl rfl (fun x1 g1 g2 g3 => ?_)
      replace h := h x1 g2
      refine n_c [.int 1, .int x1] (xo_push (.int 1)) rfl rfl ?_
      refine n_brN rfl rfl ⟨fun hcn => ?_, fun hcn => ?_⟩
      · replace h := h.1 (fun q => hcn ((i_eq (x := x1) (y := 1) rfl (show (1 : Int32).toInt = 1 by decide)).mpr q))
        exact k_74_26_3tk hd hc  h
      · replace h := h.2 ((i_eq (x := x1) (y := 1) rfl (show (1 : Int32).toInt = 1 by decide)).mp hcn)
        refine n_ld rfl rfl rfl ?_
        refine n_get (v := .ref 3) rfl (hv_C (a := 82) (n := 0) rfl rfl rfl) ?_
        refine n_c [.int 5, .ref 3] (xo_push (.int 5)) rfl rfl ?_
        refine n_c [.int 16, .int 5, .ref 3] (xo_push (.int 16)) rfl rfl ?_
        refine n_ld rfl rfl rfl ?_
        refine n_get (v := .ref 40) rfl (hv_C (a := 82) (n := 1) rfl rfl rfl) ?_
        refine n_get (v := .ref 45) rfl (hv_R (a := 40) rfl rfl) ?_
        refine n_ld rfl rfl rfl ?_
        refine n_get (v := .int sa) rfl (hv_f (a := 82) rfl rfl (fun _ _ hw => hw.1.1)) ?_
        refine n_row sa [.int 16, .int 5, .ref 3] (a := 45) hd rfl rfl rfl rfl (fun x2 g1 g2 g3 => ?_)
        replace h := h x2 g1
        replace h := h _ (i_mul (x := 16) (y := x2) (show (16 : Int32).toInt = 16 by decide) rfl)
        replace h := h (i_mulm (x := 16) (y := x2) (show (16 : Int32).toInt = 16 by decide) rfl)
        refine n_c [.int (16 * x2), .int 5, .ref 3] xo_imul rfl rfl ?_
        replace h := h _ (i_add (x := 5) (y := (16 * x2)) (show (5 : Int32).toInt = 5 by decide) rfl)
        replace h := h (i_addm (x := 5) (y := (16 * x2)) (show (5 : Int32).toInt = 5 by decide) rfl)
        refine n_c [.int (5 + (16 * x2)), .ref 3] xo_iadd rfl rfl ?_
        refine n_put (a := 3) (w1 := (((82, 3), 3, [(82, 0, 3), (82, 1, 40), (82, 2, 43)]) : wW)) (s1 := (sa, sk, (5 + (16 * x2)), sc, sz)) rfl rfl rfl rfl (vK_int _) rfl rfl rfl (Or.inr (Or.inr (fun q => h.1 (z32.mpr (Value.int.inj q))))) (ws_fl (w := (((82, 3), 3, [(82, 0, 3), (82, 1, 40), (82, 2, 43)]) : wW)) (s := (sa, sk, sf, sc, sz)) rfl) ?_
        replace h := h.2
        exact k_74_26_3tk hd hc  h
theorem t_74_3tk {d : Nat} (hc : ∀ p ∈ s_w74, CTR (yex (d + 4)) p.1 p.2) {a1 : Int32} {sa : Int32} {sk : Int32} {sf : Int32} {sc : Int32} {sz : Int32} {Q : Option Value → sW → Prop} (h : w_74_0 (fun k => Tt (d + 4) wxL (wk_74tk 3 k) (wk_74tk 3 k)) 3 a1 sa sk sf sc sz Q) : Tt (d + 5) wxL (((82, 3), 3, [(82, 0, 3), (82, 1, 40), (82, 2, 43)]) : wW) (((82, 3), 3, [(82, 0, 3), (82, 1, 40), (82, 2, 43)]) : wW) 74 [.ref 82, .int a1] (sa, sk, sf, sc, sz) Q := tt_of (E := xE_74) (L := xL_5) (ml := 2) (ret := none) rfl rfl rfl (k_74_0_3tk rfl hc h)
set_option maxRecDepth 20000 in
theorem k_74_60_39TK {d d0 : Nat} (hd : d = d0 + 4) (hc : ∀ p ∈ s_w74, CTR (yex d) p.1 p.2)  {a1 : Int32} {sa : Int32} {sk : Int32} {sf : Int32} {sc : Int32} {sz : Int32} {Q : Option Value → sW → Prop}  (h : w_74_60 (fun k => Tt d wxL (wk_74TK 39 k) (wk_74TK 39 k)) 39  a1 sa sk sf sc sz Q) : Rn d wxL (((82, 3), 39, [(82, 0, 39), (82, 1, 4), (82, 2, 7)]) : wW) (((82, 3), 39, [(82, 0, 39), (82, 1, 4), (82, 2, 7)]) : wW) xL_5 2 (none) xE_74 (xE_74.drop 60) [.ref 82, .int a1, .null, .null] [] (sa, sk, sf, sc, sz) Q := by
  unfold w_74_60 at h
  exact n_ret0 rfl h
set_option maxRecDepth 20000 in
theorem k_74_50_39TK {d d0 : Nat} (hd : d = d0 + 4) (hc : ∀ p ∈ s_w74, CTR (yex d) p.1 p.2)  {a1 : Int32} {sa : Int32} {sk : Int32} {sf : Int32} {sc : Int32} {sz : Int32} {Q : Option Value → sW → Prop}  (h : w_74_50 (fun k => Tt d wxL (wk_74TK 39 k) (wk_74TK 39 k)) 39  a1 sa sk sf sc sz Q) : Rn d wxL (((82, 3), 39, [(82, 0, 39), (82, 1, 4), (82, 2, 7)]) : wW) (((82, 3), 39, [(82, 0, 39), (82, 1, 4), (82, 2, 7)]) : wW) xL_5 2 (none) xE_74 (xE_74.drop 50) [.ref 82, .int a1, .null, .null] [] (sa, sk, sf, sc, sz) Q := by
  unfold w_74_50 at h
  refine n_ld rfl rfl rfl ?_
  refine n_get (v := .ref 39) rfl (hv_C (a := 82) (n := 0) rfl rfl rfl) ?_
  refine n_get (v := .int sf) rfl (hv_f (a := 39) rfl rfl (fun _ _ hw => hw.1.2.2.1)) ?_
  refine n_brN rfl rfl ⟨fun hcn => ?_, fun hcn => ?_⟩
  · replace h := h.1 (fun q => hcn ((i_eq (x := sf) (y := 0) rfl (show (0 : Int32).toInt = 0 by decide)).mpr q))
    exact k_74_60_39TK hd hc  h
  · replace h := h.2 ((i_eq (x := sf) (y := 0) rfl (show (0 : Int32).toInt = 0 by decide)).mp hcn)
    refine n_ld rfl rfl rfl ?_
    refine n_c [.ref 82, .ref 82] xo_dup rfl rfl ?_
    refine n_get (v := .int sa) rfl (hv_f (a := 82) rfl rfl (fun _ _ hw => hw.1.1)) ?_
    refine n_c [.int 1, .int sa, .ref 82] (xo_push (.int 1)) rfl rfl ?_
    replace h := h _ (i_add (x := sa) (y := 1) rfl (show (1 : Int32).toInt = 1 by decide))
    replace h := h (i_addm (x := sa) (y := 1) rfl (show (1 : Int32).toInt = 1 by decide))
    refine n_c [.int (sa + 1), .ref 82] xo_iadd rfl rfl ?_
    refine n_put (a := 82) (w1 := (((82, 3), 39, [(82, 0, 39), (82, 1, 4), (82, 2, 7)]) : wW)) (s1 := ((sa + 1), sk, sf, sc, sz)) rfl rfl rfl rfl ⟨_, rfl, h.1.1, h.1.2⟩ rfl rfl rfl (Or.inr (Or.inl (by decide +kernel))) (ws_at (w := (((82, 3), 39, [(82, 0, 39), (82, 1, 4), (82, 2, 7)]) : wW)) (s := (sa, sk, sf, sc, sz)) rfl) ?_
    replace h := h.2
    exact k_74_60_39TK hd hc  h
set_option maxRecDepth 20000 in
theorem k_74_26_39TK {d d0 : Nat} (hd : d = d0 + 4) (hc : ∀ p ∈ s_w74, CTR (yex d) p.1 p.2)  {a1 : Int32} {sa : Int32} {sk : Int32} {sf : Int32} {sc : Int32} {sz : Int32} {Q : Option Value → sW → Prop}  (h : w_74_26 (fun k => Tt d wxL (wk_74TK 39 k) (wk_74TK 39 k)) 39  a1 sa sk sf sc sz Q) : Rn d wxL (((82, 3), 39, [(82, 0, 39), (82, 1, 4), (82, 2, 7)]) : wW) (((82, 3), 39, [(82, 0, 39), (82, 1, 4), (82, 2, 7)]) : wW) xL_5 2 (none) xE_74 (xE_74.drop 26) [.ref 82, .int a1, .null, .null] [] (sa, sk, sf, sc, sz) Q := by
  unfold w_74_26 at h
  refine n_ld rfl rfl rfl ?_
  refine n_get (v := .ref 39) rfl (hv_C (a := 82) (n := 0) rfl rfl rfl) ?_
  refine n_get (v := .int sf) rfl (hv_f (a := 39) rfl rfl (fun _ _ hw => hw.1.2.2.1)) ?_
  refine n_brN rfl rfl ⟨fun hcn => ?_, fun hcn => ?_⟩
  · replace h := h.1 (fun q => hcn ((i_eq (x := sf) (y := 0) rfl (show (0 : Int32).toInt = 0 by decide)).mpr q))
    exact k_74_50_39TK hd hc  h
  · replace h := h.2 ((i_eq (x := sf) (y := 0) rfl (show (0 : Int32).toInt = 0 by decide)).mp hcn)
    refine n_ld rfl rfl rfl ?_
    refine n_get (v := .ref 7) rfl (hv_C (a := 82) (n := 2) rfl rfl rfl) ?_
    refine n_ld rfl rfl rfl ?_
    refine n_get (v := .int sa) rfl (hv_f (a := 82) rfl rfl (fun _ _ hw => hw.1.1)) ?_
    refine n_row sa [] (a := 7) hd rfl rfl rfl rfl (fun x1 g1 g2 g3 => ?_)
    replace h := h x1 g2
    refine n_c [.int 1, .int x1] (xo_push (.int 1)) rfl rfl ?_
    refine n_brP rfl rfl ⟨fun hcn => ?_, fun hcn => ?_⟩
    · replace h := h.1 ((i_eq (x := x1) (y := 1) rfl (show (1 : Int32).toInt = 1 by decide)).mp hcn)
      exact k_74_50_39TK hd hc  h
    · replace h := h.2 (fun q => hcn ((i_eq (x := x1) (y := 1) rfl (show (1 : Int32).toInt = 1 by decide)).mpr q))
      refine n_ld rfl rfl rfl ?_
      refine n_get (v := .ref 39) rfl (hv_C (a := 82) (n := 0) rfl rfl rfl) ?_
      refine n_c [.int 1, .ref 39] (xo_push (.int 1)) rfl rfl ?_
      refine n_c [.int 16, .int 1, .ref 39] (xo_push (.int 16)) rfl rfl ?_
      refine n_ld rfl rfl rfl ?_
      refine n_get (v := .ref 4) rfl (hv_C (a := 82) (n := 1) rfl rfl rfl) ?_
      refine n_get (v := .ref 9) rfl (hv_R (a := 4) rfl rfl) ?_
      refine n_ld rfl rfl rfl ?_
      refine n_get (v := .int sa) rfl (hv_f (a := 82) rfl rfl (fun _ _ hw => hw.1.1)) ?_
      refine n_row sa [.int 16, .int 1, .ref 39] (a := 9) hd rfl rfl rfl rfl (fun x2 g1 g2 g3 => ?_)
      replace h := h x2 g1
      replace h := h _ (i_mul (x := 16) (y := x2) (show (16 : Int32).toInt = 16 by decide) rfl)
      replace h := h (i_mulm (x := 16) (y := x2) (show (16 : Int32).toInt = 16 by decide) rfl)
      refine n_c [.int (16 * x2), .int 1, .ref 39] xo_imul rfl rfl ?_
      replace h := h _ (i_add (x := 1) (y := (16 * x2)) (show (1 : Int32).toInt = 1 by decide) rfl)
      replace h := h (i_addm (x := 1) (y := (16 * x2)) (show (1 : Int32).toInt = 1 by decide) rfl)
      refine n_c [.int (1 + (16 * x2)), .ref 39] xo_iadd rfl rfl ?_
      refine n_put (a := 39) (w1 := (((82, 3), 39, [(82, 0, 39), (82, 1, 4), (82, 2, 7)]) : wW)) (s1 := (sa, sk, (1 + (16 * x2)), sc, sz)) rfl rfl rfl rfl (vK_int _) rfl rfl rfl (Or.inr (Or.inr (fun q => h.1 (z32.mpr (Value.int.inj q))))) (ws_fl (w := (((82, 3), 39, [(82, 0, 39), (82, 1, 4), (82, 2, 7)]) : wW)) (s := (sa, sk, sf, sc, sz)) rfl) ?_
      replace h := h.2
      exact k_74_50_39TK hd hc  h
set_option maxRecDepth 20000 in
theorem k_74_0_39TK {d d0 : Nat} (hd : d = d0 + 4) (hc : ∀ p ∈ s_w74, CTR (yex d) p.1 p.2)  {a1 : Int32} {sa : Int32} {sk : Int32} {sf : Int32} {sc : Int32} {sz : Int32} {Q : Option Value → sW → Prop}  (h : w_74_0 (fun k => Tt d wxL (wk_74TK 39 k) (wk_74TK 39 k)) 39  a1 sa sk sf sc sz Q) : Rn d wxL (((82, 3), 39, [(82, 0, 39), (82, 1, 4), (82, 2, 7)]) : wW) (((82, 3), 39, [(82, 0, 39), (82, 1, 4), (82, 2, 7)]) : wW) xL_5 2 (none) xE_74 (xE_74.drop 0) [.ref 82, .int a1, .null, .null] [] (sa, sk, sf, sc, sz) Q := by
  unfold w_74_0 at h
  refine n_ld rfl rfl rfl ?_
  refine n_get (v := .ref 39) rfl (hv_C (a := 82) (n := 0) rfl rfl rfl) ?_
  refine n_get (v := .int sf) rfl (hv_f (a := 39) rfl rfl (fun _ _ hw => hw.1.2.2.1)) ?_
  refine n_brN rfl rfl ⟨fun hcn => ?_, fun hcn => ?_⟩
  · replace h := h.1 (fun q => hcn ((i_eq (x := sf) (y := 0) rfl (show (0 : Int32).toInt = 0 by decide)).mpr q))
    exact k_74_26_39TK hd hc  h
  · replace h := h.2 ((i_eq (x := sf) (y := 0) rfl (show (0 : Int32).toInt = 0 by decide)).mp hcn)
    refine n_ld rfl rfl rfl ?_
    refine n_brP rfl rfl ⟨fun hcn => ?_, fun hcn => ?_⟩
    · replace h := h.1 ((i_eq (x := a1) (y := 0) rfl (show (0 : Int32).toInt = 0 by decide)).mp hcn)
      exact k_74_26_39TK hd hc  h
    · replace h := h.2 (fun q => hcn ((i_eq (x := a1) (y := 0) rfl (show (0 : Int32).toInt = 0 by decide)).mpr q))
      refine n_ld rfl rfl rfl ?_
      refine n_get (v := .ref 7) rfl (hv_C (a := 82) (n := 2) rfl rfl rfl) ?_
      refine n_ld rfl rfl rfl ?_
      refine n_get (v := .int sa) rfl (hv_f (a := 82) rfl rfl (fun _ _ hw => hw.1.1)) ?_
      refine n_row sa [] (a := 7) hd rfl rfl rfl rfl (fun x1 g1 g2 g3 => ?_)
      replace h := h x1 g2
      refine n_c [.int 1, .int x1] (xo_push (.int 1)) rfl rfl ?_
      refine n_brN rfl rfl ⟨fun hcn => ?_, fun hcn => ?_⟩
      · replace h := h.1 (fun q => hcn ((i_eq (x := x1) (y := 1) rfl (show (1 : Int32).toInt = 1 by decide)).mpr q))
        exact k_74_26_39TK hd hc  h
      · replace h := h.2 ((i_eq (x := x1) (y := 1) rfl (show (1 : Int32).toInt = 1 by decide)).mp hcn)
        refine n_ld rfl rfl rfl ?_
        refine n_get (v := .ref 39) rfl (hv_C (a := 82) (n := 0) rfl rfl rfl) ?_
        refine n_c [.int 5, .ref 39] (xo_push (.int 5)) rfl rfl ?_
        refine n_c [.int 16, .int 5, .ref 39] (xo_push (.int 16)) rfl rfl ?_
        refine n_ld rfl rfl rfl ?_
        refine n_get (v := .ref 4) rfl (hv_C (a := 82) (n := 1) rfl rfl rfl) ?_
        refine n_get (v := .ref 9) rfl (hv_R (a := 4) rfl rfl) ?_
        refine n_ld rfl rfl rfl ?_
        refine n_get (v := .int sa) rfl (hv_f (a := 82) rfl rfl (fun _ _ hw => hw.1.1)) ?_
        refine n_row sa [.int 16, .int 5, .ref 39] (a := 9) hd rfl rfl rfl rfl (fun x2 g1 g2 g3 => ?_)
        replace h := h x2 g1
        replace h := h _ (i_mul (x := 16) (y := x2) (show (16 : Int32).toInt = 16 by decide) rfl)
        replace h := h (i_mulm (x := 16) (y := x2) (show (16 : Int32).toInt = 16 by decide) rfl)
        refine n_c [.int (16 * x2), .int 5, .ref 39] xo_imul rfl rfl ?_
        replace h := h _ (i_add (x := 5) (y := (16 * x2)) (show (5 : Int32).toInt = 5 by decide) rfl)
        replace h := h (i_addm (x := 5) (y := (16 * x2)) (show (5 : Int32).toInt = 5 by decide) rfl)
        refine n_c [.int (5 + (16 * x2)), .ref 39] xo_iadd rfl rfl ?_
        refine n_put (a := 39) (w1 := (((82, 3), 39, [(82, 0, 39), (82, 1, 4), (82, 2, 7)]) : wW)) (s1 := (sa, sk, (5 + (16 * x2)), sc, sz)) rfl rfl rfl rfl (vK_int _) rfl rfl rfl (Or.inr (Or.inr (fun q => h.1 (z32.mpr (Value.int.inj q))))) (ws_fl (w := (((82, 3), 39, [(82, 0, 39), (82, 1, 4), (82, 2, 7)]) : wW)) (s := (sa, sk, sf, sc, sz)) rfl) ?_
        replace h := h.2
        exact k_74_26_39TK hd hc  h
theorem t_74_39TK {d : Nat} (hc : ∀ p ∈ s_w74, CTR (yex (d + 4)) p.1 p.2) {a1 : Int32} {sa : Int32} {sk : Int32} {sf : Int32} {sc : Int32} {sz : Int32} {Q : Option Value → sW → Prop} (h : w_74_0 (fun k => Tt (d + 4) wxL (wk_74TK 39 k) (wk_74TK 39 k)) 39 a1 sa sk sf sc sz Q) : Tt (d + 5) wxL (((82, 3), 39, [(82, 0, 39), (82, 1, 4), (82, 2, 7)]) : wW) (((82, 3), 39, [(82, 0, 39), (82, 1, 4), (82, 2, 7)]) : wW) 74 [.ref 82, .int a1] (sa, sk, sf, sc, sz) Q := tt_of (E := xE_74) (L := xL_5) (ml := 2) (ret := none) rfl rfl rfl (k_74_0_39TK rfl hc h)
set_option maxRecDepth 20000 in
theorem k_74_60_39T {d d0 : Nat} (hd : d = d0 + 4) (hc : ∀ p ∈ s_w74, CTR (yex d) p.1 p.2)  {a1 : Int32} {sa : Int32} {sk : Int32} {sf : Int32} {sc : Int32} {sz : Int32} {Q : Option Value → sW → Prop}  (h : w_74_60 (fun k => Tt d wxL (wk_74T 39 k) (wk_74T 39 k)) 39  a1 sa sk sf sc sz Q) : Rn d wxL (((82, 3), 39, [(82, 0, 39), (82, 1, 4), (82, 2, 43)]) : wW) (((82, 3), 39, [(82, 0, 39), (82, 1, 4), (82, 2, 43)]) : wW) xL_5 2 (none) xE_74 (xE_74.drop 60) [.ref 82, .int a1, .null, .null] [] (sa, sk, sf, sc, sz) Q := by
  unfold w_74_60 at h
  exact n_ret0 rfl h
set_option maxRecDepth 20000 in
theorem k_74_50_39T {d d0 : Nat} (hd : d = d0 + 4) (hc : ∀ p ∈ s_w74, CTR (yex d) p.1 p.2)  {a1 : Int32} {sa : Int32} {sk : Int32} {sf : Int32} {sc : Int32} {sz : Int32} {Q : Option Value → sW → Prop}  (h : w_74_50 (fun k => Tt d wxL (wk_74T 39 k) (wk_74T 39 k)) 39  a1 sa sk sf sc sz Q) : Rn d wxL (((82, 3), 39, [(82, 0, 39), (82, 1, 4), (82, 2, 43)]) : wW) (((82, 3), 39, [(82, 0, 39), (82, 1, 4), (82, 2, 43)]) : wW) xL_5 2 (none) xE_74 (xE_74.drop 50) [.ref 82, .int a1, .null, .null] [] (sa, sk, sf, sc, sz) Q := by
  unfold w_74_50 at h
  refine n_ld rfl rfl rfl ?_
  refine n_get (v := .ref 39) rfl (hv_C (a := 82) (n := 0) rfl rfl rfl) ?_
  refine n_get (v := .int sf) rfl (hv_f (a := 39) rfl rfl (fun _ _ hw => hw.1.2.2.1)) ?_
  refine n_brN rfl rfl ⟨fun hcn => ?_, fun hcn => ?_⟩
  · replace h := h.1 (fun q => hcn ((i_eq (x := sf) (y := 0) rfl (show (0 : Int32).toInt = 0 by decide)).mpr q))
    exact k_74_60_39T hd hc  h
  · replace h := h.2 ((i_eq (x := sf) (y := 0) rfl (show (0 : Int32).toInt = 0 by decide)).mp hcn)
    refine n_ld rfl rfl rfl ?_
    refine n_c [.ref 82, .ref 82] xo_dup rfl rfl ?_
    refine n_get (v := .int sa) rfl (hv_f (a := 82) rfl rfl (fun _ _ hw => hw.1.1)) ?_
    refine n_c [.int 1, .int sa, .ref 82] (xo_push (.int 1)) rfl rfl ?_
    replace h := h _ (i_add (x := sa) (y := 1) rfl (show (1 : Int32).toInt = 1 by decide))
    replace h := h (i_addm (x := sa) (y := 1) rfl (show (1 : Int32).toInt = 1 by decide))
    refine n_c [.int (sa + 1), .ref 82] xo_iadd rfl rfl ?_
    refine n_put (a := 82) (w1 := (((82, 3), 39, [(82, 0, 39), (82, 1, 4), (82, 2, 43)]) : wW)) (s1 := ((sa + 1), sk, sf, sc, sz)) rfl rfl rfl rfl ⟨_, rfl, h.1.1, h.1.2⟩ rfl rfl rfl (Or.inr (Or.inl (by decide +kernel))) (ws_at (w := (((82, 3), 39, [(82, 0, 39), (82, 1, 4), (82, 2, 43)]) : wW)) (s := (sa, sk, sf, sc, sz)) rfl) ?_
    replace h := h.2
    exact k_74_60_39T hd hc  h
set_option maxRecDepth 20000 in
theorem k_74_26_39T {d d0 : Nat} (hd : d = d0 + 4) (hc : ∀ p ∈ s_w74, CTR (yex d) p.1 p.2)  {a1 : Int32} {sa : Int32} {sk : Int32} {sf : Int32} {sc : Int32} {sz : Int32} {Q : Option Value → sW → Prop}  (h : w_74_26 (fun k => Tt d wxL (wk_74T 39 k) (wk_74T 39 k)) 39  a1 sa sk sf sc sz Q) : Rn d wxL (((82, 3), 39, [(82, 0, 39), (82, 1, 4), (82, 2, 43)]) : wW) (((82, 3), 39, [(82, 0, 39), (82, 1, 4), (82, 2, 43)]) : wW) xL_5 2 (none) xE_74 (xE_74.drop 26) [.ref 82, .int a1, .null, .null] [] (sa, sk, sf, sc, sz) Q := by
  unfold w_74_26 at h
  refine n_ld rfl rfl rfl ?_
  refine n_get (v := .ref 39) rfl (hv_C (a := 82) (n := 0) rfl rfl rfl) ?_
  refine n_get (v := .int sf) rfl (hv_f (a := 39) rfl rfl (fun _ _ hw => hw.1.2.2.1)) ?_
  refine n_brN rfl rfl ⟨fun hcn => ?_, fun hcn => ?_⟩
  · replace h := h.1 (fun q => hcn ((i_eq (x := sf) (y := 0) rfl (show (0 : Int32).toInt = 0 by decide)).mpr q))
    exact k_74_50_39T hd hc  h
  · replace h := h.2 ((i_eq (x := sf) (y := 0) rfl (show (0 : Int32).toInt = 0 by decide)).mp hcn)
    refine n_ld rfl rfl rfl ?_
    refine n_get (v := .ref 43) rfl (hv_C (a := 82) (n := 2) rfl rfl rfl) ?_
    refine n_ld rfl rfl rfl ?_
    refine n_get (v := .int sa) rfl (hv_f (a := 82) rfl rfl (fun _ _ hw => hw.1.1)) ?_
    refine n_row sa [] (a := 43) hd rfl rfl rfl rfl (fun x1 g1 g2 g3 => ?_)
    replace h := h x1 g2
    refine n_c [.int 1, .int x1] (xo_push (.int 1)) rfl rfl ?_
    refine n_brP rfl rfl ⟨fun hcn => ?_, fun hcn => ?_⟩
    · replace h := h.1 ((i_eq (x := x1) (y := 1) rfl (show (1 : Int32).toInt = 1 by decide)).mp hcn)
      exact k_74_50_39T hd hc  h
    · replace h := h.2 (fun q => hcn ((i_eq (x := x1) (y := 1) rfl (show (1 : Int32).toInt = 1 by decide)).mpr q))
      refine n_ld rfl rfl rfl ?_
      refine n_get (v := .ref 39) rfl (hv_C (a := 82) (n := 0) rfl rfl rfl) ?_
      refine n_c [.int 1, .ref 39] (xo_push (.int 1)) rfl rfl ?_
      refine n_c [.int 16, .int 1, .ref 39] (xo_push (.int 16)) rfl rfl ?_
      refine n_ld rfl rfl rfl ?_
      refine n_get (v := .ref 4) rfl (hv_C (a := 82) (n := 1) rfl rfl rfl) ?_
      refine n_get (v := .ref 9) rfl (hv_R (a := 4) rfl rfl) ?_
      refine n_ld rfl rfl rfl ?_
      refine n_get (v := .int sa) rfl (hv_f (a := 82) rfl rfl (fun _ _ hw => hw.1.1)) ?_
      refine n_row sa [.int 16, .int 1, .ref 39] (a := 9) hd rfl rfl rfl rfl (fun x2 g1 g2 g3 => ?_)
      replace h := h x2 g1
      replace h := h _ (i_mul (x := 16) (y := x2) (show (16 : Int32).toInt = 16 by decide) rfl)
      replace h := h (i_mulm (x := 16) (y := x2) (show (16 : Int32).toInt = 16 by decide) rfl)
      refine n_c [.int (16 * x2), .int 1, .ref 39] xo_imul rfl rfl ?_
      replace h := h _ (i_add (x := 1) (y := (16 * x2)) (show (1 : Int32).toInt = 1 by decide) rfl)
      replace h := h (i_addm (x := 1) (y := (16 * x2)) (show (1 : Int32).toInt = 1 by decide) rfl)
      refine n_c [.int (1 + (16 * x2)), .ref 39] xo_iadd rfl rfl ?_
      refine n_put (a := 39) (w1 := (((82, 3), 39, [(82, 0, 39), (82, 1, 4), (82, 2, 43)]) : wW)) (s1 := (sa, sk, (1 + (16 * x2)), sc, sz)) rfl rfl rfl rfl (vK_int _) rfl rfl rfl (Or.inr (Or.inr (fun q => h.1 (z32.mpr (Value.int.inj q))))) (ws_fl (w := (((82, 3), 39, [(82, 0, 39), (82, 1, 4), (82, 2, 43)]) : wW)) (s := (sa, sk, sf, sc, sz)) rfl) ?_
      replace h := h.2
      exact k_74_50_39T hd hc  h
set_option maxRecDepth 20000 in
theorem k_74_0_39T {d d0 : Nat} (hd : d = d0 + 4) (hc : ∀ p ∈ s_w74, CTR (yex d) p.1 p.2)  {a1 : Int32} {sa : Int32} {sk : Int32} {sf : Int32} {sc : Int32} {sz : Int32} {Q : Option Value → sW → Prop}  (h : w_74_0 (fun k => Tt d wxL (wk_74T 39 k) (wk_74T 39 k)) 39  a1 sa sk sf sc sz Q) : Rn d wxL (((82, 3), 39, [(82, 0, 39), (82, 1, 4), (82, 2, 43)]) : wW) (((82, 3), 39, [(82, 0, 39), (82, 1, 4), (82, 2, 43)]) : wW) xL_5 2 (none) xE_74 (xE_74.drop 0) [.ref 82, .int a1, .null, .null] [] (sa, sk, sf, sc, sz) Q := by
  unfold w_74_0 at h
  refine n_ld rfl rfl rfl ?_
  refine n_get (v := .ref 39) rfl (hv_C (a := 82) (n := 0) rfl rfl rfl) ?_
  refine n_get (v := .int sf) rfl (hv_f (a := 39) rfl rfl (fun _ _ hw => hw.1.2.2.1)) ?_
  refine n_brN rfl rfl ⟨fun hcn => ?_, fun hcn => ?_⟩
  · replace h := h.1 (fun q => hcn ((i_eq (x := sf) (y := 0) rfl (show (0 : Int32).toInt = 0 by decide)).mpr q))
    exact k_74_26_39T hd hc  h
  · replace h := h.2 ((i_eq (x := sf) (y := 0) rfl (show (0 : Int32).toInt = 0 by decide)).mp hcn)
    refine n_ld rfl rfl rfl ?_
    refine n_brP rfl rfl ⟨fun hcn => ?_, fun hcn => ?_⟩
    · replace h := h.1 ((i_eq (x := a1) (y := 0) rfl (show (0 : Int32).toInt = 0 by decide)).mp hcn)
      exact k_74_26_39T hd hc  h
    · replace h := h.2 (fun q => hcn ((i_eq (x := a1) (y := 0) rfl (show (0 : Int32).toInt = 0 by decide)).mpr q))
      refine n_ld rfl rfl rfl ?_
      refine n_get (v := .ref 43) rfl (hv_C (a := 82) (n := 2) rfl rfl rfl) ?_
      refine n_ld rfl rfl rfl ?_
      refine n_get (v := .int sa) rfl (hv_f (a := 82) rfl rfl (fun _ _ hw => hw.1.1)) ?_
      refine n_row sa [] (a := 43) hd rfl rfl rfl rfl (fun x1 g1 g2 g3 => ?_)
      replace h := h x1 g2
      refine n_c [.int 1, .int x1] (xo_push (.int 1)) rfl rfl ?_
      refine n_brN rfl rfl ⟨fun hcn => ?_, fun hcn => ?_⟩
      · replace h := h.1 (fun q => hcn ((i_eq (x := x1) (y := 1) rfl (show (1 : Int32).toInt = 1 by decide)).mpr q))
        exact k_74_26_39T hd hc  h
      · replace h := h.2 ((i_eq (x := x1) (y := 1) rfl (show (1 : Int32).toInt = 1 by decide)).mp hcn)
        refine n_ld rfl rfl rfl ?_
        refine n_get (v := .ref 39) rfl (hv_C (a := 82) (n := 0) rfl rfl rfl) ?_
        refine n_c [.int 5, .ref 39] (xo_push (.int 5)) rfl rfl ?_
        refine n_c [.int 16, .int 5, .ref 39] (xo_push (.int 16)) rfl rfl ?_
        refine n_ld rfl rfl rfl ?_
        refine n_get (v := .ref 4) rfl (hv_C (a := 82) (n := 1) rfl rfl rfl) ?_
        refine n_get (v := .ref 9) rfl (hv_R (a := 4) rfl rfl) ?_
        refine n_ld rfl rfl rfl ?_
        refine n_get (v := .int sa) rfl (hv_f (a := 82) rfl rfl (fun _ _ hw => hw.1.1)) ?_
        refine n_row sa [.int 16, .int 5, .ref 39] (a := 9) hd rfl rfl rfl rfl (fun x2 g1 g2 g3 => ?_)
        replace h := h x2 g1
        replace h := h _ (i_mul (x := 16) (y := x2) (show (16 : Int32).toInt = 16 by decide) rfl)
        replace h := h (i_mulm (x := 16) (y := x2) (show (16 : Int32).toInt = 16 by decide) rfl)
        refine n_c [.int (16 * x2), .int 5, .ref 39] xo_imul rfl rfl ?_
        replace h := h _ (i_add (x := 5) (y := (16 * x2)) (show (5 : Int32).toInt = 5 by decide) rfl)
        replace h := h (i_addm (x := 5) (y := (16 * x2)) (show (5 : Int32).toInt = 5 by decide) rfl)
        refine n_c [.int (5 + (16 * x2)), .ref 39] xo_iadd rfl rfl ?_
        refine n_put (a := 39) (w1 := (((82, 3), 39, [(82, 0, 39), (82, 1, 4), (82, 2, 43)]) : wW)) (s1 := (sa, sk, (5 + (16 * x2)), sc, sz)) rfl rfl rfl rfl (vK_int _) rfl rfl rfl (Or.inr (Or.inr (fun q => h.1 (z32.mpr (Value.int.inj q))))) (ws_fl (w := (((82, 3), 39, [(82, 0, 39), (82, 1, 4), (82, 2, 43)]) : wW)) (s := (sa, sk, sf, sc, sz)) rfl) ?_
        replace h := h.2
        exact k_74_26_39T hd hc  h
theorem t_74_39T {d : Nat} (hc : ∀ p ∈ s_w74, CTR (yex (d + 4)) p.1 p.2) {a1 : Int32} {sa : Int32} {sk : Int32} {sf : Int32} {sc : Int32} {sz : Int32} {Q : Option Value → sW → Prop} (h : w_74_0 (fun k => Tt (d + 4) wxL (wk_74T 39 k) (wk_74T 39 k)) 39 a1 sa sk sf sc sz Q) : Tt (d + 5) wxL (((82, 3), 39, [(82, 0, 39), (82, 1, 4), (82, 2, 43)]) : wW) (((82, 3), 39, [(82, 0, 39), (82, 1, 4), (82, 2, 43)]) : wW) 74 [.ref 82, .int a1] (sa, sk, sf, sc, sz) Q := tt_of (E := xE_74) (L := xL_5) (ml := 2) (ret := none) rfl rfl rfl (k_74_0_39T rfl hc h)
set_option maxRecDepth 20000 in
theorem k_74_60_39K {d d0 : Nat} (hd : d = d0 + 4) (hc : ∀ p ∈ s_w74, CTR (yex d) p.1 p.2)  {a1 : Int32} {sa : Int32} {sk : Int32} {sf : Int32} {sc : Int32} {sz : Int32} {Q : Option Value → sW → Prop}  (h : w_74_60 (fun k => Tt d wxL (wk_74K 39 k) (wk_74K 39 k)) 39  a1 sa sk sf sc sz Q) : Rn d wxL (((82, 3), 39, [(82, 0, 39), (82, 1, 40), (82, 2, 7)]) : wW) (((82, 3), 39, [(82, 0, 39), (82, 1, 40), (82, 2, 7)]) : wW) xL_5 2 (none) xE_74 (xE_74.drop 60) [.ref 82, .int a1, .null, .null] [] (sa, sk, sf, sc, sz) Q := by
  unfold w_74_60 at h
  exact n_ret0 rfl h
set_option maxRecDepth 20000 in
theorem k_74_50_39K {d d0 : Nat} (hd : d = d0 + 4) (hc : ∀ p ∈ s_w74, CTR (yex d) p.1 p.2)  {a1 : Int32} {sa : Int32} {sk : Int32} {sf : Int32} {sc : Int32} {sz : Int32} {Q : Option Value → sW → Prop}  (h : w_74_50 (fun k => Tt d wxL (wk_74K 39 k) (wk_74K 39 k)) 39  a1 sa sk sf sc sz Q) : Rn d wxL (((82, 3), 39, [(82, 0, 39), (82, 1, 40), (82, 2, 7)]) : wW) (((82, 3), 39, [(82, 0, 39), (82, 1, 40), (82, 2, 7)]) : wW) xL_5 2 (none) xE_74 (xE_74.drop 50) [.ref 82, .int a1, .null, .null] [] (sa, sk, sf, sc, sz) Q := by
  unfold w_74_50 at h
  refine n_ld rfl rfl rfl ?_
  refine n_get (v := .ref 39) rfl (hv_C (a := 82) (n := 0) rfl rfl rfl) ?_
  refine n_get (v := .int sf) rfl (hv_f (a := 39) rfl rfl (fun _ _ hw => hw.1.2.2.1)) ?_
  refine n_brN rfl rfl ⟨fun hcn => ?_, fun hcn => ?_⟩
  · replace h := h.1 (fun q => hcn ((i_eq (x := sf) (y := 0) rfl (show (0 : Int32).toInt = 0 by decide)).mpr q))
    exact k_74_60_39K hd hc  h
  · replace h := h.2 ((i_eq (x := sf) (y := 0) rfl (show (0 : Int32).toInt = 0 by decide)).mp hcn)
    refine n_ld rfl rfl rfl ?_
    refine n_c [.ref 82, .ref 82] xo_dup rfl rfl ?_
    refine n_get (v := .int sa) rfl (hv_f (a := 82) rfl rfl (fun _ _ hw => hw.1.1)) ?_
    refine n_c [.int 1, .int sa, .ref 82] (xo_push (.int 1)) rfl rfl ?_
    replace h := h _ (i_add (x := sa) (y := 1) rfl (show (1 : Int32).toInt = 1 by decide))
    replace h := h (i_addm (x := sa) (y := 1) rfl (show (1 : Int32).toInt = 1 by decide))
    refine n_c [.int (sa + 1), .ref 82] xo_iadd rfl rfl ?_
    refine n_put (a := 82) (w1 := (((82, 3), 39, [(82, 0, 39), (82, 1, 40), (82, 2, 7)]) : wW)) (s1 := ((sa + 1), sk, sf, sc, sz)) rfl rfl rfl rfl ⟨_, rfl, h.1.1, h.1.2⟩ rfl rfl rfl (Or.inr (Or.inl (by decide +kernel))) (ws_at (w := (((82, 3), 39, [(82, 0, 39), (82, 1, 40), (82, 2, 7)]) : wW)) (s := (sa, sk, sf, sc, sz)) rfl) ?_
    replace h := h.2
    exact k_74_60_39K hd hc  h
set_option maxRecDepth 20000 in
theorem k_74_26_39K {d d0 : Nat} (hd : d = d0 + 4) (hc : ∀ p ∈ s_w74, CTR (yex d) p.1 p.2)  {a1 : Int32} {sa : Int32} {sk : Int32} {sf : Int32} {sc : Int32} {sz : Int32} {Q : Option Value → sW → Prop}  (h : w_74_26 (fun k => Tt d wxL (wk_74K 39 k) (wk_74K 39 k)) 39  a1 sa sk sf sc sz Q) : Rn d wxL (((82, 3), 39, [(82, 0, 39), (82, 1, 40), (82, 2, 7)]) : wW) (((82, 3), 39, [(82, 0, 39), (82, 1, 40), (82, 2, 7)]) : wW) xL_5 2 (none) xE_74 (xE_74.drop 26) [.ref 82, .int a1, .null, .null] [] (sa, sk, sf, sc, sz) Q := by
  unfold w_74_26 at h
  refine n_ld rfl rfl rfl ?_
  refine n_get (v := .ref 39) rfl (hv_C (a := 82) (n := 0) rfl rfl rfl) ?_
  refine n_get (v := .int sf) rfl (hv_f (a := 39) rfl rfl (fun _ _ hw => hw.1.2.2.1)) ?_
  refine n_brN rfl rfl ⟨fun hcn => ?_, fun hcn => ?_⟩
  · replace h := h.1 (fun q => hcn ((i_eq (x := sf) (y := 0) rfl (show (0 : Int32).toInt = 0 by decide)).mpr q))
    exact k_74_50_39K hd hc  h
  · replace h := h.2 ((i_eq (x := sf) (y := 0) rfl (show (0 : Int32).toInt = 0 by decide)).mp hcn)
    refine n_ld rfl rfl rfl ?_
    refine n_get (v := .ref 7) rfl (hv_C (a := 82) (n := 2) rfl rfl rfl) ?_
    refine n_ld rfl rfl rfl ?_
    refine n_get (v := .int sa) rfl (hv_f (a := 82) rfl rfl (fun _ _ hw => hw.1.1)) ?_
    refine n_row sa [] (a := 7) hd rfl rfl rfl rfl (fun x1 g1 g2 g3 => ?_)
    replace h := h x1 g2
    refine n_c [.int 1, .int x1] (xo_push (.int 1)) rfl rfl ?_
    refine n_brP rfl rfl ⟨fun hcn => ?_, fun hcn => ?_⟩
    · replace h := h.1 ((i_eq (x := x1) (y := 1) rfl (show (1 : Int32).toInt = 1 by decide)).mp hcn)
      exact k_74_50_39K hd hc  h
    · replace h := h.2 (fun q => hcn ((i_eq (x := x1) (y := 1) rfl (show (1 : Int32).toInt = 1 by decide)).mpr q))
      refine n_ld rfl rfl rfl ?_
      refine n_get (v := .ref 39) rfl (hv_C (a := 82) (n := 0) rfl rfl rfl) ?_
      refine n_c [.int 1, .ref 39] (xo_push (.int 1)) rfl rfl ?_
      refine n_c [.int 16, .int 1, .ref 39] (xo_push (.int 16)) rfl rfl ?_
      refine n_ld rfl rfl rfl ?_
      refine n_get (v := .ref 40) rfl (hv_C (a := 82) (n := 1) rfl rfl rfl) ?_
      refine n_get (v := .ref 45) rfl (hv_R (a := 40) rfl rfl) ?_
      refine n_ld rfl rfl rfl ?_
      refine n_get (v := .int sa) rfl (hv_f (a := 82) rfl rfl (fun _ _ hw => hw.1.1)) ?_
      refine n_row sa [.int 16, .int 1, .ref 39] (a := 45) hd rfl rfl rfl rfl (fun x2 g1 g2 g3 => ?_)
      replace h := h x2 g1
      replace h := h _ (i_mul (x := 16) (y := x2) (show (16 : Int32).toInt = 16 by decide) rfl)
      replace h := h (i_mulm (x := 16) (y := x2) (show (16 : Int32).toInt = 16 by decide) rfl)
      refine n_c [.int (16 * x2), .int 1, .ref 39] xo_imul rfl rfl ?_
      replace h := h _ (i_add (x := 1) (y := (16 * x2)) (show (1 : Int32).toInt = 1 by decide) rfl)
      replace h := h (i_addm (x := 1) (y := (16 * x2)) (show (1 : Int32).toInt = 1 by decide) rfl)
      refine n_c [.int (1 + (16 * x2)), .ref 39] xo_iadd rfl rfl ?_
      refine n_put (a := 39) (w1 := (((82, 3), 39, [(82, 0, 39), (82, 1, 40), (82, 2, 7)]) : wW)) (s1 := (sa, sk, (1 + (16 * x2)), sc, sz)) rfl rfl rfl rfl (vK_int _) rfl rfl rfl (Or.inr (Or.inr (fun q => h.1 (z32.mpr (Value.int.inj q))))) (ws_fl (w := (((82, 3), 39, [(82, 0, 39), (82, 1, 40), (82, 2, 7)]) : wW)) (s := (sa, sk, sf, sc, sz)) rfl) ?_
      replace h := h.2
      exact k_74_50_39K hd hc  h
set_option maxRecDepth 20000 in
theorem k_74_0_39K {d d0 : Nat} (hd : d = d0 + 4) (hc : ∀ p ∈ s_w74, CTR (yex d) p.1 p.2)  {a1 : Int32} {sa : Int32} {sk : Int32} {sf : Int32} {sc : Int32} {sz : Int32} {Q : Option Value → sW → Prop}  (h : w_74_0 (fun k => Tt d wxL (wk_74K 39 k) (wk_74K 39 k)) 39  a1 sa sk sf sc sz Q) : Rn d wxL (((82, 3), 39, [(82, 0, 39), (82, 1, 40), (82, 2, 7)]) : wW) (((82, 3), 39, [(82, 0, 39), (82, 1, 40), (82, 2, 7)]) : wW) xL_5 2 (none) xE_74 (xE_74.drop 0) [.ref 82, .int a1, .null, .null] [] (sa, sk, sf, sc, sz) Q := by
  unfold w_74_0 at h
  refine n_ld rfl rfl rfl ?_
  refine n_get (v := .ref 39) rfl (hv_C (a := 82) (n := 0) rfl rfl rfl) ?_
  refine n_get (v := .int sf) rfl (hv_f (a := 39) rfl rfl (fun _ _ hw => hw.1.2.2.1)) ?_
  refine n_brN rfl rfl ⟨fun hcn => ?_, fun hcn => ?_⟩
  · replace h := h.1 (fun q => hcn ((i_eq (x := sf) (y := 0) rfl (show (0 : Int32).toInt = 0 by decide)).mpr q))
    exact k_74_26_39K hd hc  h
  · replace h := h.2 ((i_eq (x := sf) (y := 0) rfl (show (0 : Int32).toInt = 0 by decide)).mp hcn)
    refine n_ld rfl rfl rfl ?_
    refine n_brP rfl rfl ⟨fun hcn => ?_, fun hcn => ?_⟩
    · replace h := h.1 ((i_eq (x := a1) (y := 0) rfl (show (0 : Int32).toInt = 0 by decide)).mp hcn)
      exact k_74_26_39K hd hc  h
    · replace h := h.2 (fun q => hcn ((i_eq (x := a1) (y := 0) rfl (show (0 : Int32).toInt = 0 by decide)).mpr q))
      refine n_ld rfl rfl rfl ?_
      refine n_get (v := .ref 7) rfl (hv_C (a := 82) (n := 2) rfl rfl rfl) ?_
      refine n_ld rfl rfl rfl ?_
      refine n_get (v := .int sa) rfl (hv_f (a := 82) rfl rfl (fun _ _ hw => hw.1.1)) ?_
      refine n_row sa [] (a := 7) hd rfl rfl rfl rfl (fun x1 g1 g2 g3 => ?_)
      replace h := h x1 g2
      refine n_c [.int 1, .int x1] (xo_push (.int 1)) rfl rfl ?_
      refine n_brN rfl rfl ⟨fun hcn => ?_, fun hcn => ?_⟩
      · replace h := h.1 (fun q => hcn ((i_eq (x := x1) (y := 1) rfl (show (1 : Int32).toInt = 1 by decide)).mpr q))
        exact k_74_26_39K hd hc  h
      · replace h := h.2 ((i_eq (x := x1) (y := 1) rfl (show (1 : Int32).toInt = 1 by decide)).mp hcn)
        refine n_ld rfl rfl rfl ?_
        refine n_get (v := .ref 39) rfl (hv_C (a := 82) (n := 0) rfl rfl rfl) ?_
        refine n_c [.int 5, .ref 39] (xo_push (.int 5)) rfl rfl ?_
        refine n_c [.int 16, .int 5, .ref 39] (xo_push (.int 16)) rfl rfl ?_
        refine n_ld rfl rfl rfl ?_
        refine n_get (v := .ref 40) rfl (hv_C (a := 82) (n := 1) rfl rfl rfl) ?_
        refine n_get (v := .ref 45) rfl (hv_R (a := 40) rfl rfl) ?_
        refine n_ld rfl rfl rfl ?_
        refine n_get (v := .int sa) rfl (hv_f (a := 82) rfl rfl (fun _ _ hw => hw.1.1)) ?_
        refine n_row sa [.int 16, .int 5, .ref 39] (a := 45) hd rfl rfl rfl rfl (fun x2 g1 g2 g3 => ?_)
        replace h := h x2 g1
        replace h := h _ (i_mul (x := 16) (y := x2) (show (16 : Int32).toInt = 16 by decide) rfl)
        replace h := h (i_mulm (x := 16) (y := x2) (show (16 : Int32).toInt = 16 by decide) rfl)
        refine n_c [.int (16 * x2), .int 5, .ref 39] xo_imul rfl rfl ?_
        replace h := h _ (i_add (x := 5) (y := (16 * x2)) (show (5 : Int32).toInt = 5 by decide) rfl)
        replace h := h (i_addm (x := 5) (y := (16 * x2)) (show (5 : Int32).toInt = 5 by decide) rfl)
        refine n_c [.int (5 + (16 * x2)), .ref 39] xo_iadd rfl rfl ?_
        refine n_put (a := 39) (w1 := (((82, 3), 39, [(82, 0, 39), (82, 1, 40), (82, 2, 7)]) : wW)) (s1 := (sa, sk, (5 + (16 * x2)), sc, sz)) rfl rfl rfl rfl (vK_int _) rfl rfl rfl (Or.inr (Or.inr (fun q => h.1 (z32.mpr (Value.int.inj q))))) (ws_fl (w := (((82, 3), 39, [(82, 0, 39), (82, 1, 40), (82, 2, 7)]) : wW)) (s := (sa, sk, sf, sc, sz)) rfl) ?_
        replace h := h.2
        exact k_74_26_39K hd hc  h
theorem t_74_39K {d : Nat} (hc : ∀ p ∈ s_w74, CTR (yex (d + 4)) p.1 p.2) {a1 : Int32} {sa : Int32} {sk : Int32} {sf : Int32} {sc : Int32} {sz : Int32} {Q : Option Value → sW → Prop} (h : w_74_0 (fun k => Tt (d + 4) wxL (wk_74K 39 k) (wk_74K 39 k)) 39 a1 sa sk sf sc sz Q) : Tt (d + 5) wxL (((82, 3), 39, [(82, 0, 39), (82, 1, 40), (82, 2, 7)]) : wW) (((82, 3), 39, [(82, 0, 39), (82, 1, 40), (82, 2, 7)]) : wW) 74 [.ref 82, .int a1] (sa, sk, sf, sc, sz) Q := tt_of (E := xE_74) (L := xL_5) (ml := 2) (ret := none) rfl rfl rfl (k_74_0_39K rfl hc h)
set_option maxRecDepth 20000 in
theorem k_74_60_39 {d d0 : Nat} (hd : d = d0 + 4) (hc : ∀ p ∈ s_w74, CTR (yex d) p.1 p.2)  {a1 : Int32} {sa : Int32} {sk : Int32} {sf : Int32} {sc : Int32} {sz : Int32} {Q : Option Value → sW → Prop}  (h : w_74_60 (fun k => Tt d wxL (wk_74 39 k) (wk_74 39 k)) 39  a1 sa sk sf sc sz Q) : Rn d wxL (((82, 3), 39, [(82, 0, 39), (82, 1, 40), (82, 2, 43)]) : wW) (((82, 3), 39, [(82, 0, 39), (82, 1, 40), (82, 2, 43)]) : wW) xL_5 2 (none) xE_74 (xE_74.drop 60) [.ref 82, .int a1, .null, .null] [] (sa, sk, sf, sc, sz) Q := by
  unfold w_74_60 at h
  exact n_ret0 rfl h
set_option maxRecDepth 20000 in
theorem k_74_50_39 {d d0 : Nat} (hd : d = d0 + 4) (hc : ∀ p ∈ s_w74, CTR (yex d) p.1 p.2)  {a1 : Int32} {sa : Int32} {sk : Int32} {sf : Int32} {sc : Int32} {sz : Int32} {Q : Option Value → sW → Prop}  (h : w_74_50 (fun k => Tt d wxL (wk_74 39 k) (wk_74 39 k)) 39  a1 sa sk sf sc sz Q) : Rn d wxL (((82, 3), 39, [(82, 0, 39), (82, 1, 40), (82, 2, 43)]) : wW) (((82, 3), 39, [(82, 0, 39), (82, 1, 40), (82, 2, 43)]) : wW) xL_5 2 (none) xE_74 (xE_74.drop 50) [.ref 82, .int a1, .null, .null] [] (sa, sk, sf, sc, sz) Q := by
  unfold w_74_50 at h
  refine n_ld rfl rfl rfl ?_
  refine n_get (v := .ref 39) rfl (hv_C (a := 82) (n := 0) rfl rfl rfl) ?_
  refine n_get (v := .int sf) rfl (hv_f (a := 39) rfl rfl (fun _ _ hw => hw.1.2.2.1)) ?_
  refine n_brN rfl rfl ⟨fun hcn => ?_, fun hcn => ?_⟩
  · replace h := h.1 (fun q => hcn ((i_eq (x := sf) (y := 0) rfl (show (0 : Int32).toInt = 0 by decide)).mpr q))
    exact k_74_60_39 hd hc  h
  · replace h := h.2 ((i_eq (x := sf) (y := 0) rfl (show (0 : Int32).toInt = 0 by decide)).mp hcn)
    refine n_ld rfl rfl rfl ?_
    refine n_c [.ref 82, .ref 82] xo_dup rfl rfl ?_
    refine n_get (v := .int sa) rfl (hv_f (a := 82) rfl rfl (fun _ _ hw => hw.1.1)) ?_
    refine n_c [.int 1, .int sa, .ref 82] (xo_push (.int 1)) rfl rfl ?_
    replace h := h _ (i_add (x := sa) (y := 1) rfl (show (1 : Int32).toInt = 1 by decide))
    replace h := h (i_addm (x := sa) (y := 1) rfl (show (1 : Int32).toInt = 1 by decide))
    refine n_c [.int (sa + 1), .ref 82] xo_iadd rfl rfl ?_
    refine n_put (a := 82) (w1 := (((82, 3), 39, [(82, 0, 39), (82, 1, 40), (82, 2, 43)]) : wW)) (s1 := ((sa + 1), sk, sf, sc, sz)) rfl rfl rfl rfl ⟨_, rfl, h.1.1, h.1.2⟩ rfl rfl rfl (Or.inr (Or.inl (by decide +kernel))) (ws_at (w := (((82, 3), 39, [(82, 0, 39), (82, 1, 40), (82, 2, 43)]) : wW)) (s := (sa, sk, sf, sc, sz)) rfl) ?_
    replace h := h.2
    exact k_74_60_39 hd hc  h
set_option maxRecDepth 20000 in
theorem k_74_26_39 {d d0 : Nat} (hd : d = d0 + 4) (hc : ∀ p ∈ s_w74, CTR (yex d) p.1 p.2)  {a1 : Int32} {sa : Int32} {sk : Int32} {sf : Int32} {sc : Int32} {sz : Int32} {Q : Option Value → sW → Prop}  (h : w_74_26 (fun k => Tt d wxL (wk_74 39 k) (wk_74 39 k)) 39  a1 sa sk sf sc sz Q) : Rn d wxL (((82, 3), 39, [(82, 0, 39), (82, 1, 40), (82, 2, 43)]) : wW) (((82, 3), 39, [(82, 0, 39), (82, 1, 40), (82, 2, 43)]) : wW) xL_5 2 (none) xE_74 (xE_74.drop 26) [.ref 82, .int a1, .null, .null] [] (sa, sk, sf, sc, sz) Q := by
  unfold w_74_26 at h
  refine n_ld rfl rfl rfl ?_
  refine n_get (v := .ref 39) rfl (hv_C (a := 82) (n := 0) rfl rfl rfl) ?_
  refine n_get (v := .int sf) rfl (hv_f (a := 39) rfl rfl (fun _ _ hw => hw.1.2.2.1)) ?_
  refine n_brN rfl rfl ⟨fun hcn => ?_, fun hcn => ?_⟩
  · replace h := h.1 (fun q => hcn ((i_eq (x := sf) (y := 0) rfl (show (0 : Int32).toInt = 0 by decide)).mpr q))
    exact k_74_50_39 hd hc  h
  · replace h := h.2 ((i_eq (x := sf) (y := 0) rfl (show (0 : Int32).toInt = 0 by decide)).mp hcn)
    refine n_ld rfl rfl rfl ?_
    refine n_get (v := .ref 43) rfl (hv_C (a := 82) (n := 2) rfl rfl rfl) ?_
    refine n_ld rfl rfl rfl ?_
    refine n_get (v := .int sa) rfl (hv_f (a := 82) rfl rfl (fun _ _ hw => hw.1.1)) ?_
    refine n_row sa [] (a := 43) hd rfl rfl rfl rfl (fun x1 g1 g2 g3 => ?_)
    replace h := h x1 g2
    refine n_c [.int 1, .int x1] (xo_push (.int 1)) rfl rfl ?_
    refine n_brP rfl rfl ⟨fun hcn => ?_, fun hcn => ?_⟩
    · replace h := h.1 ((i_eq (x := x1) (y := 1) rfl (show (1 : Int32).toInt = 1 by decide)).mp hcn)
      exact k_74_50_39 hd hc  h
    · replace h := h.2 (fun q => hcn ((i_eq (x := x1) (y := 1) rfl (show (1 : Int32).toInt = 1 by decide)).mpr q))
      refine n_ld rfl rfl rfl ?_
      refine n_get (v := .ref 39) rfl (hv_C (a := 82) (n := 0) rfl rfl rfl) ?_
      refine n_c [.int 1, .ref 39] (xo_push (.int 1)) rfl rfl ?_
      refine n_c [.int 16, .int 1, .ref 39] (xo_push (.int 16)) rfl rfl ?_
      refine n_ld rfl rfl rfl ?_
      refine n_get (v := .ref 40) rfl (hv_C (a := 82) (n := 1) rfl rfl rfl) ?_
      refine n_get (v := .ref 45) rfl (hv_R (a := 40) rfl rfl) ?_
      refine n_ld rfl rfl rfl ?_
      refine n_get (v := .int sa) rfl (hv_f (a := 82) rfl rfl (fun _ _ hw => hw.1.1)) ?_
      refine n_row sa [.int 16, .int 1, .ref 39] (a := 45) hd rfl rfl rfl rfl (fun x2 g1 g2 g3 => ?_)
      replace h := h x2 g1
      replace h := h _ (i_mul (x := 16) (y := x2) (show (16 : Int32).toInt = 16 by decide) rfl)
      replace h := h (i_mulm (x := 16) (y := x2) (show (16 : Int32).toInt = 16 by decide) rfl)
      refine n_c [.int (16 * x2), .int 1, .ref 39] xo_imul rfl rfl ?_
      replace h := h _ (i_add (x := 1) (y := (16 * x2)) (show (1 : Int32).toInt = 1 by decide) rfl)
      replace h := h (i_addm (x := 1) (y := (16 * x2)) (show (1 : Int32).toInt = 1 by decide) rfl)
      refine n_c [.int (1 + (16 * x2)), .ref 39] xo_iadd rfl rfl ?_
      refine n_put (a := 39) (w1 := (((82, 3), 39, [(82, 0, 39), (82, 1, 40), (82, 2, 43)]) : wW)) (s1 := (sa, sk, (1 + (16 * x2)), sc, sz)) rfl rfl rfl rfl (vK_int _) rfl rfl rfl (Or.inr (Or.inr (fun q => h.1 (z32.mpr (Value.int.inj q))))) (ws_fl (w := (((82, 3), 39, [(82, 0, 39), (82, 1, 40), (82, 2, 43)]) : wW)) (s := (sa, sk, sf, sc, sz)) rfl) ?_
      replace h := h.2
      exact k_74_50_39 hd hc  h
set_option maxRecDepth 20000 in
theorem k_74_0_39 {d d0 : Nat} (hd : d = d0 + 4) (hc : ∀ p ∈ s_w74, CTR (yex d) p.1 p.2)  {a1 : Int32} {sa : Int32} {sk : Int32} {sf : Int32} {sc : Int32} {sz : Int32} {Q : Option Value → sW → Prop}  (h : w_74_0 (fun k => Tt d wxL (wk_74 39 k) (wk_74 39 k)) 39  a1 sa sk sf sc sz Q) : Rn d wxL (((82, 3), 39, [(82, 0, 39), (82, 1, 40), (82, 2, 43)]) : wW) (((82, 3), 39, [(82, 0, 39), (82, 1, 40), (82, 2, 43)]) : wW) xL_5 2 (none) xE_74 (xE_74.drop 0) [.ref 82, .int a1, .null, .null] [] (sa, sk, sf, sc, sz) Q := by
  unfold w_74_0 at h
  refine n_ld rfl rfl rfl ?_
  refine n_get (v := .ref 39) rfl (hv_C (a := 82) (n := 0) rfl rfl rfl) ?_
  refine n_get (v := .int sf) rfl (hv_f (a := 39) rfl rfl (fun _ _ hw => hw.1.2.2.1)) ?_
  refine n_brN rfl rfl ⟨fun hcn => ?_, fun hcn => ?_⟩
  · replace h := h.1 (fun q => hcn ((i_eq (x := sf) (y := 0) rfl (show (0 : Int32).toInt = 0 by decide)).mpr q))
    exact k_74_26_39 hd hc  h
  · replace h := h.2 ((i_eq (x := sf) (y := 0) rfl (show (0 : Int32).toInt = 0 by decide)).mp hcn)
    refine n_ld rfl rfl rfl ?_
    refine n_brP rfl rfl ⟨fun hcn => ?_, fun hcn => ?_⟩
    · replace h := h.1 ((i_eq (x := a1) (y := 0) rfl (show (0 : Int32).toInt = 0 by decide)).mp hcn)
      exact k_74_26_39 hd hc  h
    · replace h := h.2 (fun q => hcn ((i_eq (x := a1) (y := 0) rfl (show (0 : Int32).toInt = 0 by decide)).mpr q))
      refine n_ld rfl rfl rfl ?_
      refine n_get (v := .ref 43) rfl (hv_C (a := 82) (n := 2) rfl rfl rfl) ?_
      refine n_ld rfl rfl rfl ?_
      refine n_get (v := .int sa) rfl (hv_f (a := 82) rfl rfl (fun _ _ hw => hw.1.1)) ?_
      refine n_row sa [] (a := 43) hd rfl rfl rfl rfl (fun x1 g1 g2 g3 => ?_)
      replace h := h x1 g2
      refine n_c [.int 1, .int x1] (xo_push (.int 1)) rfl rfl ?_
      refine n_brN rfl rfl ⟨fun hcn => ?_, fun hcn => ?_⟩
      · replace h := h.1 (fun q => hcn ((i_eq (x := x1) (y := 1) rfl (show (1 : Int32).toInt = 1 by decide)).mpr q))
        exact k_74_26_39 hd hc  h
      · replace h := h.2 ((i_eq (x := x1) (y := 1) rfl (show (1 : Int32).toInt = 1 by decide)).mp hcn)
        refine n_ld rfl rfl rfl ?_
        refine n_get (v := .ref 39) rfl (hv_C (a := 82) (n := 0) rfl rfl rfl) ?_
        refine n_c [.int 5, .ref 39] (xo_push (.int 5)) rfl rfl ?_
        refine n_c [.int 16, .int 5, .ref 39] (xo_push (.int 16)) rfl rfl ?_
        refine n_ld rfl rfl rfl ?_
        refine n_get (v := .ref 40) rfl (hv_C (a := 82) (n := 1) rfl rfl rfl) ?_
        refine n_get (v := .ref 45) rfl (hv_R (a := 40) rfl rfl) ?_
        refine n_ld rfl rfl rfl ?_
        refine n_get (v := .int sa) rfl (hv_f (a := 82) rfl rfl (fun _ _ hw => hw.1.1)) ?_
        refine n_row sa [.int 16, .int 5, .ref 39] (a := 45) hd rfl rfl rfl rfl (fun x2 g1 g2 g3 => ?_)
        replace h := h x2 g1
        replace h := h _ (i_mul (x := 16) (y := x2) (show (16 : Int32).toInt = 16 by decide) rfl)
        replace h := h (i_mulm (x := 16) (y := x2) (show (16 : Int32).toInt = 16 by decide) rfl)
        refine n_c [.int (16 * x2), .int 5, .ref 39] xo_imul rfl rfl ?_
        replace h := h _ (i_add (x := 5) (y := (16 * x2)) (show (5 : Int32).toInt = 5 by decide) rfl)
        replace h := h (i_addm (x := 5) (y := (16 * x2)) (show (5 : Int32).toInt = 5 by decide) rfl)
        refine n_c [.int (5 + (16 * x2)), .ref 39] xo_iadd rfl rfl ?_
        refine n_put (a := 39) (w1 := (((82, 3), 39, [(82, 0, 39), (82, 1, 40), (82, 2, 43)]) : wW)) (s1 := (sa, sk, (5 + (16 * x2)), sc, sz)) rfl rfl rfl rfl (vK_int _) rfl rfl rfl (Or.inr (Or.inr (fun q => h.1 (z32.mpr (Value.int.inj q))))) (ws_fl (w := (((82, 3), 39, [(82, 0, 39), (82, 1, 40), (82, 2, 43)]) : wW)) (s := (sa, sk, sf, sc, sz)) rfl) ?_
        replace h := h.2
        exact k_74_26_39 hd hc  h
theorem t_74_39 {d : Nat} (hc : ∀ p ∈ s_w74, CTR (yex (d + 4)) p.1 p.2) {a1 : Int32} {sa : Int32} {sk : Int32} {sf : Int32} {sc : Int32} {sz : Int32} {Q : Option Value → sW → Prop} (h : w_74_0 (fun k => Tt (d + 4) wxL (wk_74 39 k) (wk_74 39 k)) 39 a1 sa sk sf sc sz Q) : Tt (d + 5) wxL (((82, 3), 39, [(82, 0, 39), (82, 1, 40), (82, 2, 43)]) : wW) (((82, 3), 39, [(82, 0, 39), (82, 1, 40), (82, 2, 43)]) : wW) 74 [.ref 82, .int a1] (sa, sk, sf, sc, sz) Q := tt_of (E := xE_74) (L := xL_5) (ml := 2) (ret := none) rfl rfl rfl (k_74_0_39 rfl hc h)
/-! ===== the class: what its methods must be given (by wip/p2/cdec.py) ===== -/
def wrL : List (Nat × Nat) := [(4, 11), (4, 14), (5, 0), (5, 1), (5, 2), (5, 3), (6, 1), (6, 2)]
/-! FeatherBench$Reader.read -/
def wk_61 (P : Nat) : Nat → wW
  | 0 => (((82, 3), P, []) : wW)
  | _ => (((82, 3), P, [(82, 2, (P + 4)), (82, 1, (P + 1)), (82, 0, P)]) : wW)
def s_w61 : List (Nat × cSg) := [(69, q_69), (62, q_62), (63, q_63)]
def w_61_46 (T : Nat → Nat → List Value → sW → (Option Value → sW → Prop) → Prop) (P : Nat)  (a2 : Int32) (sa : Int32) (sk : Int32) (sf : Int32) (sc : Int32) (sz : Int32) (Q : Option Value → sW → Prop) : Prop :=
  T 1 73 [.ref 82, .int 8] (sa, sk, sf, sc, sz) (fun v6 (sa1, sk2, sf3, sc4, sz5) => v6 = none ∧ ((0 ≤ sa1.toInt ∧ sa1.toInt ≤ 5000) ∧ (∀ sa7 : Int32, 0 ≤ sa7.toInt → sa7.toInt ≤ 5000 → ∀ sf9 : Int32, (sf9.toInt = 0 → sf3.toInt = 0) → T 1 73 [.ref 82, .int 59] (sa7, sk2, sf9, sc4, sz5) (fun v17 (sa12, sk13, sf14, sc15, sz16) => v17 = none ∧ (T 1 73 [.ref 82, .int 0] (sa12, sk13, sf14, sc15, sz16) (fun v23 (sa18, sk19, sf20, sc21, sz22) => v23 = none ∧ (Q none (sa18, sk19, sf20, sc21, sz22))))))))
def w_61_44 (T : Nat → Nat → List Value → sW → (Option Value → sW → Prop) → Prop) (P : Nat) (R18 : Int32 → Int32 → Int32 → Int32 → Int32 → Int32 → Prop) (a2 : Int32) (sa : Int32) (sk : Int32) (sf : Int32) (sc : Int32) (sz : Int32) (Q : Option Value → sW → Prop) : Prop :=
  ∀ x1 : Int32, (-2147483648 ≤ a2.toInt + 1 ∧ a2.toInt + 1 ≤ 2147483647 → x1.toInt = a2.toInt + 1) → R18 x1 sa sk sf sc sz
def w_61_18 (T : Nat → Nat → List Value → sW → (Option Value → sW → Prop) → Prop) (P : Nat) (R18 : Int32 → Int32 → Int32 → Int32 → Int32 → Int32 → Prop) (a2 : Int32) (sa : Int32) (sk : Int32) (sf : Int32) (sc : Int32) (sz : Int32) (Q : Option Value → sW → Prop) : Prop :=
  (4000 ≤ a2.toInt → w_61_46 T P  a2 sa sk sf sc sz Q) ∧ (¬ (4000 ≤ a2.toInt) → (¬ (sf.toInt = 0) → w_61_46 T P  a2 sa sk sf sc sz Q) ∧ (sf.toInt = 0 → ∀ x1 : Int32, (¬ x1.toInt = 0 → 0 ≤ sa.toInt ∧ sa.toInt < 4002) → (x1.toInt = 8 → w_61_46 T P  a2 sa sk sf sc sz Q) ∧ (¬ (x1.toInt = 8) → ∀ x2 : Int32, (¬ x2.toInt = 0 → 0 ≤ sa.toInt ∧ sa.toInt < 4002) → (¬ (x2.toInt = 6) → ∀ sa3 : Int32, 0 ≤ sa3.toInt → sa3.toInt ≤ 5000 → ∀ sf5 : Int32, (sf5.toInt = 0 → sf.toInt = 0) → w_61_44 T P R18 a2 sa3 sk sf5 sc sz Q) ∧ (x2.toInt = 6 → ∀ sa8 : Int32, 0 ≤ sa8.toInt → sa8.toInt ≤ 5000 → ∀ sf10 : Int32, (sf10.toInt = 0 → sf.toInt = 0) → w_61_44 T P R18 a2 sa8 sk sf10 sc sz Q))))
def wl_61_18 (T : Nat → Nat → List Value → sW → (Option Value → sW → Prop) → Prop) (P : Nat)  (a2 : Int32) (sa : Int32) (sk : Int32) (sf : Int32) (sc : Int32) (sz : Int32) (Q : Option Value → sW → Prop) : Prop :=
  ∃ (I : Int32 → Int32 → Int32 → Int32 → Int32 → Int32 → Prop) (μ : Int32 → Int32 → Int32 → Int32 → Int32 → Int32 → Nat), I a2 sa sk sf sc sz ∧ ∀ (a2 : Int32) (sa : Int32) (sk : Int32) (sf : Int32) (sc : Int32) (sz : Int32), I a2 sa sk sf sc sz → w_61_18 T P (fun a2' sa' sk' sf' sc' sz' => I a2' sa' sk' sf' sc' sz' ∧ μ a2' sa' sk' sf' sc' sz' < μ a2 sa sk sf sc sz) a2 sa sk sf sc sz Q
def w_61_0 (T : Nat → Nat → List Value → sW → (Option Value → sW → Prop) → Prop) (P : Nat)  (sa : Int32) (sk : Int32) (sf : Int32) (sc : Int32) (sz : Int32) (Q : Option Value → sW → Prop) : Prop :=
  wl_61_18 T P  0 0 sk sf sc sz Q
set_option maxRecDepth 20000 in
theorem k_61_46_3 {d d0 : Nat} (hd : d = d0 + 4) (hc : ∀ p ∈ s_w61, CTR (yex d) p.1 p.2)  {a2 : Int32} {sa : Int32} {sk : Int32} {sf : Int32} {sc : Int32} {sz : Int32} {Q : Option Value → sW → Prop}  (h : w_61_46 (fun k => Tt d wrL (wk_61 3 k) (wk_61 3 k)) 3  a2 sa sk sf sc sz Q) : Rn d wrL (((82, 3), 3, [(82, 2, 7), (82, 1, 4), (82, 0, 3)]) : wW) (((82, 3), 3, [(82, 2, 7), (82, 1, 4), (82, 0, 3)]) : wW) xL_5 3 (none) xE_61 (xE_61.drop 46) [.ref 82, .ref 3, .int a2, .null, .null] [] (sa, sk, sf, sc, sz) Q := by
  unfold w_61_46 at h
  refine n_ld rfl rfl rfl ?_
  refine n_c [.int 8, .ref 82] (xo_push (.int 8)) rfl rfl ?_
  refine n_tt [.ref 82, .int 8] [] rfl rfl rfl rfl (Tt.imp h (fun v6 sq h => ?_))
  obtain ⟨sa1, sk2, sf3, sc4, sz5⟩ := sq
  obtain ⟨rfl, h⟩ := h
  change Rn _ _ _ _ _ _ _ _ _ _ [] _ _
  refine n_ld rfl rfl rfl ?_
  refine n_get (v := .ref 3) rfl (hv_C (a := 82) (n := 2) rfl rfl rfl) ?_
  refine n_ld rfl rfl rfl ?_
  refine n_get (v := .int sa1) rfl (hv_f (a := 82) rfl rfl (fun _ _ hw => hw.1.1)) ?_
  refine n_put (a := 3) (w1 := (((82, 3), 3, [(82, 2, 7), (82, 1, 4), (82, 0, 3)]) : wW)) (s1 := (sa1, sk2, sf3, sc4, sz5)) rfl rfl rfl rfl ⟨_, rfl, h.1.1, h.1.2⟩ rfl rfl rfl (Or.inr (Or.inl (by decide +kernel))) (ws_no (w := (((82, 3), 3, [(82, 2, 7), (82, 1, 4), (82, 0, 3)]) : wW)) (s := (sa1, sk2, sf3, sc4, sz5)) (a := 3) (k := 11) rfl) ?_
  replace h := h.2
  refine n_ld rfl rfl rfl ?_
  refine n_c [.int 1, .ref 82] (xo_push (.int 1)) rfl rfl ?_
  refine n_c [.int 0, .int 1, .ref 82] (xo_push (.int 0)) rfl rfl ?_
  refine n_ctr [.ref 82, .int 1, .int 0] [] rfl rfl rfl (hc (69, q_69) (List.mem_of_getElem? (i := 0) rfl)) ⟨⟨_, rfl, cmem_ok rfl⟩, ⟨_, rfl, by decide, by decide⟩, vK_int _, trivial⟩ rfl rfl (fun vq sq hv hk => ?_)
  obtain ⟨sa7, sk8, sf9, sc10, sz11⟩ := sq
  obtain ⟨k1, k2, k3, k4, k5, k6, k7⟩ := hk
  replace h := h sa7 (k7 _ _ rfl).1 (k7 _ _ rfl).2
  obtain rfl : sk2 = sk8 := (k2).symm
  replace h := h sf9 (k4 (wmem_no rfl))
  obtain rfl : sc4 = sc10 := (k5 (wmem_no rfl)).symm
  obtain rfl : sz5 = sz11 := (k6 (wmem_no rfl)).symm
  cases (show vq = none from hv)
  change Rn _ _ _ _ _ _ _ _ _ _ [] _ _
  refine n_ld rfl rfl rfl ?_
  refine n_c [.int 59, .ref 82] (xo_push (.int 59)) rfl rfl ?_
  refine n_tt [.ref 82, .int 59] [] rfl rfl rfl rfl (Tt.imp h (fun v17 sq h => ?_))
  obtain ⟨sa12, sk13, sf14, sc15, sz16⟩ := sq
  obtain ⟨rfl, h⟩ := h
  change Rn _ _ _ _ _ _ _ _ _ _ [] _ _
  refine n_ld rfl rfl rfl ?_
  refine n_c [.int 0, .ref 82] (xo_push (.int 0)) rfl rfl ?_
  refine n_tt [.ref 82, .int 0] [] rfl rfl rfl rfl (Tt.imp h (fun v23 sq h => ?_))
  obtain ⟨sa18, sk19, sf20, sc21, sz22⟩ := sq
  obtain ⟨rfl, h⟩ := h
  change Rn _ _ _ _ _ _ _ _ _ _ [] _ _
  exact n_ret0 rfl h
set_option maxRecDepth 20000 in
theorem k_61_44_3 {d d0 : Nat} (hd : d = d0 + 4) (hc : ∀ p ∈ s_w61, CTR (yex d) p.1 p.2) {R18 : Int32 → Int32 → Int32 → Int32 → Int32 → Int32 → Prop} {a2 : Int32} {sa : Int32} {sk : Int32} {sf : Int32} {sc : Int32} {sz : Int32} {Q : Option Value → sW → Prop} (r18 : ∀ a2 sa sk sf sc sz, R18 a2 sa sk sf sc sz → Rn d wrL (((82, 3), 3, [(82, 2, 7), (82, 1, 4), (82, 0, 3)]) : wW) (((82, 3), 3, [(82, 2, 7), (82, 1, 4), (82, 0, 3)]) : wW) xL_5 3 (none) xE_61 (xE_61.drop 18) [.ref 82, .ref 3, .int a2, .null, .null] [] (sa, sk, sf, sc, sz) Q) (h : w_61_44 (fun k => Tt d wrL (wk_61 3 k) (wk_61 3 k)) 3 R18 a2 sa sk sf sc sz Q) : Rn d wrL (((82, 3), 3, [(82, 2, 7), (82, 1, 4), (82, 0, 3)]) : wW) (((82, 3), 3, [(82, 2, 7), (82, 1, 4), (82, 0, 3)]) : wW) xL_5 3 (none) xE_61 (xE_61.drop 44) [.ref 82, .ref 3, .int a2, .null, .null] [] (sa, sk, sf, sc, sz) Q := by
  unfold w_61_44 at h
  replace h := h _ (i_add (x := a2) (y := 1) rfl (show (1 : Int32).toInt = 1 by decide))
  refine n_inc [.ref 82, .ref 3, .int (a2 + 1), .null, .null] rfl rfl rfl rfl ?_
  refine n_go rfl ?_
  exact r18 (a2 + 1) sa sk sf sc sz h
set_option maxRecDepth 20000 in
theorem k_61_18_3 {d d0 : Nat} (hd : d = d0 + 4) (hc : ∀ p ∈ s_w61, CTR (yex d) p.1 p.2) {R18 : Int32 → Int32 → Int32 → Int32 → Int32 → Int32 → Prop} {a2 : Int32} {sa : Int32} {sk : Int32} {sf : Int32} {sc : Int32} {sz : Int32} {Q : Option Value → sW → Prop} (r18 : ∀ a2 sa sk sf sc sz, R18 a2 sa sk sf sc sz → Rn d wrL (((82, 3), 3, [(82, 2, 7), (82, 1, 4), (82, 0, 3)]) : wW) (((82, 3), 3, [(82, 2, 7), (82, 1, 4), (82, 0, 3)]) : wW) xL_5 3 (none) xE_61 (xE_61.drop 18) [.ref 82, .ref 3, .int a2, .null, .null] [] (sa, sk, sf, sc, sz) Q) (h : w_61_18 (fun k => Tt d wrL (wk_61 3 k) (wk_61 3 k)) 3 R18 a2 sa sk sf sc sz Q) : Rn d wrL (((82, 3), 3, [(82, 2, 7), (82, 1, 4), (82, 0, 3)]) : wW) (((82, 3), 3, [(82, 2, 7), (82, 1, 4), (82, 0, 3)]) : wW) xL_5 3 (none) xE_61 (xE_61.drop 18) [.ref 82, .ref 3, .int a2, .null, .null] [] (sa, sk, sf, sc, sz) Q := by
  unfold w_61_18 at h
  refine n_ld rfl rfl rfl ?_
  refine n_c [.int 4000, .int a2] (xo_push (.int 4000)) rfl rfl ?_
  refine n_brP rfl rfl ⟨fun hcn => ?_, fun hcn => ?_⟩
  · replace h := h.1 ((i_le (x := 4000) (y := a2) (show (4000 : Int32).toInt = 4000 by decide) rfl).mp hcn)
    exact k_61_46_3 hd hc  h
  · replace h := h.2 (fun q => hcn ((i_le (x := 4000) (y := a2) (show (4000 : Int32).toInt = 4000 by decide) rfl).mpr q))
    refine n_ld rfl rfl rfl ?_
    refine n_get (v := .ref 3) rfl (hv_C (a := 82) (n := 2) rfl rfl rfl) ?_
    refine n_get (v := .int sf) rfl (hv_f (a := 3) rfl rfl (fun _ _ hw => hw.1.2.2.1)) ?_
    refine n_brN rfl rfl ⟨fun hcn => ?_, fun hcn => ?_⟩
    · replace h := h.1 (fun q => hcn ((i_eq (x := sf) (y := 0) rfl (show (0 : Int32).toInt = 0 by decide)).mpr q))
      exact k_61_46_3 hd hc  h
    · replace h := h.2 ((i_eq (x := sf) (y := 0) rfl (show (0 : Int32).toInt = 0 by decide)).mp hcn)
      refine n_ld rfl rfl rfl ?_
      refine n_get (v := .ref 7) rfl (hv_C (a := 82) (n := 0) rfl rfl rfl) ?_
      refine n_ld rfl rfl rfl ?_
      refine n_get (v := .int sa) rfl (hv_f (a := 82) rfl rfl (fun _ _ hw => hw.1.1)) ?_
      refine n_row sa [] (a := 7) hd rfl rfl rfl rfl (fun x1 g1 g2 g3 => ?_)
      replace h := h x1 g2
      refine n_c [.int 8, .int x1] (xo_push (.int 8)) rfl rfl ?_
      refine n_brP rfl rfl ⟨fun hcn => ?_, fun hcn => ?_⟩
      · replace h := h.1 ((i_eq (x := x1) (y := 8) rfl (show (8 : Int32).toInt = 8 by decide)).mp hcn)
        exact k_61_46_3 hd hc  h
      · replace h := h.2 (fun q => hcn ((i_eq (x := x1) (y := 8) rfl (show (8 : Int32).toInt = 8 by decide)).mpr q))
        refine n_ld rfl rfl rfl ?_
        refine n_get (v := .ref 7) rfl (hv_C (a := 82) (n := 0) rfl rfl rfl) ?_
        refine n_ld rfl rfl rfl ?_
        refine n_get (v := .int sa) rfl (hv_f (a := 82) rfl rfl (fun _ _ hw => hw.1.1)) ?_
        refine n_row sa [] (a := 7) hd rfl rfl rfl rfl (fun x2 g1 g2 g3 => ?_)
        replace h := h x2 g2
        refine n_c [.int 6, .int x2] (xo_push (.int 6)) rfl rfl ?_
        refine n_brN rfl rfl ⟨fun hcn => ?_, fun hcn => ?_⟩
        · replace h := h.1 (fun q => hcn ((i_eq (x := x2) (y := 6) rfl (show (6 : Int32).toInt = 6 by decide)).mpr q))
          refine n_ld rfl rfl rfl ?_
          refine n_ctr [.ref 82] [] rfl rfl rfl (hc (62, q_62) (List.mem_of_getElem? (i := 1) rfl)) ⟨⟨_, rfl, cmem_ok rfl⟩, trivial⟩ rfl rfl (fun vq sq hv hk => ?_)
          obtain ⟨sa3, sk4, sf5, sc6, sz7⟩ := sq
          obtain ⟨k1, k2, k3, k4, k5, k6, k7⟩ := hk
          replace h := h sa3 (k7 _ _ rfl).1 (k7 _ _ rfl).2
          obtain rfl : sk = sk4 := (k2).symm
          replace h := h sf5 (k4 (wmem_no rfl))
          obtain rfl : sc = sc6 := (k5 (wmem_no rfl)).symm
          obtain rfl : sz = sz7 := (k6 (wmem_no rfl)).symm
          cases (show vq = none from hv)
          change Rn _ _ _ _ _ _ _ _ _ _ [] _ _
          exact k_61_44_3 hd hc r18 h
        · replace h := h.2 ((i_eq (x := x2) (y := 6) rfl (show (6 : Int32).toInt = 6 by decide)).mp hcn)
          refine n_ld rfl rfl rfl ?_
          refine n_ctr [.ref 82] [] rfl rfl rfl (hc (63, q_63) (List.mem_of_getElem? (i := 2) rfl)) ⟨⟨_, rfl, cmem_ok rfl⟩, trivial⟩ rfl rfl (fun vq sq hv hk => ?_)
          obtain ⟨sa8, sk9, sf10, sc11, sz12⟩ := sq
          obtain ⟨k1, k2, k3, k4, k5, k6, k7⟩ := hk
          replace h := h sa8 (k7 _ _ rfl).1 (k7 _ _ rfl).2
          obtain rfl : sk = sk9 := (k2).symm
          replace h := h sf10 (k4 (wmem_no rfl))
          obtain rfl : sc = sc11 := (k5 (wmem_no rfl)).symm
          obtain rfl : sz = sz12 := (k6 (wmem_no rfl)).symm
          cases (show vq = none from hv)
          change Rn _ _ _ _ _ _ _ _ _ _ [] _ _
          refine n_go rfl ?_
          exact k_61_44_3 hd hc r18 h
theorem kl_61_18_3 {d d0 : Nat} (hd : d = d0 + 4) (hc : ∀ p ∈ s_w61, CTR (yex d) p.1 p.2)  {a2 : Int32} {sa : Int32} {sk : Int32} {sf : Int32} {sc : Int32} {sz : Int32} {Q : Option Value → sW → Prop}  (h : wl_61_18 (fun k => Tt d wrL (wk_61 3 k) (wk_61 3 k)) 3  a2 sa sk sf sc sz Q) : Rn d wrL (((82, 3), 3, [(82, 2, 7), (82, 1, 4), (82, 0, 3)]) : wW) (((82, 3), 3, [(82, 2, 7), (82, 1, 4), (82, 0, 3)]) : wW) xL_5 3 (none) xE_61 (xE_61.drop 18) [.ref 82, .ref 3, .int a2, .null, .null] [] (sa, sk, sf, sc, sz) Q := by
  obtain ⟨I, μ, h0, h1⟩ := h
  have key : ∀ (n : Nat) (a2 : Int32) (sa : Int32) (sk : Int32) (sf : Int32) (sc : Int32) (sz : Int32), μ a2 sa sk sf sc sz = n → I a2 sa sk sf sc sz → Rn d wrL (((82, 3), 3, [(82, 2, 7), (82, 1, 4), (82, 0, 3)]) : wW) (((82, 3), 3, [(82, 2, 7), (82, 1, 4), (82, 0, 3)]) : wW) xL_5 3 (none) xE_61 (xE_61.drop 18) [.ref 82, .ref 3, .int a2, .null, .null] [] (sa, sk, sf, sc, sz) Q := by
    intro n
    induction n using Nat.strongRecOn with
    | ind n ih =>
      intro a2 sa sk sf sc sz e hI
      exact k_61_18_3 hd hc (fun a2' sa' sk' sf' sc' sz' q => ih _ (by rw [← e]; exact q.2) a2' sa' sk' sf' sc' sz' rfl q.1) (h1 a2 sa sk sf sc sz hI)
  exact key _ a2 sa sk sf sc sz rfl h0
set_option maxRecDepth 20000 in
theorem k_61_0_3 {d d0 : Nat} (hd : d = d0 + 4) (hc : ∀ p ∈ s_w61, CTR (yex d) p.1 p.2)  {sa : Int32} {sk : Int32} {sf : Int32} {sc : Int32} {sz : Int32} {Q : Option Value → sW → Prop}  (h : w_61_0 (fun k => Tt d wrL (wk_61 3 k) (wk_61 3 k)) 3  sa sk sf sc sz Q) : Rn d wrL (((82, 3), 3, []) : wW) (((82, 3), 3, [(82, 2, 7), (82, 1, 4), (82, 0, 3)]) : wW) xL_5 3 (none) xE_61 (xE_61.drop 0) [.ref 82, .ref 3, .null, .null, .null] [] (sa, sk, sf, sc, sz) Q := by
  unfold w_61_0 at h
  refine n_ld rfl rfl rfl ?_
  refine n_ld rfl rfl rfl ?_
  refine n_put (a := 82) (w1 := (((82, 3), 3, [(82, 0, 3)]) : wW)) (s1 := (sa, sk, sf, sc, sz)) rfl rfl rfl rfl ⟨_, rfl, cmem_ok rfl⟩ rfl rfl rfl (Or.inr (Or.inl (by decide +kernel))) (ws_cf (w := (((82, 3), 3, []) : wW)) (s := (sa, sk, sf, sc, sz)) (a := 82) (k := 0) (b := 3) rfl) ?_
  refine n_ld rfl rfl rfl ?_
  refine n_ld rfl rfl rfl ?_
  refine n_get (v := .ref 3) rfl (hv_C (a := 82) (n := 0) rfl rfl rfl) ?_
  refine n_get (v := .ref 4) rfl (hv_R (a := 3) rfl rfl) ?_
  refine n_put (a := 82) (w1 := (((82, 3), 3, [(82, 1, 4), (82, 0, 3)]) : wW)) (s1 := (sa, sk, sf, sc, sz)) rfl rfl rfl rfl ⟨_, rfl, cmem_ok rfl⟩ rfl rfl rfl (Or.inr (Or.inl (by decide +kernel))) (ws_cf (w := (((82, 3), 3, [(82, 0, 3)]) : wW)) (s := (sa, sk, sf, sc, sz)) (a := 82) (k := 1) (b := 4) rfl) ?_
  refine n_ld rfl rfl rfl ?_
  refine n_ld rfl rfl rfl ?_
  refine n_get (v := .ref 4) rfl (hv_C (a := 82) (n := 0) rfl rfl rfl) ?_
  refine n_get (v := .ref 7) rfl (hv_R (a := 4) rfl rfl) ?_
  refine n_put (a := 82) (w1 := (((82, 3), 3, [(82, 2, 7), (82, 1, 4), (82, 0, 3)]) : wW)) (s1 := (sa, sk, sf, sc, sz)) rfl rfl rfl rfl ⟨_, rfl, cmem_ok rfl⟩ rfl rfl rfl (Or.inr (Or.inl (by decide +kernel))) (ws_cf (w := (((82, 3), 3, [(82, 1, 4), (82, 0, 3)]) : wW)) (s := (sa, sk, sf, sc, sz)) (a := 82) (k := 2) (b := 7) rfl) ?_
  refine n_ld rfl rfl rfl ?_
  refine n_c [.int 0, .ref 82] (xo_push (.int 0)) rfl rfl ?_
  refine n_put (a := 82) (w1 := (((82, 3), 3, [(82, 2, 7), (82, 1, 4), (82, 0, 3)]) : wW)) (s1 := (0, sk, sf, sc, sz)) rfl rfl rfl rfl ⟨_, rfl, by decide, by decide⟩ rfl rfl rfl (Or.inr (Or.inl (by decide +kernel))) (ws_at (w := (((82, 3), 3, [(82, 2, 7), (82, 1, 4), (82, 0, 3)]) : wW)) (s := (sa, sk, sf, sc, sz)) rfl) ?_
  refine n_c [.int 0] (xo_push (.int 0)) rfl rfl ?_
  refine n_st [.ref 82, .ref 3, .int 0, .null, .null] rfl rfl rfl ?_
  exact kl_61_18_3 hd hc  h
theorem t_61_3 {d : Nat} (hc : ∀ p ∈ s_w61, CTR (yex (d + 4)) p.1 p.2) {sa : Int32} {sk : Int32} {sf : Int32} {sc : Int32} {sz : Int32} {Q : Option Value → sW → Prop} (h : w_61_0 (fun k => Tt (d + 4) wrL (wk_61 3 k) (wk_61 3 k)) 3 sa sk sf sc sz Q) : Tt (d + 5) wrL (((82, 3), 3, []) : wW) (((82, 3), 3, [(82, 2, 7), (82, 1, 4), (82, 0, 3)]) : wW) 61 [.ref 82, .ref 3] (sa, sk, sf, sc, sz) Q := tt_of (E := xE_61) (L := xL_5) (ml := 3) (ret := none) rfl rfl rfl (k_61_0_3 rfl hc h)
set_option maxRecDepth 20000 in
theorem k_61_46_39 {d d0 : Nat} (hd : d = d0 + 4) (hc : ∀ p ∈ s_w61, CTR (yex d) p.1 p.2)  {a2 : Int32} {sa : Int32} {sk : Int32} {sf : Int32} {sc : Int32} {sz : Int32} {Q : Option Value → sW → Prop}  (h : w_61_46 (fun k => Tt d wrL (wk_61 39 k) (wk_61 39 k)) 39  a2 sa sk sf sc sz Q) : Rn d wrL (((82, 3), 39, [(82, 2, 43), (82, 1, 40), (82, 0, 39)]) : wW) (((82, 3), 39, [(82, 2, 43), (82, 1, 40), (82, 0, 39)]) : wW) xL_5 3 (none) xE_61 (xE_61.drop 46) [.ref 82, .ref 39, .int a2, .null, .null] [] (sa, sk, sf, sc, sz) Q := by
  unfold w_61_46 at h
  refine n_ld rfl rfl rfl ?_
  refine n_c [.int 8, .ref 82] (xo_push (.int 8)) rfl rfl ?_
  refine n_tt [.ref 82, .int 8] [] rfl rfl rfl rfl (Tt.imp h (fun v6 sq h => ?_))
  obtain ⟨sa1, sk2, sf3, sc4, sz5⟩ := sq
  obtain ⟨rfl, h⟩ := h
  change Rn _ _ _ _ _ _ _ _ _ _ [] _ _
  refine n_ld rfl rfl rfl ?_
  refine n_get (v := .ref 39) rfl (hv_C (a := 82) (n := 2) rfl rfl rfl) ?_
  refine n_ld rfl rfl rfl ?_
  refine n_get (v := .int sa1) rfl (hv_f (a := 82) rfl rfl (fun _ _ hw => hw.1.1)) ?_
  refine n_put (a := 39) (w1 := (((82, 3), 39, [(82, 2, 43), (82, 1, 40), (82, 0, 39)]) : wW)) (s1 := (sa1, sk2, sf3, sc4, sz5)) rfl rfl rfl rfl ⟨_, rfl, h.1.1, h.1.2⟩ rfl rfl rfl (Or.inr (Or.inl (by decide +kernel))) (ws_no (w := (((82, 3), 39, [(82, 2, 43), (82, 1, 40), (82, 0, 39)]) : wW)) (s := (sa1, sk2, sf3, sc4, sz5)) (a := 39) (k := 11) rfl) ?_
  replace h := h.2
  refine n_ld rfl rfl rfl ?_
  refine n_c [.int 1, .ref 82] (xo_push (.int 1)) rfl rfl ?_
  refine n_c [.int 0, .int 1, .ref 82] (xo_push (.int 0)) rfl rfl ?_
  refine n_ctr [.ref 82, .int 1, .int 0] [] rfl rfl rfl (hc (69, q_69) (List.mem_of_getElem? (i := 0) rfl)) ⟨⟨_, rfl, cmem_ok rfl⟩, ⟨_, rfl, by decide, by decide⟩, vK_int _, trivial⟩ rfl rfl (fun vq sq hv hk => ?_)
  obtain ⟨sa7, sk8, sf9, sc10, sz11⟩ := sq
  obtain ⟨k1, k2, k3, k4, k5, k6, k7⟩ := hk
  replace h := h sa7 (k7 _ _ rfl).1 (k7 _ _ rfl).2
  obtain rfl : sk2 = sk8 := (k2).symm
  replace h := h sf9 (k4 (wmem_no rfl))
  obtain rfl : sc4 = sc10 := (k5 (wmem_no rfl)).symm
  obtain rfl : sz5 = sz11 := (k6 (wmem_no rfl)).symm
  cases (show vq = none from hv)
  change Rn _ _ _ _ _ _ _ _ _ _ [] _ _
  refine n_ld rfl rfl rfl ?_
  refine n_c [.int 59, .ref 82] (xo_push (.int 59)) rfl rfl ?_
  refine n_tt [.ref 82, .int 59] [] rfl rfl rfl rfl (Tt.imp h (fun v17 sq h => ?_))
  obtain ⟨sa12, sk13, sf14, sc15, sz16⟩ := sq
  obtain ⟨rfl, h⟩ := h
  change Rn _ _ _ _ _ _ _ _ _ _ [] _ _
  refine n_ld rfl rfl rfl ?_
  refine n_c [.int 0, .ref 82] (xo_push (.int 0)) rfl rfl ?_
  refine n_tt [.ref 82, .int 0] [] rfl rfl rfl rfl (Tt.imp h (fun v23 sq h => ?_))
  obtain ⟨sa18, sk19, sf20, sc21, sz22⟩ := sq
  obtain ⟨rfl, h⟩ := h
  change Rn _ _ _ _ _ _ _ _ _ _ [] _ _
  exact n_ret0 rfl h
set_option maxRecDepth 20000 in
theorem k_61_44_39 {d d0 : Nat} (hd : d = d0 + 4) (hc : ∀ p ∈ s_w61, CTR (yex d) p.1 p.2) {R18 : Int32 → Int32 → Int32 → Int32 → Int32 → Int32 → Prop} {a2 : Int32} {sa : Int32} {sk : Int32} {sf : Int32} {sc : Int32} {sz : Int32} {Q : Option Value → sW → Prop} (r18 : ∀ a2 sa sk sf sc sz, R18 a2 sa sk sf sc sz → Rn d wrL (((82, 3), 39, [(82, 2, 43), (82, 1, 40), (82, 0, 39)]) : wW) (((82, 3), 39, [(82, 2, 43), (82, 1, 40), (82, 0, 39)]) : wW) xL_5 3 (none) xE_61 (xE_61.drop 18) [.ref 82, .ref 39, .int a2, .null, .null] [] (sa, sk, sf, sc, sz) Q) (h : w_61_44 (fun k => Tt d wrL (wk_61 39 k) (wk_61 39 k)) 39 R18 a2 sa sk sf sc sz Q) : Rn d wrL (((82, 3), 39, [(82, 2, 43), (82, 1, 40), (82, 0, 39)]) : wW) (((82, 3), 39, [(82, 2, 43), (82, 1, 40), (82, 0, 39)]) : wW) xL_5 3 (none) xE_61 (xE_61.drop 44) [.ref 82, .ref 39, .int a2, .null, .null] [] (sa, sk, sf, sc, sz) Q := by
  unfold w_61_44 at h
  replace h := h _ (i_add (x := a2) (y := 1) rfl (show (1 : Int32).toInt = 1 by decide))
  refine n_inc [.ref 82, .ref 39, .int (a2 + 1), .null, .null] rfl rfl rfl rfl ?_
  refine n_go rfl ?_
  exact r18 (a2 + 1) sa sk sf sc sz h
set_option maxRecDepth 20000 in
theorem k_61_18_39 {d d0 : Nat} (hd : d = d0 + 4) (hc : ∀ p ∈ s_w61, CTR (yex d) p.1 p.2) {R18 : Int32 → Int32 → Int32 → Int32 → Int32 → Int32 → Prop} {a2 : Int32} {sa : Int32} {sk : Int32} {sf : Int32} {sc : Int32} {sz : Int32} {Q : Option Value → sW → Prop} (r18 : ∀ a2 sa sk sf sc sz, R18 a2 sa sk sf sc sz → Rn d wrL (((82, 3), 39, [(82, 2, 43), (82, 1, 40), (82, 0, 39)]) : wW) (((82, 3), 39, [(82, 2, 43), (82, 1, 40), (82, 0, 39)]) : wW) xL_5 3 (none) xE_61 (xE_61.drop 18) [.ref 82, .ref 39, .int a2, .null, .null] [] (sa, sk, sf, sc, sz) Q) (h : w_61_18 (fun k => Tt d wrL (wk_61 39 k) (wk_61 39 k)) 39 R18 a2 sa sk sf sc sz Q) : Rn d wrL (((82, 3), 39, [(82, 2, 43), (82, 1, 40), (82, 0, 39)]) : wW) (((82, 3), 39, [(82, 2, 43), (82, 1, 40), (82, 0, 39)]) : wW) xL_5 3 (none) xE_61 (xE_61.drop 18) [.ref 82, .ref 39, .int a2, .null, .null] [] (sa, sk, sf, sc, sz) Q := by
  unfold w_61_18 at h
  refine n_ld rfl rfl rfl ?_
  refine n_c [.int 4000, .int a2] (xo_push (.int 4000)) rfl rfl ?_
  refine n_brP rfl rfl ⟨fun hcn => ?_, fun hcn => ?_⟩
  · replace h := h.1 ((i_le (x := 4000) (y := a2) (show (4000 : Int32).toInt = 4000 by decide) rfl).mp hcn)
    exact k_61_46_39 hd hc  h
  · replace h := h.2 (fun q => hcn ((i_le (x := 4000) (y := a2) (show (4000 : Int32).toInt = 4000 by decide) rfl).mpr q))
    refine n_ld rfl rfl rfl ?_
    refine n_get (v := .ref 39) rfl (hv_C (a := 82) (n := 2) rfl rfl rfl) ?_
    refine n_get (v := .int sf) rfl (hv_f (a := 39) rfl rfl (fun _ _ hw => hw.1.2.2.1)) ?_
    refine n_brN rfl rfl ⟨fun hcn => ?_, fun hcn => ?_⟩
    · replace h := h.1 (fun q => hcn ((i_eq (x := sf) (y := 0) rfl (show (0 : Int32).toInt = 0 by decide)).mpr q))
      exact k_61_46_39 hd hc  h
    · replace h := h.2 ((i_eq (x := sf) (y := 0) rfl (show (0 : Int32).toInt = 0 by decide)).mp hcn)
      refine n_ld rfl rfl rfl ?_
      refine n_get (v := .ref 43) rfl (hv_C (a := 82) (n := 0) rfl rfl rfl) ?_
      refine n_ld rfl rfl rfl ?_
      refine n_get (v := .int sa) rfl (hv_f (a := 82) rfl rfl (fun _ _ hw => hw.1.1)) ?_
      refine n_row sa [] (a := 43) hd rfl rfl rfl rfl (fun x1 g1 g2 g3 => ?_)
      replace h := h x1 g2
      refine n_c [.int 8, .int x1] (xo_push (.int 8)) rfl rfl ?_
      refine n_brP rfl rfl ⟨fun hcn => ?_, fun hcn => ?_⟩
      · replace h := h.1 ((i_eq (x := x1) (y := 8) rfl (show (8 : Int32).toInt = 8 by decide)).mp hcn)
        exact k_61_46_39 hd hc  h
      · replace h := h.2 (fun q => hcn ((i_eq (x := x1) (y := 8) rfl (show (8 : Int32).toInt = 8 by decide)).mpr q))
        refine n_ld rfl rfl rfl ?_
        refine n_get (v := .ref 43) rfl (hv_C (a := 82) (n := 0) rfl rfl rfl) ?_
        refine n_ld rfl rfl rfl ?_
        refine n_get (v := .int sa) rfl (hv_f (a := 82) rfl rfl (fun _ _ hw => hw.1.1)) ?_
        refine n_row sa [] (a := 43) hd rfl rfl rfl rfl (fun x2 g1 g2 g3 => ?_)
        replace h := h x2 g2
        refine n_c [.int 6, .int x2] (xo_push (.int 6)) rfl rfl ?_
        refine n_brN rfl rfl ⟨fun hcn => ?_, fun hcn => ?_⟩
        · replace h := h.1 (fun q => hcn ((i_eq (x := x2) (y := 6) rfl (show (6 : Int32).toInt = 6 by decide)).mpr q))
          refine n_ld rfl rfl rfl ?_
          refine n_ctr [.ref 82] [] rfl rfl rfl (hc (62, q_62) (List.mem_of_getElem? (i := 1) rfl)) ⟨⟨_, rfl, cmem_ok rfl⟩, trivial⟩ rfl rfl (fun vq sq hv hk => ?_)
          obtain ⟨sa3, sk4, sf5, sc6, sz7⟩ := sq
          obtain ⟨k1, k2, k3, k4, k5, k6, k7⟩ := hk
          replace h := h sa3 (k7 _ _ rfl).1 (k7 _ _ rfl).2
          obtain rfl : sk = sk4 := (k2).symm
          replace h := h sf5 (k4 (wmem_no rfl))
          obtain rfl : sc = sc6 := (k5 (wmem_no rfl)).symm
          obtain rfl : sz = sz7 := (k6 (wmem_no rfl)).symm
          cases (show vq = none from hv)
          change Rn _ _ _ _ _ _ _ _ _ _ [] _ _
          exact k_61_44_39 hd hc r18 h
        · replace h := h.2 ((i_eq (x := x2) (y := 6) rfl (show (6 : Int32).toInt = 6 by decide)).mp hcn)
          refine n_ld rfl rfl rfl ?_
          refine n_ctr [.ref 82] [] rfl rfl rfl (hc (63, q_63) (List.mem_of_getElem? (i := 2) rfl)) ⟨⟨_, rfl, cmem_ok rfl⟩, trivial⟩ rfl rfl (fun vq sq hv hk => ?_)
          obtain ⟨sa8, sk9, sf10, sc11, sz12⟩ := sq
          obtain ⟨k1, k2, k3, k4, k5, k6, k7⟩ := hk
          replace h := h sa8 (k7 _ _ rfl).1 (k7 _ _ rfl).2
          obtain rfl : sk = sk9 := (k2).symm
          replace h := h sf10 (k4 (wmem_no rfl))
          obtain rfl : sc = sc11 := (k5 (wmem_no rfl)).symm
          obtain rfl : sz = sz12 := (k6 (wmem_no rfl)).symm
          cases (show vq = none from hv)
          change Rn _ _ _ _ _ _ _ _ _ _ [] _ _
          refine n_go rfl ?_
          exact k_61_44_39 hd hc r18 h
theorem kl_61_18_39 {d d0 : Nat} (hd : d = d0 + 4) (hc : ∀ p ∈ s_w61, CTR (yex d) p.1 p.2)  {a2 : Int32} {sa : Int32} {sk : Int32} {sf : Int32} {sc : Int32} {sz : Int32} {Q : Option Value → sW → Prop}  (h : wl_61_18 (fun k => Tt d wrL (wk_61 39 k) (wk_61 39 k)) 39  a2 sa sk sf sc sz Q) : Rn d wrL (((82, 3), 39, [(82, 2, 43), (82, 1, 40), (82, 0, 39)]) : wW) (((82, 3), 39, [(82, 2, 43), (82, 1, 40), (82, 0, 39)]) : wW) xL_5 3 (none) xE_61 (xE_61.drop 18) [.ref 82, .ref 39, .int a2, .null, .null] [] (sa, sk, sf, sc, sz) Q := by
  obtain ⟨I, μ, h0, h1⟩ := h
  have key : ∀ (n : Nat) (a2 : Int32) (sa : Int32) (sk : Int32) (sf : Int32) (sc : Int32) (sz : Int32), μ a2 sa sk sf sc sz = n → I a2 sa sk sf sc sz → Rn d wrL (((82, 3), 39, [(82, 2, 43), (82, 1, 40), (82, 0, 39)]) : wW) (((82, 3), 39, [(82, 2, 43), (82, 1, 40), (82, 0, 39)]) : wW) xL_5 3 (none) xE_61 (xE_61.drop 18) [.ref 82, .ref 39, .int a2, .null, .null] [] (sa, sk, sf, sc, sz) Q := by
    intro n
    induction n using Nat.strongRecOn with
    | ind n ih =>
      intro a2 sa sk sf sc sz e hI
      exact k_61_18_39 hd hc (fun a2' sa' sk' sf' sc' sz' q => ih _ (by rw [← e]; exact q.2) a2' sa' sk' sf' sc' sz' rfl q.1) (h1 a2 sa sk sf sc sz hI)
  exact key _ a2 sa sk sf sc sz rfl h0
set_option maxRecDepth 20000 in
theorem k_61_0_39 {d d0 : Nat} (hd : d = d0 + 4) (hc : ∀ p ∈ s_w61, CTR (yex d) p.1 p.2)  {sa : Int32} {sk : Int32} {sf : Int32} {sc : Int32} {sz : Int32} {Q : Option Value → sW → Prop}  (h : w_61_0 (fun k => Tt d wrL (wk_61 39 k) (wk_61 39 k)) 39  sa sk sf sc sz Q) : Rn d wrL (((82, 3), 39, []) : wW) (((82, 3), 39, [(82, 2, 43), (82, 1, 40), (82, 0, 39)]) : wW) xL_5 3 (none) xE_61 (xE_61.drop 0) [.ref 82, .ref 39, .null, .null, .null] [] (sa, sk, sf, sc, sz) Q := by
  unfold w_61_0 at h
  refine n_ld rfl rfl rfl ?_
  refine n_ld rfl rfl rfl ?_
  refine n_put (a := 82) (w1 := (((82, 3), 39, [(82, 0, 39)]) : wW)) (s1 := (sa, sk, sf, sc, sz)) rfl rfl rfl rfl ⟨_, rfl, cmem_ok rfl⟩ rfl rfl rfl (Or.inr (Or.inl (by decide +kernel))) (ws_cf (w := (((82, 3), 39, []) : wW)) (s := (sa, sk, sf, sc, sz)) (a := 82) (k := 0) (b := 39) rfl) ?_
  refine n_ld rfl rfl rfl ?_
  refine n_ld rfl rfl rfl ?_
  refine n_get (v := .ref 39) rfl (hv_C (a := 82) (n := 0) rfl rfl rfl) ?_
  refine n_get (v := .ref 40) rfl (hv_R (a := 39) rfl rfl) ?_
  refine n_put (a := 82) (w1 := (((82, 3), 39, [(82, 1, 40), (82, 0, 39)]) : wW)) (s1 := (sa, sk, sf, sc, sz)) rfl rfl rfl rfl ⟨_, rfl, cmem_ok rfl⟩ rfl rfl rfl (Or.inr (Or.inl (by decide +kernel))) (ws_cf (w := (((82, 3), 39, [(82, 0, 39)]) : wW)) (s := (sa, sk, sf, sc, sz)) (a := 82) (k := 1) (b := 40) rfl) ?_
  refine n_ld rfl rfl rfl ?_
  refine n_ld rfl rfl rfl ?_
  refine n_get (v := .ref 40) rfl (hv_C (a := 82) (n := 0) rfl rfl rfl) ?_
  refine n_get (v := .ref 43) rfl (hv_R (a := 40) rfl rfl) ?_
  refine n_put (a := 82) (w1 := (((82, 3), 39, [(82, 2, 43), (82, 1, 40), (82, 0, 39)]) : wW)) (s1 := (sa, sk, sf, sc, sz)) rfl rfl rfl rfl ⟨_, rfl, cmem_ok rfl⟩ rfl rfl rfl (Or.inr (Or.inl (by decide +kernel))) (ws_cf (w := (((82, 3), 39, [(82, 1, 40), (82, 0, 39)]) : wW)) (s := (sa, sk, sf, sc, sz)) (a := 82) (k := 2) (b := 43) rfl) ?_
  refine n_ld rfl rfl rfl ?_
  refine n_c [.int 0, .ref 82] (xo_push (.int 0)) rfl rfl ?_
  refine n_put (a := 82) (w1 := (((82, 3), 39, [(82, 2, 43), (82, 1, 40), (82, 0, 39)]) : wW)) (s1 := (0, sk, sf, sc, sz)) rfl rfl rfl rfl ⟨_, rfl, by decide, by decide⟩ rfl rfl rfl (Or.inr (Or.inl (by decide +kernel))) (ws_at (w := (((82, 3), 39, [(82, 2, 43), (82, 1, 40), (82, 0, 39)]) : wW)) (s := (sa, sk, sf, sc, sz)) rfl) ?_
  refine n_c [.int 0] (xo_push (.int 0)) rfl rfl ?_
  refine n_st [.ref 82, .ref 39, .int 0, .null, .null] rfl rfl rfl ?_
  exact kl_61_18_39 hd hc  h
theorem t_61_39 {d : Nat} (hc : ∀ p ∈ s_w61, CTR (yex (d + 4)) p.1 p.2) {sa : Int32} {sk : Int32} {sf : Int32} {sc : Int32} {sz : Int32} {Q : Option Value → sW → Prop} (h : w_61_0 (fun k => Tt (d + 4) wrL (wk_61 39 k) (wk_61 39 k)) 39 sa sk sf sc sz Q) : Tt (d + 5) wrL (((82, 3), 39, []) : wW) (((82, 3), 39, [(82, 2, 43), (82, 1, 40), (82, 0, 39)]) : wW) 61 [.ref 82, .ref 39] (sa, sk, sf, sc, sz) Q := tt_of (E := xE_61) (L := xL_5) (ml := 3) (ret := none) rfl rfl rfl (k_61_0_39 rfl hc h)
