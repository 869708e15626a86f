/-! ===== the class: what its methods leave, as calls ===== -/
theorem s3_in {l : List (Nat × Nat × Nat)} : ∀ {c : List (Nat × Nat × Nat)}, (∀ p ∈ c, p ∈ l) → s3 l c = true
  | [], _ => rfl
  | q :: c, h => by
    unfold s3
    rw [Bool.and_eq_true]
    refine ⟨?_, s3_in (fun p hp => h p (List.mem_cons_of_mem _ hp))⟩
    have hq := h q List.mem_cons_self
    clear h
    induction l with
    | nil => exact absurd hq List.not_mem_nil
    | cons r l ih =>
      unfold m3
      rw [Bool.or_eq_true]
      rcases List.mem_cons.mp hq with rfl | hq
      · left
        rw [Nat.beq_refl, Nat.beq_refl, Nat.beq_refl]
        rfl
      · exact Or.inr (ih hq)
/-- deeper, with more known, more written -/
theorem leT {d d' : Nat} {W W' : List (Nat × Nat)} {a : Nat × Nat} {P : Nat} {c1 c : List (Nat × Nat × Nat)} (hd : d ≤ d') (h1 : s3 c c1 = true) (h2 : x3 W c1 c = true) (hW : wsub W W' = true) : ∀ j vs s Q, Tt d W (a, P, c1) (a, P, c1) j vs s Q → Tt d' W' (a, P, c) (a, P, c) j vs s Q := fun _ _ _ _ h => Tt.W (Tt_wk (Tt.mo hd h) h1 h2 (s3_in (fun _ hp => List.mem_append_left _ hp))) hW
section LE
variable {T T' : cTy} {P : Nat} {w : Int}
theorem BL_le (h : ∀ j vs s Q, T j vs s Q → T' j vs s Q) (H : BL T P) : BL T' P := fun k t sa sk sf sc sz Q a b c => h _ _ _ _ (H k t sa sk sf sc sz Q a b c)
theorem TL_le (h : ∀ j vs s Q, T j vs s Q → T' j vs s Q) (H : TL T w) : TL T' w := fun tk x sa sk sf sc sz Q a b c d e f g => h _ _ _ _ (H tk x sa sk sf sc sz Q a b c d e f g)
theorem KL_le (h : ∀ j vs s Q, T j vs s Q → T' j vs s Q) (H : KL T) : KL T' := fun t sa sk sf sc sz Q a b c => h _ _ _ _ (H t sa sk sf sc sz Q a b c)
theorem CL_le (h : ∀ j vs s Q, T j vs s Q → T' j vs s Q) (H : CL T P) : CL T' P := fun b1 b2 b3 b4 b5 b6 sa sk sf sc sz Q a b c d e => h _ _ _ _ (H b1 b2 b3 b4 b5 b6 sa sk sf sc sz Q a b c d e)
theorem VL_le (h : ∀ j vs s Q, T j vs s Q → T' j vs s Q) (H : VL T w) : VL T' w := fun x sa sk sf sc sz X Q a b c => h _ _ _ _ (H x sa sk sf sc sz X Q a b c)
theorem EF_le (h : ∀ j vs s Q, T j vs s Q → T' j vs s Q) (H : EF T) : EF T' := fun b sa sk sf sc sz Q p q => h _ _ _ _ (H b sa sk sf sc sz Q p q)
theorem SLs_le (h : ∀ j vs s Q, T j vs s Q → T' j vs s Q) (H : SLs T) : SLs T' := fun b sa sk sf sc sz Q p q r t => h _ _ _ _ (H b sa sk sf sc sz Q p q r t)
theorem TA_le (h : ∀ j vs s Q, T j vs s Q → T' j vs s Q) (H : TA T P) : TA T' P := fun sa sk sf sc sz Q p q r => h _ _ _ _ (H sa sk sf sc sz Q p q r)
theorem CKs_le (h : ∀ j vs s Q, T j vs s Q → T' j vs s Q) (H : CKs T P) : CKs T' P := fun sa sk sf sc sz Q p q r t => h _ _ _ _ (H sa sk sf sc sz Q p q r t)
theorem AR_le (h : ∀ j vs s Q, T j vs s Q → T' j vs s Q) (H : AR T P) : AR T' P := fun b sa sk sf sc sz Q p q r t => h _ _ _ _ (H b sa sk sf sc sz Q p q r t)
theorem BG_le (h : ∀ j vs s Q, T j vs s Q → T' j vs s Q) (H : BG T P) : BG T' P := fun sa sk sf sc sz Q p => h _ _ _ _ (H sa sk sf sc sz Q p)
theorem RTs_le (h : ∀ j vs s Q, T j vs s Q → T' j vs s Q) (H : RTs T) : RTs T' := fun b sa sk sf sc sz Q p q r t => h _ _ _ _ (H b sa sk sf sc sz Q p q r t)
end LE
section CN
theorem v_38 {P : Nat} (hP : P = 3 ∨ P = 39) {d : Nat} (hd : 5 ≤ d) {c : List (Nat × Nat × Nat)} (hc : x3 wgL [] c = true) : BL (Tt d wgL ((84, 5), P, c) ((84, 5), P, c)) P := by
  intro k t sa sk sf sc sz Q h1 h2 hq
  rcases hP with rfl | rfl
  · exact leT hd rfl hc (by decide +kernel) _ _ _ _ (t_38_3 (d := 0) a_nil (p_38 h1 h2 hq))
  · exact leT hd rfl hc (by decide +kernel) _ _ _ _ (t_38_39 (d := 0) a_nil (p_38 h1 h2 hq))
theorem v_132 {P : Nat} (hP : P = 3 ∨ P = 39) {D : Nat} (hD : 10 ≤ D) (hc : ∀ p ∈ s_w132, CTR (yex D) p.1 p.2) : ∀ (n : Nat) (w : Int), w + n = 11 → 1 ≤ w → TL (Tt (D + 1 + n) wgL (wk_132 P 0) (wk_132 P 0)) w := by
  intro n
  induction n with
  | zero =>
    intro w e h1 tk x sa sk sf sc sz Q a b c d e' f g
    obtain ⟨d', hd⟩ : ∃ d', D = d' + 4 := ⟨D - 4, by omega⟩
    subst hd
    rcases hP with rfl | rfl
    · exact t_132_3 (d := d') hc (p_132 (v_38 (Or.inl rfl) (by omega) (by decide +kernel)) (fun q => absurd q (by omega)) a b c d e' f (by omega) g)
    · exact t_132_39 (d := d') hc (p_132 (v_38 (Or.inr rfl) (by omega) (by decide +kernel)) (fun q => absurd q (by omega)) a b c d e' f (by omega) g)
  | succ n ih =>
    intro w e h1 tk x sa sk sf sc sz Q a b c d e' f g
    have r := ih (w + 1) (by omega) (by omega)
    obtain ⟨d', hd⟩ : ∃ d', D + (n + 1) = d' + 4 := ⟨D + (n + 1) - 4, by omega⟩
    have hc' : ∀ p ∈ s_w132, CTR (yex (d' + 4)) p.1 p.2 := fun p hp => CTR_mo (by omega) (hc p hp)
    rw [show D + 1 + n = d' + 4 by omega] at r
    rw [show D + 1 + (n + 1) = d' + 5 by omega]
    rcases hP with rfl | rfl
    · exact t_132_3 (d := d') hc' (p_132 (v_38 (Or.inl rfl) (by omega) (by decide +kernel)) (fun _ => r) a b c d e' f (by omega) g)
    · exact t_132_39 (d := d') hc' (p_132 (v_38 (Or.inr rfl) (by omega) (by decide +kernel)) (fun _ => r) a b c d e' f (by omega) g)
theorem v_132a {P : Nat} (hP : P = 3 ∨ P = 39) {D : Nat} (hD : 10 ≤ D) (hc : ∀ p ∈ s_w132, CTR (yex D) p.1 p.2) : ∀ (n : Nat) (w : Int), w + n = 11 → 1 ≤ w → TL (Tt (D + 1 + n) wgL (wk_132a P 0) (wk_132a P 0)) w := by
  intro n
  induction n with
  | zero =>
    intro w e h1 tk x sa sk sf sc sz Q a b c d e' f g
    obtain ⟨d', hd⟩ : ∃ d', D = d' + 4 := ⟨D - 4, by omega⟩
    subst hd
    rcases hP with rfl | rfl
    · exact t_132_3a (d := d') hc (p_132 (v_38 (Or.inl rfl) (by omega) (by decide +kernel)) (fun q => absurd q (by omega)) a b c d e' f (by omega) g)
    · exact t_132_39a (d := d') hc (p_132 (v_38 (Or.inr rfl) (by omega) (by decide +kernel)) (fun q => absurd q (by omega)) a b c d e' f (by omega) g)
  | succ n ih =>
    intro w e h1 tk x sa sk sf sc sz Q a b c d e' f g
    have r := ih (w + 1) (by omega) (by omega)
    obtain ⟨d', hd⟩ : ∃ d', D + (n + 1) = d' + 4 := ⟨D + (n + 1) - 4, by omega⟩
    have hc' : ∀ p ∈ s_w132, CTR (yex (d' + 4)) p.1 p.2 := fun p hp => CTR_mo (by omega) (hc p hp)
    rw [show D + 1 + n = d' + 4 by omega] at r
    rw [show D + 1 + (n + 1) = d' + 5 by omega]
    rcases hP with rfl | rfl
    · exact t_132_3a (d := d') hc' (p_132 (v_38 (Or.inl rfl) (by omega) (by decide +kernel)) (fun _ => r) a b c d e' f (by omega) g)
    · exact t_132_39a (d := d') hc' (p_132 (v_38 (Or.inr rfl) (by omega) (by decide +kernel)) (fun _ => r) a b c d e' f (by omega) g)
theorem v_92 {P : Nat} (hP : P = 3 ∨ P = 39) {D : Nat} (hD : 10 ≤ D) (hc : ∀ p ∈ s_w92, CTR (yex D) p.1 p.2) (hc' : ∀ p ∈ s_w83, CTR (yex D) p.1 p.2) : KL (Tt (D + 2) wgL (wk_92 P 0) (wk_92 P 0)) := by
  intro t sa sk sf sc sz Q a b g
  obtain ⟨d', hd⟩ : ∃ d', D = d' + 4 := ⟨D - 4, by omega⟩
  subst hd
  have hc2 : ∀ p ∈ s_w92, CTR (yex (d' + 1 + 4)) p.1 p.2 := fun p hp => CTR_mo (by omega) (hc p hp)
  rcases hP with rfl | rfl
  · exact t_92_3 (d := d' + 1) hc2 (p_92 a b (fun Q' h1 h2 => t_83_3 (d := d') hc' (p_83 h1 h2)) g)
  · exact t_92_39 (d := d' + 1) hc2 (p_92 a b (fun Q' h1 h2 => t_83_39 (d := d') hc' (p_83 h1 h2)) g)
theorem v_59 {P : Nat} (hP : P = 3 ∨ P = 39) {d : Nat} (hd : 5 ≤ d) : CL (Tt d wgL (wk_59 P 0) (wk_59 P 0)) P := by
  intro b1 b2 b3 b4 b5 b6 sa sk sf sc sz Q a b c e g
  refine Tt.mo hd ?_
  rcases hP with rfl | rfl
  · refine t_59_3 (d := 0) a_nil (p_59 a b c e (fun v c' Q' h1 h2 => ?_) g)
    refine Tt.W (Tt.imp (Tt.mo (by omega) (u_78 (d := 0) (w := wk_59 3 0) (by decide +kernel) (by decide +kernel) h1)) (fun r s1 h => ?_)) (by decide +kernel)
    obtain ⟨rfl, rfl⟩ := h
    exact h2
  · refine t_59_39 (d := 0) a_nil (p_59 a b c e (fun v c' Q' h1 h2 => ?_) g)
    refine Tt.W (Tt.imp (Tt.mo (by omega) (u_78 (d := 0) (w := wk_59 39 0) (by decide +kernel) (by decide +kernel) h1)) (fun r s1 h => ?_)) (by decide +kernel)
    obtain ⟨rfl, rfl⟩ := h
    exact h2
theorem v_9 {P : Nat} (hP : P = 3 ∨ P = 39) {D : Nat} (hD : 10 ≤ D) (hc : ∀ p ∈ s_w9, CTR (yex D) p.1 p.2) : VA (Tt (D + 1) wgL (wk_9 P 0) (wk_9 P 0)) := by
  intro sa sk sf sc sz Q a b c g
  obtain ⟨d', hd⟩ : ∃ d', D = d' + 4 := ⟨D - 4, by omega⟩
  subst hd
  have hcl := v_59 hP (d := d' + 4) (by omega)
  have hb := v_38 hP (d := d' + 4) (c := (wk_9 P 0).2.2) (by omega) (by rcases hP with rfl | rfl <;> decide +kernel)
  rcases hP with rfl | rfl
  · exact t_9_3 (d := d') hc (p_9 hb hcl a b c g)
  · exact t_9_39 (d := d') hc (p_9 hb hcl a b c g)
theorem v_12 {P : Nat} (hP : P = 3 ∨ P = 39) {D : Nat} (hD : 10 ≤ D) (hc : ∀ p ∈ s_w12, CTR (yex D) p.1 p.2) : FA (Tt (D + 1) wgL (wk_12 P 0) (wk_12 P 0)) := by
  intro b1 b2 sa sk sf sc sz Q a b c g
  obtain ⟨d', hd⟩ : ∃ d', D = d' + 4 := ⟨D - 4, by omega⟩
  subst hd
  have hcl := v_59 hP (d := d' + 4) (by omega)
  have hb := v_38 hP (d := d' + 4) (c := (wk_12 P 0).2.2) (by omega) (by rcases hP with rfl | rfl <;> decide +kernel)
  rcases hP with rfl | rfl
  · exact t_12_3 (d := d') hc (p_12 hb hcl a b c g)
  · exact t_12_39 (d := d') hc (p_12 hb hcl a b c g)
theorem v_6 {P : Nat} (hP : P = 3 ∨ P = 39) {D : Nat} (hD : 10 ≤ D) (hc : ∀ p ∈ s_w6, CTR (yex D) p.1 p.2) : EF (Tt (D + 1) wgL (wk_6 P 0) (wk_6 P 0)) := by
  intro b sa sk sf sc sz Q a g
  obtain ⟨d', hd⟩ : ∃ d', D = d' + 4 := ⟨D - 4, by omega⟩
  subst hd
  rcases hP with rfl | rfl
  · exact t_6_3 (d := d') hc (p_6 a g)
  · exact t_6_39 (d := d') hc (p_6 a g)
/-- tell, keep in the world of E -/
theorem v_TL {P : Nat} (hP : P = 3 ∨ P = 39) {D : Nat} (hD : 10 ≤ D) (hc : ∀ p ∈ s_w132, CTR (yex D) p.1 p.2) {d : Nat} (hd : D + 11 ≤ d) : TL (Tt d wgL (wk_7 P 0) (wk_7 P 0)) 1 := by
  have h := v_132 hP hD hc 10 1 (by omega) (by omega)
  rcases hP with rfl | rfl
  · exact TL_le (leT (by omega) (by decide +kernel) (by decide +kernel) (by decide +kernel)) h
  · exact TL_le (leT (by omega) (by decide +kernel) (by decide +kernel) (by decide +kernel)) h
theorem v_KL {P : Nat} (hP : P = 3 ∨ P = 39) {D : Nat} (hD : 10 ≤ D) (hc : ∀ p ∈ s_w92, CTR (yex D) p.1 p.2) (hc' : ∀ p ∈ s_w83, CTR (yex D) p.1 p.2) {d : Nat} (hd : D + 2 ≤ d) : KL (Tt d wgL (wk_7 P 0) (wk_7 P 0)) := by
  have h := v_92 hP hD hc hc'
  rcases hP with rfl | rfl
  · exact KL_le (leT (by omega) (by decide +kernel) (by decide +kernel) (by decide +kernel)) h
  · exact KL_le (leT (by omega) (by decide +kernel) (by decide +kernel) (by decide +kernel)) h
end CN
