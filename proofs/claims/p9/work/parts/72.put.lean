/-! ===== put ===== -/
theorem seg_snoc {s : yS} {p l : Nat} : seg s p (l + 1) = seg s p l ++ [tyE s (p + l)] := seg_add
theorem seg_sa {s : yS} {p l i : Nat} {v : Int32} (h : p + l ≤ i ∨ i < p) : seg (sa s 264 i v) p l = seg s p l := seg_eq (fun j h1 h2 => by rw [sa_2, if_neg (fun e => by omega)])
/-- what put changes -/
def PF (P : Nat) (s s' : yS) : Prop := (∀ q i, ¬ (q = 264 ∧ P ≤ i ∧ i < P + 60) → s'.2.1 q i = s.2.1 q i) ∧ s'.2.2 = s.2.2 ∧ TYN s'
theorem PF_seg {P p l : Nat} {s s' : yS} (h : PF P s s') (hp : p + l ≤ P) : seg s' p l = seg s p l := seg_eq (fun i _ h2 => h.1 264 i (fun q => by omega))
theorem s_191 {d e p l P b0 b1 : Nat} {As Bs : List (List Nat)} {a1 a2 a3 : Int32} {s : yS} (hT : TYN s) (hG : GC s) (hP : (s.1 64).toInt = (P : Int)) (hV : EV s e P b0 As b1 Bs) (he : e < 300) (h1 : a1.toInt = (p : Int)) (h2 : a2.toInt = (l : Int)) (h3 : a3.toInt = (e : Int)) (hl : p + l ≤ P) (hP2 : P ≤ 199900) : Tot (d + 2) 191 [.ref 213, .int a1, .int a2, .int a3] s (fun v s' => ∃ x : Int32, v = some (.int x) ∧ PF P s s' ∧ (∀ k, k ∉ [64, 71, 72] → s'.1 k = s.1 k) ∧ ((x.toInt = 0 ∧ s'.1 = s.1 ∧ 60 < (subs (envS b0 As b1 Bs) (seg s p l)).length) ∨ (x.toInt = 1 ∧ ∃ N : Nat, N = (subs (envS b0 As b1 Bs) (seg s p l)).length ∧ N ≤ 60 ∧ s'.1 71 = s.1 64 ∧ (s'.1 72).toInt = (N : Int) ∧ (s'.1 64).toInt = (P : Int) + N ∧ seg s' P N = subs (envS b0 As b1 Bs) (seg s p l)))) := by
  obtain ⟨σ, hσ⟩ : ∃ σ, σ = envS b0 As b1 Bs := ⟨_, rfl⟩
  rw [← hσ]
  refine t_191 ?_
  refine ⟨fun b1' b2' b3' b4 b5 b6 t => b1' = a1 ∧ b2' = a2 ∧ b3' = a3 ∧ b4 = s.1 64 ∧ t.1 = s.1 ∧ PF P s t ∧ ∃ j N : Nat, b6.toInt = (p : Int) + j ∧ j ≤ l ∧ b5.toInt = (N : Int) ∧ N ≤ 60 ∧ N = (subs σ (seg s p j)).length ∧ seg t P N = subs σ (seg s p j), fun _ _ _ _ _ b6 _ => ((p : Int) + l - b6.toInt).toNat, ⟨rfl, rfl, rfl, rfl, rfl, ⟨fun _ _ _ => rfl, rfl, hT⟩, 0, 0, by omega, by omega, by decide, by decide, rfl, rfl⟩, ?_⟩
  rintro b1' b2' b3' b4 b5 b6 t ⟨e1, e2, e3, e4, te, hPF, j, N, h6, h7, h8, h9, h10, h11⟩
  have e1 := e1.symm
  have e2 := e2.symm
  have e3 := e3.symm
  subst e1 e2 e3 e4
  have hTt := hPF.2.2
  unfold w_191_7
  refine ⟨by omega, fun x1 hx1 => ⟨fun hend => ?_, fun hend => ?_⟩⟩
  · have jl : j = l := by omega
    subst jl
    rintro s2 rfl s3 rfl
    refine ⟨by omega, ?_⟩
    rintro x4 hx4 s5 rfl
    refine ⟨1, rfl, hPF, fun k hk => ?_, Or.inr ⟨by decide, N, h10, h9, ?_, ?_, ?_, ?_⟩⟩
    · rw [← te, sf_1, if_neg (fun w => hk (by rw [w]; decide)), sf_1, if_neg (fun w => hk (by rw [w]; decide)), sf_1, if_neg (fun w => hk (by rw [w]; decide))]
    · rfl
    · exact h8
    · show x4.toInt = _
      omega
    · rw [← h11]
      exact seg_eq (fun _ _ _ => rfl)
  · have jl : j < l := by omega
    have e6 : b6.toInt.toNat = p + j := by omega
    rw [e6]
    have tyEq : t.2.1 264 (p + j) = s.2.1 264 (p + j) := hPF.1 264 (p + j) (fun q => by omega)
    rw [tyEq]
    have hx := hT (p + j)
    obtain ⟨x, hxe⟩ : ∃ x : Nat, (s.2.1 264 (p + j)).toInt = (x : Int) := ⟨(s.2.1 264 (p + j)).toInt.toNat, by omega⟩
    have txe : tyE s (p + j) = x := by unfold tyE; omega
    refine ⟨by omega, ?_⟩
    refine Tot.imp (Tot.mono (by omega) (s_185 (d := 0) (by omega))) ?_
    rintro v s6 ⟨es, x8, rfl, hx8⟩
    have es := es.symm
    subst es
    refine ⟨x8, rfl, ?_⟩
    have EVt : EV t e P b0 As b1 Bs := by
      have tr : ∀ (i base : Nat) (Cs : List (List Nat)), EVg s i base P Cs → EVg t i base P Cs := by
        rintro i base Cs ⟨g1, g2, g3, g4⟩
        refine ⟨by rw [hPF.1 265 i (fun q => by omega)]; exact g1, by rw [hPF.1 266 i (fun q => by omega)]; exact g2, g3, fun a A hA => ?_⟩
        obtain ⟨w1, q, w2, w3, w4, w5⟩ := g4 a A hA
        exact ⟨w1, q, by rw [hPF.1 267 _ (fun q => by omega)]; exact w2, by rw [hPF.1 268 _ (fun q => by omega)]; exact w3, by rw [PF_seg hPF w5]; exact w4, w5⟩
      exact ⟨tr _ _ _ hV.1, tr _ _ _ hV.2⟩
    have GCt : GC t := fun i => by rw [hPF.1 265 i (fun q => by omega)]; exact hG i
    refine Tot.imp (Tot.mono (by omega) (s_192 (d := 0) (c := x / 8) EVt he (by rw [hx8, hxe]; omega) (by omega) h3 GCt)) ?_
    rintro v s9 ⟨es, x11, rfl, h11'⟩
    have es := es.symm
    subst es
    rw [← hσ] at h11'
    refine ⟨x11, rfl, ?_⟩
    have snoc : subs σ (seg s p (j + 1)) = subs σ (seg s p j) ++ sub σ x := by
      rw [seg_snoc, subs_app, txe, subs_cons]
      show _ ++ (sub σ x ++ []) = _
      rw [List.append_nil]
    -- the copying
    have go29 : ∀ t0 : Int32, t0.toInt = ((sub σ x).length : Int) → (sub σ x).length ≤ 300000 → ((0 ≤ x11.toInt ∧ x11.toInt < 3600 ∧ ∃ q : Nat, (t.2.1 267 x11.toInt.toNat).toInt = (q : Int) ∧ seg s q (sub σ x).length = sub σ x ∧ q + (sub σ x).length ≤ P) ∨ (¬ 0 ≤ x11.toInt ∧ sub σ x = [x])) → w_191_29 (Tot (d + 1)) (fun b1' b2' b3' b4 b5 b6' t' => (b1' = a1 ∧ b2' = a2 ∧ b3' = a3 ∧ b4 = s.1 64 ∧ t'.1 = s.1 ∧ PF P s t' ∧ ∃ j N : Nat, b6'.toInt = (p : Int) + j ∧ j ≤ l ∧ b5.toInt = (N : Int) ∧ N ≤ 60 ∧ N = (subs σ (seg s p j)).length ∧ seg t' P N = subs σ (seg s p j)) ∧ ((p : Int) + l - b6'.toInt).toNat < ((p : Int) + l - b6.toInt).toNat) a1 a2 a3 (s.1 64) b5 b6 x11 t0 t (fun v s' => ∃ x : Int32, v = some (.int x) ∧ PF P s s' ∧ (∀ k, k ∉ [64, 71, 72] → s'.1 k = s.1 k) ∧ ((x.toInt = 0 ∧ s'.1 = s.1 ∧ 60 < (subs σ (seg s p l)).length) ∨ (x.toInt = 1 ∧ ∃ N : Nat, N = (subs σ (seg s p l)).length ∧ N ≤ 60 ∧ s'.1 71 = s.1 64 ∧ (s'.1 72).toInt = (N : Int) ∧ (s'.1 64).toInt = (P : Int) + N ∧ seg s' P N = subs σ (seg s p l)))) := by
      intro t0 ht0 hbig hsrc
      obtain ⟨m, hm⟩ : ∃ m, m = (sub σ x).length := ⟨_, rfl⟩
      unfold w_191_29
      refine ⟨by omega, fun y1 hy1 => ⟨fun hle => ?_, fun hgt => ?_⟩⟩
      · refine ⟨fun d1 d2 d3 d4 d5 d6 d7 d8 d9 u => d1 = a1 ∧ d2 = a2 ∧ d3 = a3 ∧ d4 = s.1 64 ∧ d5 = b5 ∧ d6 = b6 ∧ d7 = x11 ∧ d8 = t0 ∧ u.1 = s.1 ∧ PF P s u ∧ u.2.1 267 = t.2.1 267 ∧ ∃ I : Nat, d9.toInt = (I : Int) ∧ I ≤ m ∧ seg u P (N + I) = subs σ (seg s p j) ++ (sub σ x).take I, fun _ _ _ _ _ _ _ _ d9 _ => ((m : Int) - d9.toInt).toNat, ⟨rfl, rfl, rfl, rfl, rfl, rfl, rfl, rfl, te, hPF, rfl, 0, by decide, by omega, by rw [List.take_zero, List.append_nil]; exact h11⟩, ?_⟩
        rintro d1 d2 d3 d4 d5 d6 d7 d8 d9 u ⟨q1, q2, q3, q4, q5, q6, q7, q8, ue, uPF, u67, I, hI, hIm, hseg⟩
        have q1 := q1.symm
        have q2 := q2.symm
        have q3 := q3.symm
        have q4 := q4.symm
        have q5 := q5.symm
        have q6 := q6.symm
        have q7 := q7.symm
        have q8 := q8.symm
        subst q1 q2 q3 q4 q5 q6 q7 q8
        unfold w_191_42
        refine ⟨fun hdone => ⟨by omega, fun z1 hz1 => ⟨by omega, fun z2 hz2 => ⟨⟨rfl, rfl, rfl, rfl, ue, uPF, j + 1, N + m, by omega, by omega, by omega, by omega, by rw [snoc, List.length_append, ← h10, ← hm], ?_⟩, ?_⟩⟩⟩, fun hmore => ⟨by omega, fun z3 hz3 => ⟨by omega, fun z4 hz4 => ?_⟩⟩⟩
        · have : I = m := by omega
          rw [this, hm, List.take_length] at hseg
          rw [snoc, hm]
          exact hseg
        · show ((p : Int) + l - z2.toInt).toNat < ((p : Int) + l - b6.toInt).toNat
          omega
        · have ez : z4.toInt.toNat = P + (N + I) := by omega
          have wr : ∀ val : Int32, 0 ≤ val.toInt → val.toInt ≤ 50000 → (sub σ x)[I]? = some val.toInt.toNat → w_191_68 (Tot (d + 1)) (fun b1' b2' b3' b4 b5 b6' t' => (b1' = a1 ∧ b2' = a2 ∧ b3' = a3 ∧ b4 = s.1 64 ∧ t'.1 = s.1 ∧ PF P s t' ∧ ∃ j N : Nat, b6'.toInt = (p : Int) + j ∧ j ≤ l ∧ b5.toInt = (N : Int) ∧ N ≤ 60 ∧ N = (subs σ (seg s p j)).length ∧ seg t' P N = subs σ (seg s p j)) ∧ ((p : Int) + l - b6'.toInt).toNat < ((p : Int) + l - b6.toInt).toNat) (fun d1 d2 d3 d4 d5 d6 d7 d8 d9' u' => (d1 = a1 ∧ d2 = a2 ∧ d3 = a3 ∧ d4 = s.1 64 ∧ d5 = b5 ∧ d6 = b6 ∧ d7 = x11 ∧ d8 = t0 ∧ u'.1 = s.1 ∧ PF P s u' ∧ u'.2.1 267 = t.2.1 267 ∧ ∃ I : Nat, d9'.toInt = (I : Int) ∧ I ≤ m ∧ seg u' P (N + I) = subs σ (seg s p j) ++ (sub σ x).take I) ∧ ((m : Int) - d9'.toInt).toNat < ((m : Int) - d9.toInt).toNat) a1 a2 a3 (s.1 64) b5 b6 x11 t0 d9 z4 val u (fun v s' => ∃ x : Int32, v = some (.int x) ∧ PF P s s' ∧ (∀ k, k ∉ [64, 71, 72] → s'.1 k = s.1 k) ∧ ((x.toInt = 0 ∧ s'.1 = s.1 ∧ 60 < (subs σ (seg s p l)).length) ∨ (x.toInt = 1 ∧ ∃ N : Nat, N = (subs σ (seg s p l)).length ∧ N ≤ 60 ∧ s'.1 71 = s.1 64 ∧ (s'.1 72).toInt = (N : Int) ∧ (s'.1 64).toInt = (P : Int) + N ∧ seg s' P N = subs σ (seg s p l)))) := by
            intro val v0 v1 hval
            unfold w_191_68
            refine ⟨by omega, ?_⟩
            rintro s1 rfl
            rw [ez]
            refine ⟨by omega, fun z5 hz5 => ⟨⟨rfl, rfl, rfl, rfl, rfl, rfl, rfl, rfl, ue, ⟨fun q i hq => ?_, uPF.2.1, fun i => ?_⟩, ?_, I + 1, by omega, by omega, ?_⟩, by omega⟩⟩
            · rw [sa_2, if_neg (fun w => hq ⟨w.1, by omega, by omega⟩)]
              exact uPF.1 q i hq
            · rw [sa_2]
              split
              · exact ⟨v0, v1⟩
              · exact uPF.2.2 i
            · rw [← u67]
              funext i
              rw [sa_2, if_neg (fun w => by omega)]
            · rw [show N + (I + 1) = (N + I) + 1 by omega, seg_snoc, seg_sa (Or.inl (Nat.le_refl _)), hseg, List.append_assoc]
              congr 1
              rw [List.take_add_one, hval]
              congr 1
              show [tyE (sa u 264 (P + (N + I)) val) (P + (N + I))] = [val.toInt.toNat]
              unfold tyE
              rw [sa_2, if_pos ⟨rfl, rfl⟩]
          refine ⟨fun hg => ?_, fun hg => ?_⟩
          · obtain ⟨s1, s2, q, s3, s4, s5⟩ := hsrc.resolve_right (fun w => w.1 hg)
            rw [u67]
            refine ⟨by omega, by omega, fun z5 hz5 => ⟨by omega, ?_⟩⟩
            have e5 : z5.toInt.toNat = q + I := by omega
            rw [e5]
            have hv := uPF.2.2 (q + I)
            refine wr _ hv.1 hv.2 ?_
            rw [← s4, seg_get (by omega), uPF.1 264 (q + I) (fun w => by omega)]
            rfl
          · have s1 := (hsrc.resolve_left (fun w => hg w.1)).2
            rw [e6]
            have hv := uPF.2.2 (p + j)
            refine ⟨by omega, wr _ hv.1 hv.2 ?_⟩
            have m1 : m = 1 := by rw [hm, s1]; rfl
            rw [s1, show I = 0 by omega, uPF.1 264 (p + j) (fun w => by omega)]
            show some x = some (s.2.1 264 (p + j)).toInt.toNat
            rw [hxe]
            rfl
      · rintro s2 rfl
        refine ⟨0, rfl, hPF, fun k hk => ?_, Or.inl ⟨by decide, ?_, ?_⟩⟩
        · rw [sf_1, if_neg (fun w => hk (by rw [w]; decide)), te]
        · have : sf t 64 (s.1 64) = t := by rw [← te, sf_id]
          rw [this]
          exact te
        · rw [show l = (j + 1) + (l - (j + 1)) by omega, seg_add, subs_app, List.length_append, snoc, List.length_append]
          omega
    refine ⟨fun hg => ?_, fun hg => ?_⟩
    · obtain ⟨s1, s2, A, s3, s4, q, s5, s6, s7, s8⟩ := h11'.resolve_left (fun w => by omega)
      have hsub : sub σ x = A := by unfold sub; rw [s3]
      refine ⟨by omega, go29 _ (by rw [s6, hsub]) (by rw [hsub]; omega) (Or.inl ⟨s1, s2, q, s5, ?_, by rw [hsub]; exact s8⟩)⟩
      rw [hsub, ← PF_seg hPF s8]
      exact s7
    · have hno := (h11'.resolve_right (fun w => hg w.1)).2
      have hsub : sub σ x = [x] := by unfold sub; rw [hno]
      exact go29 1 (by rw [hsub]; exact (show (1 : Int32).toInt = 1 by decide)) (by rw [hsub]; exact (show 1 ≤ 300000 by decide)) (Or.inr ⟨hg, hsub⟩)
