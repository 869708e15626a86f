/-! ===== the reference: a state in which E are typed ===== -/
/-- what typing leaves where it was -/
def EFl (s s' : yS) : Prop := (s'.1 70 = s.1 70 ∧ s'.1 76 = s.1 76 ∧ s'.1 77 = s.1 77 ∧ s'.1 78 = s.1 78) ∧ ((s.1 65).toInt ≤ (s'.1 65).toInt ∧ (s.1 64).toInt ≤ (s'.1 64).toInt) ∧ (∀ j : Nat, ((j : Int) < (s.1 65).toInt ∨ (100000 ≤ (j : Int) ∧ (j : Int) < (s.1 64).toInt)) → s'.2.1 264 j = s.2.1 264 j) ∧ (∀ q j : Nat, (q = 265 ∨ q = 266) → (j : Int) < 2 * (s.1 70).toInt → s'.2.1 q j = s.2.1 q j) ∧ ∀ q j : Nat, (q = 267 ∨ q = 268) → (j : Int) < 12 * (s.1 70).toInt → s'.2.1 q j = s.2.1 q j
/-- nodes from x on, ahead of y, may be resolved, typed -/
def NFx (x y : Int) (s s' : yS) : Prop := ∀ q j : Nat, (q = 231 ∨ q = 232 ∨ q = 226 ∨ q = 230) → ¬ (x ≤ (j : Int) ∧ (j : Int) < y) → s'.2.1 q j = s.2.1 q j
/-- a TYPE at its place -/
def TYp (ar : Int → Int) (nT β0 β1 nX nY : Int) (s : yS) (p l : Int) (A : List Int) : Prop := (p + (A.length : Int) ≤ (s.1 65).toInt ∨ 100000 ≤ p) ∧ l = (A.length : Int) ∧ TYe ar nT β0 β1 nX nY (s.1 64).toInt s p A
/-- the VARS of the scope -/
def VSc (K L W ar : Int → Int) (TN Ls : List Int) (b β0 β1 : Int) (S : Scp) (s : yS) : Prop := ((s.1 78).toInt < 0 ∧ S.2.2.2.1 = []) ∨ ∃ (i : Nat) (t : Int), Ls[i]? = some t ∧ K t = 6 ∧ (s.1 78).toInt = 60 * b + (kFn K (Ls.take i) : Int) ∧ S.2.1 = fPa K L false (0, t) ∧ S.1 = h_f K L (0, (f_5 K L false (0, t)).2 + 1) ∧ S.2.2.2.1 = (f_1 K L false (0, t)).2 :: h_v K L (0, (f_5 K L false (0, t)).2 + 1) ∧ S.2.2.2.2 = (fcd K L W TN t :: (List.range (fPa K L false (0, t)).length).map (fun k : Nat => 24 + (k : Int))) :: (h_v K L (0, (f_5 K L false (0, t)).2 + 1)).map (fun v => wdC K L W ar TN S.1 S.2.1 (v + 1)) ∧ β0 = 4000 + 6 * (kFn K (Ls.take i) : Int) ∧ β1 = 2000 + 6 * (kHd K L (Ls.take i) : Int)
/-- the state -/
def EIn (K L W ar kd : Int → Int) (TN Ls : List Int) (n B b A0 x y β0 β1 : Int) (S : Scp) (s : yS) : Prop := RST K L W ar kd TN Ls n B b A0 x y s ∧ SCr B b s S.1 S.2.1 β0 β1 ∧ (A0 ≤ (s.1 65).toInt ∧ 100000 ≤ (s.1 64).toInt ∧ 0 ≤ (s.1 70).toInt) ∧ VSc K L W ar TN Ls b β0 β1 S s
/-- what the scope is in -/
def EWd (K L W ar kd : Int → Int) (TN Ls : List Int) (n lo hi B b β0 β1 : Int) (S : Scp) : Prop := PRm K L W ar kd n lo hi TN Ls ∧ SPr K ar n S.1 S.2.1 TN β0 β1 ∧ SPe ar (cfO K L W TN Ls) (kFn K Ls) (kHd K L Ls) (TN.length : Int) (hdd K L W ar TN Ls) (hbd K L Ls) (owd K L W TN Ls) (Bfd K L W ar TN Ls) β0 β1 (S.2.1.length : Int) (S.1.length : Int) S.2.2.1 ∧ 0 ≤ B ∧ 0 ≤ b
section ZKS
variable {K L W ar kd : Int → Int} {n lo hi B b A A' A0 T x y β0 β1 nT nX nY p l : Int} {TN Ls Z : List Int} {S : Scp} {D : Int → Prop} {s s' s'' : yS} {d : Nat} {a1 : Int32} {z z' t : Int}
theorem EFl_rf : EFl s s := ⟨⟨rfl, rfl, rfl, rfl⟩, ⟨Int.le_refl _, Int.le_refl _⟩, fun _ _ => rfl, fun _ _ _ _ => rfl, fun _ _ _ _ => rfl⟩
theorem EFl_tr (h : EFl s s') (g : EFl s' s'') : EFl s s'' := by
  obtain ⟨⟨h1, h2, h3, h4⟩, ⟨h5, h6⟩, h7, h8, h9⟩ := h
  obtain ⟨⟨g1, g2, g3, g4⟩, ⟨g5, g6⟩, g7, g8, g9⟩ := g
  rw [h1] at g8 g9
  exact ⟨⟨g1.trans h1, g2.trans h2, g3.trans h3, g4.trans h4⟩, ⟨by omega, by omega⟩, fun j hj => (g7 j (by omega)).trans (h7 j hj), fun q j hq hj => (g8 q j hq hj).trans (h8 q j hq hj), fun q j hq hj => (g9 q j hq hj).trans (h9 q j hq hj)⟩
theorem EFl_wf (h : WFr T A s s') (hT : (s.1 64).toInt = T) (he : (s.1 70).toInt = A) (he' : (s'.1 70).toInt = A) (hT' : T ≤ (s'.1 64).toInt) (hA : (s.1 65).toInt ≤ T) : EFl s s' := by
  obtain ⟨h1, -, -, h4, h5, h6⟩ := h
  refine ⟨⟨Int32.toInt_inj.mp (by omega), h1 76 (by decide) (by decide) (by decide) (by decide) (by decide) (by decide) (by decide), h1 77 (by decide) (by decide) (by decide) (by decide) (by decide) (by decide) (by decide), h1 78 (by decide) (by decide) (by decide) (by decide) (by decide) (by decide) (by decide)⟩, ⟨?_, by omega⟩, fun j hj => h4 j (by omega), fun q j hq hj => h5 q j hq (by omega), fun q j hq hj => h6 q j hq (by omega)⟩
  rw [h1 65 (by decide) (by decide) (by decide) (by decide) (by decide) (by decide) (by decide)]
  exact Int.le_refl _
theorem EFl_sf {k : Nat} {v : Int32} (h : k = 8 ∨ (71 ≤ k ∧ k ≤ 74) ∨ k = 80 ∨ k = 81 ∨ k = 85) : EFl s (sf s k v) := by
  refine ⟨⟨?_, ?_, ?_, ?_⟩, ⟨?_, ?_⟩, fun _ _ => rfl, fun _ _ _ _ => rfl, fun _ _ _ _ => rfl⟩ <;> rw [sfr_1, if_neg (by omega)] <;> exact Int.le_refl _
theorem EFl_8 (h : R8 s s') : EFl s s' := by
  obtain ⟨h1, h2⟩ := h
  refine ⟨⟨h2 70 (by decide), h2 76 (by decide), h2 77 (by decide), h2 78 (by decide)⟩, ⟨by rw [h2 65 (by decide)]; exact Int.le_refl _, by rw [h2 64 (by decide)]; exact Int.le_refl _⟩, fun j _ => by rw [h1], fun q j _ _ => by rw [h1], fun q j _ _ => by rw [h1]⟩
theorem EFl_sa {q i : Nat} {v : Int32} (h : ¬ (264 ≤ q ∧ q ≤ 268)) : EFl s (sa s q i v) := ⟨⟨rfl, rfl, rfl, rfl⟩, ⟨Int.le_refl _, Int.le_refl _⟩, fun j _ => by rw [sa_21, if_neg (by omega)], fun q' j hq _ => by rw [sa_21, if_neg (by omega)], fun q' j hq _ => by rw [sa_21, if_neg (by omega)]⟩
/-- top is put back -/
theorem EFl_top (h : EFl s s') : EFl s (sf s' 64 (s.1 64)) := by
  obtain ⟨⟨h1, h2, h3, h4⟩, ⟨h5, h6⟩, h7, h8, h9⟩ := h
  refine ⟨⟨?_, ?_, ?_, ?_⟩, ⟨?_, ?_⟩, h7, h8, h9⟩
  · rw [sfr_1, if_neg (by decide)]
    exact h1
  · rw [sfr_1, if_neg (by decide)]
    exact h2
  · rw [sfr_1, if_neg (by decide)]
    exact h3
  · rw [sfr_1, if_neg (by decide)]
    exact h4
  · rw [sfr_1, if_neg (by decide)]
    exact h5
  · rw [sfr_1, if_pos rfl]
    exact Int.le_refl _
theorem EF0_sf {k : Nat} {v : Int32} (h : fEx k) : EF0 D B A0 s (sf s k v) := ⟨fun q hq => by rw [sfr_1, if_neg (fun e => hq (by rw [e]; exact h))], rfl, fun _ _ => rfl, fun _ _ => rfl, fun _ _ => rfl, fun _ _ _ _ => rfl, fun _ _ => rfl⟩
theorem EF0_8 (h : R8 s s') : EF0 D B A0 s s' := ⟨fun q hq => h.2 q (fun e => hq (Or.inl e)), by rw [h.1], fun _ _ => by rw [h.1], fun _ _ => by rw [h.1], fun _ _ => by rw [h.1], fun _ _ _ _ => by rw [h.1], fun _ _ => by rw [h.1]⟩
/-- a row is written: many of a FIELD, typesMany of a VAR, what is kept of METHODS -/
theorem EF0_sa {q i : Nat} {v : Int32} (h : (q = 226 ∧ (s.2.1 221 i).toInt = 3) ∨ (q = 230 ∧ (s.2.1 221 i).toInt = 1) ∨ (270 ≤ q ∧ q ≤ 272)) : EF0 D B A0 s (sa s q i v) := by
  refine ⟨fun _ _ => rfl, rfl, fun q' hq' => funext fun j => ?_, fun j hj => ?_, fun j hj => ?_, fun q' j hq' _ => ?_, fun j _ => ?_⟩
  · unfold rEx at hq'
    rw [sa_21, if_neg (fun e => by omega)]
  · rw [sa_21, if_neg (fun e => ?_)]
    obtain ⟨e1, rfl⟩ := e
    omega
  · rw [sa_21, if_neg (fun e => ?_)]
    obtain ⟨e1, rfl⟩ := e
    omega
  · rw [sa_21, if_neg (fun e => by omega)]
  · rw [sa_21, if_neg (fun e => by omega)]
theorem NFx_rf : NFx x y s s := fun _ _ _ _ => rfl
theorem NFx_tr {x' y' x1 y1 : Int} (h : NFx x y s s') (g : NFx x' y' s' s'') (h1 : x1 ≤ x ∧ y ≤ y1) (h2 : x1 ≤ x' ∧ y' ≤ y1) : NFx x1 y1 s s'' := fun q j hq hj => (g q j hq (by omega)).trans (h q j hq (by omega))
theorem NFx_mo {x1 y1 : Int} (h : NFx x y s s') (h1 : x1 ≤ x ∧ y ≤ y1) : NFx x1 y1 s s' := fun q j hq hj => h q j hq (by omega)
theorem NFx_sf {k : Nat} {v : Int32} : NFx x y s (sf s k v) := fun _ _ _ _ => rfl
theorem NFx_8 (h : R8 s s') : NFx x y s s' := fun _ _ _ _ => by rw [h.1]
theorem NFx_sa {q i : Nat} {v : Int32} (h : ¬ q = 231 ∧ ¬ q = 232 ∧ ¬ q = 226 ∧ ¬ q = 230) : NFx x y s (sa s q i v) := fun q' j hq _ => by rw [sa_21, if_neg (by omega)]
theorem NFx_wf (h : WFr T A s s') : NFx x y s s' := fun q j hq _ => h.2.2.1 q j (by omega)
theorem TYp_f (h : EFl s s') (g : TYp ar nT β0 β1 nX nY s p l Z) : TYp ar nT β0 β1 nX nY s' p l Z := by
  obtain ⟨g1, g2, ⟨g3, g4⟩, g5, g6⟩ := g
  obtain ⟨-, ⟨h5, h6⟩, h7, -, -⟩ := h
  refine ⟨by omega, g2, ⟨g3, by omega⟩, fun i c hc => ?_, g6⟩
  have hi := (List.getElem?_eq_some_iff.mp hc).1
  rw [List.length_map] at hi
  rw [← g5 i c hc, KI_p (by omega), KI_p (by omega), h7 _ (by omega)]
theorem TYp_e (g : TYp ar nT β0 β1 nX nY s p l Z) (hT : (s.1 64).toInt = T) : TYe ar nT β0 β1 nX nY T s p Z := by
  rw [← hT]
  exact g.2.2
theorem RST_A (hS : RST K L W ar kd TN Ls n B b A x y s) (hA : A ≤ A') : RST K L W ar kd TN Ls n B b A' x y s := by
  obtain ⟨h1, h2, h3, h4, h5, h6, h7⟩ := hS
  refine ⟨h1, h2, fun i t ht => ⟨fun hk => ?_, fun hk => ?_⟩, h4, h5, by omega, h7⟩
  · obtain ⟨k1, k2⟩ := (h3 i t ht).1 hk
    exact ⟨RSn_A2 hA k1, k2⟩
  · obtain ⟨k1, k2, k3⟩ := (h3 i t ht).2 hk
    exact ⟨fun i u hu => RSn_A (k1 i u hu) hA, fun hs i u hu => RSn_A (k2 hs i u hu) hA, fun hs i q hq => RSn_A2 hA (k3 hs i q hq)⟩
theorem SCr_f (h : EF0 D B A0 s s') (g : EFl s s') {hf tp : List Int} (k : SCr B b s hf tp β0 β1) : SCr B b s' hf tp β0 β1 := by
  have r : ∀ q, ¬ rEx q → s'.2.1 q = s.2.1 q := h.2.2.1
  obtain ⟨-, g2, g3, g4⟩ := g.1
  unfold SCr NTr at *
  rw [g2, g3, g4, h.1 75 (by unfold fEx; omega), r 245 (by unfold rEx; omega), r 246 (by unfold rEx; omega), r 236 (by unfold rEx; omega), r 237 (by unfold rEx; omega), r 255 (by unfold rEx; omega), r 256 (by unfold rEx; omega)]
  exact k
theorem EIn_f (hW : PRm K L W ar kd n lo hi TN Ls) (h : EF0 (nsD K L Ls) B A0 s s') (g : EFl s s') (k : EIn K L W ar kd TN Ls n B b A0 x y β0 β1 S s) : EIn K L W ar kd TN Ls n B b A0 x y β0 β1 S s' := by
  obtain ⟨k1, k2, k3, k4⟩ := k
  refine ⟨RST_e hW h k1, SCr_f h g k2, ?_, ?_⟩
  · have := g.2.1
    have e := g.1.1
    rw [e]
    omega
  · unfold VSc at *
    rw [g.1.2.2.2]
    exact k4
end ZKS
