/-! ===== the class: a Row is written, a Row grows ===== -/
section ROW2
variable {d : Nat} {h : xH} {a c n : Nat} {f : Nat → Int32} {z : Value} {x : Int32}
theorem rc_inv {b : Nat} (e : rc h b = some (c, n, f)) : fld h b 1 = some (.ref c) ∧ h[c]? = some (.inl (0, n, .inl f)) := by
  unfold rc at e
  split at e
  · rename_i c' hc'
    split at e
    · rename_i n' f' hc2
      cases e
      exact ⟨hc', hc2⟩
    · cases e
  · cases e
theorem rc_mk {b : Nat} (e1 : fld h b 1 = some (.ref c)) (e2 : h[c]? = some (.inl (0, n, .inl f))) : rc h b = some (c, n, f) := by
  unfold rc
  rw [e1]
  dsimp only
  rw [e2]
  rfl
theorem map_set {α β : Type} (g : α → β) (e : α) : ∀ (l : List α) (k : Nat), (∀ q, l[k]? = some q → g e = g q) → (l.set k e).map g = l.map g
  | [], k, _ => rfl
  | q :: l, 0, hq => by
    show g e :: l.map g = g q :: l.map g
    rw [hq q rfl]
  | q :: l, k + 1, hq => by
    show g q :: (l.set k e).map g = g q :: l.map g
    rw [map_set g e l k (fun r hr => hq r hr)]
/-- one of a Row's cells is written -/
theorem wr_ok {i : Nat} (hI : INV h) (ha : a ∈ rowL) (e : rc h a = some (c, n, f)) (hx : cki a i x) : CST [(wc a, 1)] h (h.set c (.inl (0, n, .inl (upd f i x)))) 0 0 := by
  obtain ⟨hT, ⟨r1, r2, r3, r4⟩, hl, hE⟩ := hI
  obtain ⟨ef, ec⟩ := rc_inv e
  have hcl : c < h.length := (List.getElem?_eq_some_iff.mp ec).1
  have oth : ∀ b, ¬ b = c → (h.set c (.inl (0, n, .inl (upd f i x))))[b]? = h[b]? := fun b hb => by rw [List.getElem?_set_ne (Ne.symm hb)]
  have own : (h.set c (.inl (0, n, .inl (upd f i x))))[c]? = some (.inl (0, n, .inl (upd f i x))) := by rw [List.getElem?_set_self hcl]
  have flo : ∀ b q, fld (h.set c (.inl (0, n, .inl (upd f i x)))) b q = fld h b q := fun b q => by
    unfold fld
    by_cases eb : b = c
    · subst eb
      rw [own, ec]
    · rw [oth b eb]
  have rca : rc (h.set c (.inl (0, n, .inl (upd f i x)))) a = some (c, n, upd f i x) := rc_mk ((flo a 1).trans ef) own
  have rce : ∀ b ∈ rowL, ¬ b = a → rc (h.set c (.inl (0, n, .inl (upd f i x)))) b = rc h b := fun b hb hne => by
    obtain ⟨-, c', n', f', q1, -⟩ := r1 b hb
    have hd := r2 b hb a ha hne
    rw [q1, e] at hd
    obtain ⟨q2, q3⟩ := rc_inv q1
    rw [q1]
    refine rc_mk ((flo b 1).trans q2) ?_
    rw [oth c' (fun w => hd (by rw [w]; rfl))]
    exact q3
  have rcm : ∀ b ∈ rowL, (rc (h.set c (.inl (0, n, .inl (upd f i x)))) b).map (·.1) = (rc h b).map (·.1) := fun b hb => by
    by_cases eb : b = a
    · subst eb
      rw [rca, e]
      rfl
    · rw [rce b hb eb]
  have lenE : (h.set c (.inl (0, n, .inl (upd f i x)))).length = h.length := List.length_set
  have shE : Sh (h.set c (.inl (0, n, .inl (upd f i x)))) = Sh h := by
    unfold Sh
    rw [List.map_drop, List.map_drop, map_set clen _ h c (fun q hq => by
      rw [ec] at hq
      cases hq
      rfl)]
  have tcl : (100, 1) ∈ [(wc a, 1)] ∨ rc (h.set c (.inl (0, n, .inl (upd f i x)))) 1 = rc h 1 := by
    by_cases ea : a = 1
    · exact Or.inl (List.mem_singleton.mpr (by rw [ea]; decide +kernel))
    · exact Or.inr (rce 1 (show (1 : Nat) ∈ rowL from List.mem_cons_self) (fun w => ea w.symm))
  refine ⟨⟨fun b hb hbc => ?_, ⟨fun b hb => ?_, fun b hb b' hb' hne => ?_, by rw [lenE, shE]; exact r3, ?_⟩, by rw [lenE]; exact hl, EVs_of hE (oth 110 (fun w => by
      obtain ⟨g, g1, -⟩ := hE
      rw [w, ec] at g1
      cases g1))⟩, ⟨⟨fun b h1 h2 => oth b (fun w => ?_), Or.inr (fun P _ w => (flo P 14).symm.trans w), tcl⟩, fun b q _ _ => flo b q⟩, lenE, shE⟩
  · obtain ⟨fs, f1, f2⟩ := hT b hb hbc
    refine ⟨fs, ?_, f2⟩
    rw [oth b (fun w => by
      rw [w, ec] at f1
      cases f1)]
    exact f1
  · obtain ⟨q0, c', n', f', q1, q2, q3, q4, q5⟩ := r1 b hb
    refine ⟨(flo b 0).trans q0, ?_⟩
    by_cases eb : b = a
    · subst eb
      rw [e] at q1
      cases q1
      refine ⟨c, n, upd f i x, rca, q2, q3, q4, fun j hj => ?_⟩
      unfold upd
      split
      · rename_i ej
        rw [ej]
        exact hx
      · exact q5 j hj
    · exact ⟨c', n', f', (rce b hb eb).trans q1, q2, q3, q4, q5⟩
  · rw [rcm b hb, rcm b' hb']
    exact r2 b hb b' hb' hne
  · rw [shE]
    refine Nat.le_trans (Nat.add_le_add_left (Nat.le_of_eq ?_) _) r4
    refine congrArg List.sum (List.map_congr_left (fun b hb => ?_))
    unfold rn
    by_cases eb : b = a
    · subst eb
      rw [rca, e]
    · rw [rce b hb eb]
  · obtain ⟨-, c', n', f', q1, -, -, q4, -⟩ := r1 a ha
    rw [e] at q1
    cases q1
    omega
theorem sum_mo {a m : Nat} {F G : Nat → Nat} (ha : F a + m ≤ G a) : ∀ {l : List Nat}, (∀ b ∈ l, F b ≤ G b) → (l.map F).sum ≤ (l.map G).sum ∧ (a ∈ l → (l.map F).sum + m ≤ (l.map G).sum)
  | [], _ => ⟨Nat.le_refl _, fun w => absurd w List.not_mem_nil⟩
  | b :: l, hb => by
    obtain ⟨i1, i2⟩ := sum_mo ha (l := l) (fun q hq => hb q (List.mem_cons_of_mem _ hq))
    have hb0 := hb b List.mem_cons_self
    rw [List.map_cons, List.map_cons, List.sum_cons, List.sum_cons]
    refine ⟨by omega, fun w => ?_⟩
    rcases List.mem_cons.mp w with rfl | w
    · omega
    · have := i2 w
      omega
theorem fk_1 : ∀ b ∈ rowL, (fk b)[1]? = some (.inr (.inr none)) := by decide +kernel
set_option maxRecDepth 20000 in
/-- a Row grows -/
theorem grow_ok {m : Nat} {g : Nat → Int32} {h2 : xH} (hI : INV h) (ha : a ∈ rowL) (e1 : h[a]? = some (.inr (6, [.int (Int32.ofNat (lim a)), .ref c, z]))) (e : rc h a = some (c, n, f)) (hm : n < m ∧ m ≤ lim a ∧ (m = lim a ∨ 2 * n ≤ m)) (hg : ∀ i, i < m → cki a i (g i)) (e2 : h2 = ((h ++ [.inl (0, m, .inl g)] : xH)).set a (.inr (6, [.int (Int32.ofNat (lim a)), .ref h.length, z]))) : CST [(wc a, 1)] h h2 1 m ∧ rc h2 a = some (h.length, m, g) ∧ h2[a]? = some (.inr (6, [.int (Int32.ofNat (lim a)), .ref h.length, z])) ∧ h2[h.length]? = some (.inl (0, m, .inl g)) := by
  obtain ⟨hT, ⟨r1, r2, r3, r4⟩, hl, hE⟩ := hI
  have h6 := rowL_6 a ha
  obtain ⟨f1, f2, f3⟩ := fk_row a ha
  have hal : a < h.length := by omega
  obtain ⟨-, c0, n0, f0, k1, k2, k3, k4, k5⟩ := r1 a ha
  rw [e] at k1
  cases k1
  have own : h2[a]? = some (.inr (6, [.int (Int32.ofNat (lim a)), .ref h.length, z])) := by
    rw [e2, List.getElem?_set_self (by rw [List.length_append]; omega)]
  have oth : ∀ b, b < h.length → ¬ b = a → h2[b]? = h[b]? := fun b h1 h2' => by
    rw [e2, List.getElem?_set_ne (Ne.symm h2'), List.getElem?_append_left h1]
  have new : h2[h.length]? = some (.inl (0, m, .inl g)) := by
    rw [e2, List.getElem?_set_ne (by omega), List.getElem?_append_right (Nat.le_refl _), Nat.sub_self]
    rfl
  have flo : ∀ b q, b < h.length → ¬ (b = a ∧ q = 1) → fld h2 b q = fld h b q := fun b q h1 h2' => by
    unfold fld
    by_cases eb : b = a
    · subst eb
      rw [own, e1]
      dsimp only
      match q with
      | 0 => rfl
      | 1 => exact absurd ⟨rfl, rfl⟩ h2'
      | 2 => rfl
      | q + 3 => rfl
    · rw [oth b h1 eb]
  have fa : fld h2 a 1 = some (.ref h.length) := by
    unfold fld
    rw [own]
    rfl
  have rca : rc h2 a = some (h.length, m, g) := rc_mk fa new
  have lt : ∀ b ∈ rowL, ∀ c' n' f', rc h b = some (c', n', f') → c' < h.length := fun b _ c' n' f' q => (List.getElem?_eq_some_iff.mp (rc_inv q).2).1
  have rce : ∀ b ∈ rowL, ¬ b = a → rc h2 b = rc h b := fun b hb hne => by
    obtain ⟨-, c', n', f', q1, -⟩ := r1 b hb
    obtain ⟨q2, q3⟩ := rc_inv q1
    have hb' := (fk_row b hb).2.2
    rw [q1]
    refine rc_mk ((flo b 1 (by omega) (fun w => hne w.1)).trans q2) ?_
    rw [oth c' (lt b hb c' n' f' q1) (fun w => by
      rw [w, e1] at q3
      cases q3)]
    exact q3
  have lenE : h2.length = h.length + 1 := by
    rw [e2, List.length_set, List.length_append]
    rfl
  have shE : Sh h2 = Sh h + m := by
    unfold Sh
    rw [e2, List.drop_set, if_pos (by omega), List.drop_append_of_le_length (by omega), List.map_append, List.sum_append]
    rfl
  have tcl : (100, 1) ∈ [(wc a, 1)] ∨ rc h2 1 = rc h 1 := by
    by_cases ea : a = 1
    · exact Or.inl (List.mem_singleton.mpr (by rw [ea]; decide +kernel))
    · exact Or.inr (rce 1 (show (1 : Nat) ∈ rowL from List.mem_cons_self) (fun w => ea w.symm))
  have hfa : fph (lim a) m + m ≤ fph (lim a) n := by
    unfold fph
    rw [if_pos (by omega : n < lim a)]
    split
    · omega
    · omega
  refine ⟨⟨⟨fun b hb hbc => ?_, ⟨fun b hb => ?_, fun b hb b' hb' hne => ?_, by rw [lenE, shE]; omega, ?_⟩, by rw [lenE]; omega, EVs_of hE (oth 110 (by omega) (fun w => by rw [← w] at h6; exact absurd h6 (by decide)))⟩, ⟨⟨fun b q1 q2 => oth b (by omega) (by omega), Or.inr (fun P hP w => (flo P 14 (by omega) (fun w => absurd w.2 (by decide))).symm.trans w), tcl⟩, fun b q hb hW => flo b q (by omega) (fun w => hW (by rw [w.1, w.2]; exact List.mem_cons_self))⟩, lenE, shE⟩, rca, own, new⟩
  · by_cases eb : b = a
    · subst eb
      obtain ⟨fs, q1, q2, q3⟩ := hT b hb hbc
      rw [e1] at q1
      have q1 := Prod.mk.inj (Sum.inr.inj (Option.some.inj q1))
      obtain ⟨-, q1⟩ := q1
      refine ⟨[.int (Int32.ofNat (lim b)), .ref h.length, z], by rw [own, h6], f1.symm, fun k K hK => ?_⟩
      have old := q3 k K hK
      rw [← q1] at old
      match k, hK, old with
      | 0, _, old => exact old
      | 1, hK, _ =>
        rw [fk_1 b ha] at hK
        cases hK
        exact ⟨_, rfl, trivial⟩
      | 2, _, old => exact old
      | k + 3, _, old => exact old
    · rw [oth b (by omega) eb]
      exact hT b hb hbc
  · have hb' := (fk_row b hb).2.2
    obtain ⟨q0, c', n', f', q1, q2, q3, q4, q5⟩ := r1 b hb
    refine ⟨(flo b 0 (by omega) (fun w => absurd w.2 (by decide))).trans q0, ?_⟩
    by_cases eb : b = a
    · subst eb
      exact ⟨h.length, m, g, rca, by omega, hm.2.1, Or.inr hl, hg⟩
    · exact ⟨c', n', f', (rce b hb eb).trans q1, q2, q3, q4, q5⟩
  · by_cases eb : b = a
    · subst eb
      obtain ⟨-, c', n', f', q1, -⟩ := r1 b' hb'
      have := lt b' hb' c' n' f' q1
      rw [rca, rce b' hb' (fun w => hne w.symm), q1]
      intro w
      have w : h.length = c' := Option.some.inj w
      omega
    · by_cases eb' : b' = a
      · subst eb'
        obtain ⟨-, c', n', f', q1, -⟩ := r1 b hb
        have := lt b hb c' n' f' q1
        rw [rca, rce b hb eb, q1]
        intro w
        have w : c' = h.length := Option.some.inj w
        omega
      · rw [rce b hb eb, rce b' hb' eb']
        exact r2 b hb b' hb' hne
  · rw [shE]
    have ea : fph (lim a) (rn h2 a) + m ≤ fph (lim a) (rn h a) := by
      unfold rn
      rw [rca, e]
      exact hfa
    have := (sum_mo (a := a) (m := m) (F := fun b => fph (lim b) (rn h2 b)) (G := fun b => fph (lim b) (rn h b)) ea (l := rowL) (fun b hb => by
      by_cases eb : b = a
      · subst eb
        exact Nat.le_trans (Nat.le_add_right _ _) ea
      · show fph (lim b) (rn h2 b) ≤ fph (lim b) (rn h b)
        unfold rn
        rw [rce b hb eb]
        exact Nat.le_refl _)).2 ha
    omega
end ROW2
