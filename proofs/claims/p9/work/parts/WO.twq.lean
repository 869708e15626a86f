/-! ===== names told twice: the least token, pure ===== -/
/-- the first that is bad -/
def fT : List (Int × Bool) → Int
  | [] => 1000000
  | p :: l => if p.2 = true then p.1 else fT l
/-- the least of a set, or far beyond -/
def isMn (S : Int → Prop) (r : Int) : Prop := (r = 1000000 ∧ ∀ t, ¬ S t) ∨ (S r ∧ ∀ t, S t → r ≤ t)
/-- tokens in their order -/
def srB : Int → Int → List (Int × Bool) → Prop
  | lo, hi, [] => lo ≤ hi
  | lo, hi, p :: l => lo ≤ p.1 ∧ srB (p.1 + 1) hi l
/-- whether slot q' is one that q may not be named like -/
def mtQ (k sg : Int) (q : Int × Int × Int × Int) : Bool := decide (q.2.2.2 = sg ∧ (q.2.1 = k ∨ (k = 0 ∧ q.2.1 = 1)))
/-- slots with names that count, and whether each was told ahead -/
def twQ (W : Int → Int) (inF : Bool) : List (Int × Int × Int × Int) → List (Int × Int × Int × Int) → List (Int × Bool)
  | _, [] => []
  | pre, q :: l => (if 0 ≤ q.1 ∧ (inF = true ∨ ¬ q.2.1 = 3) then [(q.1, (pre.filter (mtQ q.2.1 q.2.2.2)).any (fun q' => decide (W q'.1 = W q.1)))] else []) ++ twQ W inF (pre ++ [q]) l
section WOT
variable {K L W : Int → Int} {lo hi mi : Int} {inF : Bool} {k sg : Int} {S : Int → Prop}
theorem frst_n {P : Int → Int} : ∀ (l : List (Int × Bool)) (φ : Int), ¬ φ = 0 → frst P l φ = φ
  | [], _, _ => rfl
  | p :: l, φ, h => by
    show frst P l (if φ = 0 ∧ p.2 = true then _ else φ) = φ
    rw [if_neg (fun e => h e.1)]
    exact frst_n l φ h
theorem frst_T {P : Int → Int} : ∀ l : List (Int × Bool), (∀ p ∈ l, p.1 < 1000000 ∧ 0 ≤ P p.1) → frst P l 0 = if fT l < 1000000 then 3 + 16 * P (fT l) else 0
  | [], _ => by
    show (0 : Int) = if (1000000 : Int) < 1000000 then _ else 0
    rw [if_neg (by decide)]
  | p :: l, h => by
    show frst P l (if (0 : Int) = 0 ∧ p.2 = true then 3 + 16 * P p.1 else 0) = if (if p.2 = true then p.1 else fT l) < 1000000 then 3 + 16 * P (if p.2 = true then p.1 else fT l) else 0
    have hp := h p List.mem_cons_self
    by_cases hb : p.2 = true
    · rw [if_pos ⟨rfl, hb⟩, if_pos hb, if_pos hp.1]
      exact frst_n l _ (by omega)
    · rw [if_neg (fun e => hb e.2), if_neg hb]
      exact frst_T l (fun q hq => h q (List.mem_cons_of_mem _ hq))
theorem srB_ge : ∀ {l : List (Int × Bool)} {lo hi : Int}, srB lo hi l → lo ≤ hi ∧ ∀ p ∈ l, lo ≤ p.1 ∧ p.1 < hi
  | [], lo, hi, h => ⟨h, fun p hp => absurd hp List.not_mem_nil⟩
  | q :: l, lo, hi, h => by
    obtain ⟨h1, h2⟩ := h
    obtain ⟨i1, i2⟩ := srB_ge h2
    refine ⟨by omega, fun p hp => ?_⟩
    rcases List.mem_cons.mp hp with e | hp
    · rw [e]
      omega
    · have := i2 p hp
      omega
theorem srB_lo {l : List (Int × Bool)} {lo' : Int} (hl : lo ≤ lo') (h : srB lo' hi l) : srB lo hi l := by
  cases l with
  | nil => exact Int.le_trans hl h
  | cons p l => exact ⟨Int.le_trans hl h.1, h.2⟩
theorem srB_app : ∀ {l l' : List (Int × Bool)} {lo mi hi : Int}, srB lo mi l → srB mi hi l' → srB lo hi (l ++ l')
  | [], l', lo, mi, hi, h, g => srB_lo h g
  | p :: l, l', lo, mi, hi, h, g => ⟨h.1, srB_app h.2 g⟩
theorem fT_mn : ∀ (l : List (Int × Bool)) (lo hi : Int), srB lo hi l → isMn (fun t => (t, true) ∈ l) (fT l)
  | [], lo, hi, _ => Or.inl ⟨rfl, fun t ht => absurd ht List.not_mem_nil⟩
  | p :: l, lo, hi, h => by
    obtain ⟨h1, h2⟩ := h
    have hg := (srB_ge h2).2
    show isMn _ (if p.2 = true then p.1 else fT l)
    by_cases hb : p.2 = true
    · rw [if_pos hb]
      refine Or.inr ⟨?_, fun t ht => ?_⟩
      · show (p.1, true) ∈ p :: l
        rw [← hb]
        exact List.mem_cons_self
      · rcases List.mem_cons.mp ht with e | ht
        · rw [← e]
          exact Int.le_refl _
        · have := (hg _ ht).1
          have h3 : p.1 + 1 ≤ t := this
          omega
    · rw [if_neg hb]
      have key : ∀ t, (t, true) ∈ p :: l ↔ (t, true) ∈ l := fun t => by
        refine ⟨fun ht => ?_, fun ht => List.mem_cons_of_mem _ ht⟩
        rcases List.mem_cons.mp ht with e | ht
        · rw [← e] at hb
          exact absurd rfl hb
        · exact ht
      rcases fT_mn l _ _ h2 with ⟨a1, a2⟩ | ⟨a1, a2⟩
      · exact Or.inl ⟨a1, fun t ht => a2 t ((key t).mp ht)⟩
      · exact Or.inr ⟨(key _).mpr a1, fun t ht => a2 t ((key t).mp ht)⟩
theorem isMn_one {r r' : Int} (hS : ∀ t, S t → t < 1000000) (h : isMn S r) (g : isMn S r') : r = r' := by
  rcases h with ⟨a1, a2⟩ | ⟨a1, a2⟩ <;> rcases g with ⟨b1, b2⟩ | ⟨b1, b2⟩
  · omega
  · exact absurd b1 (a2 _)
  · exact absurd a1 (b2 _)
  · have := a2 _ b1
    have := b2 _ a1
    omega
/-- the least of answers that are enough -/
theorem isMn_of {r : Int} {A : Int → Prop} (hS : ∀ t, S t → t < 1000000) (h1 : ∀ a, A a → a = 1000000 ∨ S a) (h2 : ∀ t, S t → ∃ a, A a ∧ a ≤ t) (hr : (r = 1000000 ∨ A r) ∧ r ≤ 1000000 ∧ ∀ a, A a → r ≤ a) : isMn S r := by
  obtain ⟨r1, r2, r3⟩ := hr
  by_cases h : r = 1000000
  · refine Or.inl ⟨h, fun t ht => ?_⟩
    obtain ⟨a, a1, a2⟩ := h2 t ht
    have := r3 a a1
    have := hS t ht
    omega
  · have hA : A r := by
      rcases r1 with e | e
      · exact absurd e h
      · exact e
    have hSr : S r := by
      rcases h1 r hA with e | e
      · exact absurd e h
      · exact e
    refine Or.inr ⟨hSr, fun t ht => ?_⟩
    obtain ⟨a, a1, a2⟩ := h2 t ht
    have := r3 a a1
    omega
theorem twQ_app : ∀ (l l' pre : List (Int × Int × Int × Int)), twQ W inF pre (l ++ l') = twQ W inF pre l ++ twQ W inF (pre ++ l) l'
  | [], l', pre => by
    rw [List.nil_append, List.append_nil]
    rfl
  | q :: l, l', pre => by
    show _ ++ twQ W inF (pre ++ [q]) (l ++ l') = (_ ++ twQ W inF (pre ++ [q]) l) ++ _
    rw [twQ_app l l' (pre ++ [q]), List.append_assoc, List.append_assoc, List.singleton_append]
/-- a block of names of one kind -/
theorem twQ_b {g : Int → Int} (hk : inF = true ∨ ¬ k = 3) : ∀ (l : List Int) (pre : List (Int × Int × Int × Int)), (∀ v ∈ l, 0 ≤ v) → twQ W inF pre (l.map (fun v => (v, k, g v, sg))) = tw1 W ((pre.filter (mtQ k sg)).map Prod.fst) l
  | [], pre, _ => rfl
  | v :: l, pre, h => by
    have h0 := h v List.mem_cons_self
    have ih := twQ_b (g := g) hk l (pre ++ [(v, k, g v, sg)]) (fun z hz => h z (List.mem_cons_of_mem _ hz))
    have em : mtQ k sg (v, k, g v, sg) = true := decide_eq_true ⟨rfl, Or.inl rfl⟩
    rw [List.filter_append, List.map_append] at ih
    have e1 : ([(v, k, g v, sg)] : List (Int × Int × Int × Int)).filter (mtQ k sg) = [(v, k, g v, sg)] := by
      rw [List.filter_cons, em]
      rfl
    rw [e1] at ih
    show (if 0 ≤ v ∧ (inF = true ∨ ¬ k = 3) then [(v, (pre.filter (mtQ k sg)).any (fun q' => decide (W q'.1 = W v)))] else []) ++ twQ W inF (pre ++ [(v, k, g v, sg)]) (l.map (fun v => (v, k, g v, sg))) = (v, anyW W ((pre.filter (mtQ k sg)).map Prod.fst) v) :: tw1 W ((pre.filter (mtQ k sg)).map Prod.fst ++ [v]) l
    rw [if_pos ⟨h0, hk⟩, ih]
    unfold anyW
    rw [List.any_map]
    rfl
theorem twQ_3 {g : Int → Int} (hF : inF = false) : ∀ (l : List Int) (pre : List (Int × Int × Int × Int)), twQ W inF pre (l.map (fun v => (v, 3, g v, sg))) = []
  | [], pre => rfl
  | v :: l, pre => by
    show (if 0 ≤ v ∧ (inF = true ∨ ¬ (3 : Int) = 3) then _ else []) ++ twQ W inF (pre ++ [(v, 3, g v, sg)]) (l.map (fun v => (v, 3, g v, sg))) = []
    rw [if_neg (fun e => by rcases e.2 with e | e; · rw [hF] at e; cases e
                            · exact e rfl), twQ_3 hF l]
    rfl
theorem twQ_r {pre : List (Int × Int × Int × Int)} {x : Int} : twQ W inF pre [(-1, 4, x, sg)] = [] := by
  show (if (0 : Int) ≤ -1 ∧ _ then _ else []) ++ [] = []
  rw [if_neg (fun e => absurd e.1 (by decide))]
  rfl
/-- slot j is bad -/
def bdQ (W : Int → Int) (inF : Bool) (l : List (Int × Int × Int × Int)) (j : Nat) : Prop := ∃ q, l[j]? = some q ∧ 0 ≤ q.1 ∧ (inF = true ∨ ¬ q.2.1 = 3) ∧ ∃ (j' : Nat) (q' : Int × Int × Int × Int), j' < j ∧ l[j']? = some q' ∧ q.2.2.2 = q'.2.2.2 ∧ (q.2.1 = q'.2.1 ∨ (q.2.1 = 0 ∧ q'.2.1 = 1)) ∧ W q'.1 = W q.1
theorem twQ_st : ∀ (m : Nat) (l : List (Int × Int × Int × Int)), m ≤ l.length → (∀ j, j < m → ¬ bdQ W inF l j) → fT (twQ W inF [] l) = fT (twQ W inF (l.take m) (l.drop m))
  | 0, l, _, _ => by rw [List.take_zero, List.drop_zero]
  | m + 1, l, hm, h => by
    rw [twQ_st m l (by omega) (fun j hj => h j (by omega))]
    obtain ⟨q, hq⟩ : ∃ q, l[m]? = some q := ⟨_, List.getElem?_eq_getElem (by omega)⟩
    have e1 : l.drop m = q :: l.drop (m + 1) := by
      rw [List.drop_eq_getElem_cons (by omega)]
      have := (List.getElem?_eq_some_iff.mp hq).2
      rw [this]
    have e2 : l.take (m + 1) = l.take m ++ [q] := by
      rw [List.take_succ, hq]
      rfl
    rw [e1, e2]
    show fT ((if 0 ≤ q.1 ∧ (inF = true ∨ ¬ q.2.1 = 3) then [(q.1, ((l.take m).filter (mtQ q.2.1 q.2.2.2)).any (fun q' => decide (W q'.1 = W q.1)))] else []) ++ twQ W inF (l.take m ++ [q]) (l.drop (m + 1))) = _
    by_cases hc : 0 ≤ q.1 ∧ (inF = true ∨ ¬ q.2.1 = 3)
    · rw [if_pos hc]
      have hf : ((l.take m).filter (mtQ q.2.1 q.2.2.2)).any (fun q' => decide (W q'.1 = W q.1)) = false := by
        cases e : ((l.take m).filter (mtQ q.2.1 q.2.2.2)).any (fun q' => decide (W q'.1 = W q.1)) with
        | false => rfl
        | true =>
          exfalso
          obtain ⟨q', k1, k2⟩ := List.any_eq_true.mp e
          obtain ⟨k3, k4⟩ := List.mem_filter.mp k1
          obtain ⟨j', j1, j2⟩ := List.mem_iff_getElem.mp k3
          have k5 := of_decide_eq_true k4
          have j3 : j' < m := by
            rw [List.length_take] at j1
            omega
          refine h m (by omega) ⟨q, hq, hc.1, hc.2, j', q', j3, ?_, k5.1.symm, ?_, of_decide_eq_true k2⟩
          · have : (l.take m)[j']? = some q' := by rw [List.getElem?_eq_getElem j1, j2]
            rw [List.getElem?_take, if_pos j3] at this
            exact this
          · rcases k5.2 with e | e
            · exact Or.inl e.symm
            · exact Or.inr e
      rw [hf]
      show (if (false : Bool) = true then _ else _) = _
      rw [if_neg (by decide)]
      rfl
    · rw [if_neg hc]
      rfl
theorem twQ_hit {l : List (Int × Int × Int × Int)} {m : Nat} {q : Int × Int × Int × Int} (hq : l[m]? = some q) (h : ∀ j, j < m → ¬ bdQ W inF l j) (hb : bdQ W inF l m) : fT (twQ W inF [] l) = q.1 := by
  have hm := (List.getElem?_eq_some_iff.mp hq).1
  rw [twQ_st m l (by omega) h]
  have e1 : l.drop m = q :: l.drop (m + 1) := by
    rw [List.drop_eq_getElem_cons hm]
    have := (List.getElem?_eq_some_iff.mp hq).2
    rw [this]
  rw [e1]
  obtain ⟨q0, g0, g1, g2, j', q', g3, g4, g5, g6, g7⟩ := hb
  rw [hq] at g0
  have e0 := Option.some.inj g0
  rw [← e0] at g1 g2 g5 g6 g7
  show fT ((if 0 ≤ q.1 ∧ (inF = true ∨ ¬ q.2.1 = 3) then [(q.1, ((l.take m).filter (mtQ q.2.1 q.2.2.2)).any (fun q' => decide (W q'.1 = W q.1)))] else []) ++ _) = _
  rw [if_pos ⟨g1, g2⟩]
  have hf : ((l.take m).filter (mtQ q.2.1 q.2.2.2)).any (fun q' => decide (W q'.1 = W q.1)) = true := by
    refine List.any_eq_true.mpr ⟨q', List.mem_filter.mpr ⟨?_, decide_eq_true ⟨g5.symm, ?_⟩⟩, decide_eq_true g7⟩
    · refine List.mem_of_getElem? (i := j') ?_
      rw [List.getElem?_take, if_pos g3]
      exact g4
    · rcases g6 with e | e
      · exact Or.inl e.symm
      · exact Or.inr e
  rw [hf]
  show (if (true : Bool) = true then q.1 else _) = _
  rw [if_pos rfl]
theorem twQ_none {l : List (Int × Int × Int × Int)} (h : ∀ j, j < l.length → ¬ bdQ W inF l j) : fT (twQ W inF [] l) = 1000000 := by
  rw [twQ_st l.length l (Nat.le_refl _) h, List.drop_length]
  rfl
end WOT
