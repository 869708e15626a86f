/-! ===== the cells behind the constructors ===== -/
theorem xex_le (d : Nat) : xLe (xex xsg xpr d) (yex d) := by
  induction d with
  | zero => intro i vs h res hh; cases hh
  | succ d ih =>
    intro i vs h res hh
    have hh : xen xsg xpr (xex xsg xpr d) i vs h = some res := hh
    cases hM : xsg i with
    | none =>
      unfold xen at hh
      rw [hM] at hh
      cases hh
    | some M =>
      obtain ⟨F, hF, hl, hr⟩ := xen_spec hh hM
      obtain ⟨L, ml, ret, ini, E, rfl⟩ := xpr_mk F (List.mem_of_getElem? hF)
      rw [xrun_it] at hr
      exact yex_of hM hF (Nat.ble_eq_true_of_le hl) (xst_le ih _ _ _ _ hr)
noncomputable def xr1 : xR := (xex xsg xpr 10 138 [.ref 0] [.inr (11, xdf11)]).getD (none, [], 0, 0)
noncomputable def xr2 : xR := (xex xsg xpr 10 153 [.ref 213] (xr1.2.1 ++ [.inr (12, xdf12)])).getD (none, [], 0, 0)
noncomputable def xh2 : xH := xr2.2.1
/-! a check of INV -/
def kB : cK → Value → Bool
  | .inr (.inr none), _ => true
  | .inl (lo, hi), .int x => decide (lo ≤ x.toInt) && decide (x.toInt ≤ hi)
  | .inr (.inl S), .ref a => cmem a S
  | _, _ => false
theorem kB_ok {K : cK} {v : Value} (h : kB K v = true) : qvK K v := by
  cases K using cKe with
  | u => trivial
  | i a b =>
    cases v with
    | int x =>
      have h : (decide (a ≤ x.toInt) && decide (x.toInt ≤ b)) = true := h
      rw [Bool.and_eq_true] at h
      exact ⟨x, rfl, of_decide_eq_true h.1, of_decide_eq_true h.2⟩
    | _ => cases h
  | r S =>
    cases v with
    | ref a => exact ⟨a, rfl, cmem_ok h⟩
    | _ => cases h
  | j => cases v <;> cases h
  | t => cases v <;> cases h
def ksB : List cK → List Value → Bool
  | [], [] => true
  | K :: Ks, v :: vs => kB K v && ksB Ks vs
  | _, _ => false
theorem ksB_ok : ∀ {Ks : List cK} {vs : List Value}, ksB Ks vs = true → vs.length = Ks.length ∧ ∀ (k : Nat) (K : cK), Ks[k]? = some K → ∃ v, vs[k]? = some v ∧ qvK K v
  | [], [], _ => ⟨rfl, fun k K h => by cases h⟩
  | [], v :: vs, h => by cases h
  | K :: Ks, [], h => by cases h
  | K :: Ks, v :: vs, h => by
    have h : (kB K v && ksB Ks vs) = true := h
    rw [Bool.and_eq_true] at h
    obtain ⟨i1, i2⟩ := ksB_ok h.2
    refine ⟨by rw [List.length_cons, List.length_cons, i1], fun k K' hk => ?_⟩
    cases k with
    | zero =>
      cases hk
      exact ⟨v, rfl, kB_ok h.1⟩
    | succ k => exact i2 k K' hk
def htB (h : xH) (a : Nat) : Bool := Nat.beq (oc a) 99 || (match h[a]? with
  | some (.inr q) => Nat.beq q.1 (oc a) && ksB (fk a) q.2
  | _ => false)
def ckB (a i : Nat) (x : Int32) : Bool := (decide ((ckR a).1 ≤ x.toInt) && decide (x.toInt ≤ (ckR a).2)) && (!(cod a) || decide (x.toInt < 2147483647))
theorem ckB_ok {a i : Nat} {x : Int32} (h : ckB a i x = true) : cki a i x := by
  unfold ckB at h
  rw [Bool.and_eq_true, Bool.and_eq_true, Bool.or_eq_true] at h
  refine ⟨⟨of_decide_eq_true h.1.1, of_decide_eq_true h.1.2⟩, fun hc _ => ?_⟩
  rcases h.2 with h2 | h2
  · rw [hc] at h2
    cases h2
  · exact of_decide_eq_true h2
/-- the first n -/
def aB (p : Nat → Bool) : Nat → Bool
  | 0 => true
  | n + 1 => p n && aB p n
theorem aB_ok {p : Nat → Bool} : ∀ {n i : Nat}, aB p n = true → i < n → p i = true
  | 0, i, _, h => absurd h (Nat.not_lt_zero i)
  | n + 1, i, h, hi => by
    have h : (p n && aB p n) = true := h
    rw [Bool.and_eq_true] at h
    by_cases e : i = n
    · rw [e]
      exact h.1
    · exact aB_ok h.2 (by omega)
def fulR (a : Nat) : Bool := (decide ((ckR a).1 = -2147483648) && decide ((ckR a).2 = 2147483647)) && !(cod a)
def rwB (h : xH) (a : Nat) : Bool := match h[a]? with
  | some (.inr (_, [.int l, .ref c, _])) => (decide (l = Int32.ofNat (lim a)) && Nat.beq c (a + 1)) && (match h[a + 1]? with
    | some (.inl (0, n, .inl f)) => (Nat.ble 9 n && (Nat.ble n (lim a) && Nat.blt (a + 1) 213)) && (fulR a || aB (fun i => ckB a i (f i)) n)
    | _ => false)
  | _ => false
theorem rwB_ok {h : xH} {a : Nat} (hb : rwB h a = true) : fld h a 0 = some (.int (Int32.ofNat (lim a))) ∧ ∃ n f, rc h a = some (a + 1, n, f) ∧ 9 ≤ n ∧ n ≤ lim a ∧ (a + 1 < 213) ∧ ∀ i, i < n → cki a i (f i) := by
  unfold rwB at hb
  split at hb
  · rename_i c0 l c z e
    rw [Bool.and_eq_true, Bool.and_eq_true] at hb
    obtain ⟨⟨b1, b2⟩, b3⟩ := hb
    have b1 := of_decide_eq_true b1
    have b2 := Nat.eq_of_beq_eq_true b2
    subst b1 b2
    split at b3
    · rename_i n f e2
      rw [Bool.and_eq_true, Bool.and_eq_true, Bool.and_eq_true, Bool.or_eq_true] at b3
      obtain ⟨⟨b4, b5, b6⟩, b7⟩ := b3
      refine ⟨by unfold fld; rw [e]; rfl, n, f, ?_, Nat.le_of_ble_eq_true b4, Nat.le_of_ble_eq_true b5, Nat.le_of_ble_eq_true b6, fun i hi => ?_⟩
      · unfold rc fld
        rw [e]
        dsimp only [List.getElem?_cons_succ, List.getElem?_cons_zero]
        rw [e2]
        rfl
      · rcases b7 with b7 | b7
        · unfold fulR at b7
          rw [Bool.and_eq_true, Bool.and_eq_true] at b7
          refine ⟨⟨?_, ?_⟩, fun hc => ?_⟩
          · rw [of_decide_eq_true b7.1.1]
            exact (f i).le_toInt
          · rw [of_decide_eq_true b7.1.2]
            exact Int.le_of_lt_add_one (f i).toInt_lt
          · rw [hc] at b7
            cases b7.2
        · exact ckB_ok (aB_ok b7 hi)
    · cases b3
  · cases hb
def rfEq : Option Nat → Nat → Bool
  | some a, b => Nat.beq a b
  | none, _ => false
def evB (h : xH) : Bool := match h[(110 : Nat)]? with
  | some (.inl (3, 42, .inr (.inr (.inr (.inr f))))) => aB (fun i => rfEq (f i) (113 + 2 * i)) 42
  | _ => false
theorem evB_ok {h : xH} (hb : evB h = true) : EVs h := by
  unfold evB at hb
  split at hb
  · rename_i f e
    refine ⟨f, e, fun i hi => ?_⟩
    have := aB_ok hb hi
    cases hf : f i with
    | none => rw [hf] at this; cases this
    | some a =>
      rw [hf] at this
      rw [Nat.eq_of_beq_eq_true this]
  · cases hb
def rnB (h : xH) : Nat := (rowL.map (fun a => fph (lim a) (rn h a))).sum
def invB (h : xH) : Bool := ((Nat.beq h.length 288 && aB (htB h) 213) && (rowL.all (rwB h) && evB h)) && Nat.ble (rnB h) 3000000
theorem invB_ok {h : xH} (hb : invB h = true) : INV h := by
  unfold invB at hb
  rw [Bool.and_eq_true, Bool.and_eq_true, Bool.and_eq_true, Bool.and_eq_true] at hb
  obtain ⟨⟨⟨b1, b2⟩, b3, b4⟩, b5⟩ := hb
  have hl := Nat.eq_of_beq_eq_true b1
  have hr : ∀ a ∈ rowL, rwB h a = true := fun a ha => List.all_eq_true.mp b3 a ha
  have hS : Sh h = 0 := by
    unfold Sh
    rw [List.drop_of_length_le (by omega)]
    rfl
  refine ⟨fun a ha hc => ?_, ⟨fun a ha => ?_, fun a ha a' ha' hne => ?_, by rw [hl, hS]; decide, ?_⟩, by omega, evB_ok b4⟩
  · have := aB_ok b2 ha
    unfold htB at this
    rw [Bool.or_eq_true] at this
    rcases this with q | q
    · exact absurd (Nat.eq_of_beq_eq_true q) hc
    · split at q
      · rename_i q' e
        rw [Bool.and_eq_true] at q
        obtain ⟨c, fs⟩ := q'
        have ec : c = oc a := Nat.eq_of_beq_eq_true q.1
        subst ec
        obtain ⟨k1, k2⟩ := ksB_ok q.2
        exact ⟨fs, e, k1, k2⟩
      · cases q
  · obtain ⟨r1, n, f, r2, r3, r4, r5, r6⟩ := rwB_ok (hr a ha)
    exact ⟨r1, a + 1, n, f, r2, r3, r4, Or.inl r5, r6⟩
  · obtain ⟨-, n, f, r2, -⟩ := rwB_ok (hr a ha)
    obtain ⟨-, n', f', r2', -⟩ := rwB_ok (hr a' ha')
    rw [r2, r2']
    intro w
    have w : a + 1 = a' + 1 := Option.some.inj w
    exact hne (by omega)
  · rw [hS, Nat.zero_add]
    exact Nat.le_of_ble_eq_true b5
/-! the reference's cells, as its state -/
def in0 (n : Nat) (f : Nat → Int32) : Nat → Int32 := fun i => if i < n then f i else 0
def in0L (n : Nat) (f : Nat → Int64) : Nat → Int64 := fun i => if i < n then f i else 0
def sOf (h : xH) : yS := (fun k => match fld h 213 k with
  | some (.int x) => x
  | _ => 0, fun p => match h[p]? with
  | some (.inl (_, n, .inl f)) => in0 n f
  | _ => fun _ => 0, fun p => match h[p]? with
  | some (.inl (_, n, .inr (.inl f))) => in0L n f
  | _ => fun _ => 0)
def fvB : Value → Value → Bool
  | .int _, .int _ => true
  | .ref a, .ref b => Nat.beq a b
  | _, _ => false
def fvsB : List Value → List Value → Bool
  | [], [] => true
  | v :: vs, w :: ws => fvB v w && fvsB vs ws
  | _, _ => false
def rcB (h : xH) (p : Nat) (q : Nat × Nat) : Bool := match h[p]? with
  | some (.inl (t, n, .inl _)) => (Nat.beq t q.1 && Nat.beq n q.2) && !(Nat.beq q.1 1)
  | some (.inl (t, n, .inr (.inl _))) => (Nat.beq t 1 && Nat.beq n q.2) && Nat.beq q.1 1
  | _ => false
def rcsB (h : xH) : Nat → List (Nat × Nat) → Bool
  | _, [] => true
  | p, q :: l => rcB h p q && rcsB h (p + 1) l
/-- 2 ^ k of them from lo on -/
def pB (p : Nat → Bool) : Nat → Nat → Bool
  | 0, lo => p lo
  | k + 1, lo => pB p k lo && pB p k (lo + 2 ^ k)
theorem pB_ok {p : Nat → Bool} : ∀ {k lo i : Nat}, pB p k lo = true → lo ≤ i → i < lo + 2 ^ k → p i = true
  | 0, lo, i, h, h1, h2 => by
    have : i = lo := by
      rw [Nat.pow_zero] at h2
      omega
    rw [this]
    exact h
  | k + 1, lo, i, h, h1, h2 => by
    have h : (pB p k lo && pB p k (lo + 2 ^ k)) = true := h
    rw [Bool.and_eq_true] at h
    rw [Nat.pow_succ] at h2
    by_cases hi : i < lo + 2 ^ k
    · exact pB_ok h.1 h1 hi
    · exact pB_ok h.2 (by omega) (by omega)
def zeB (h : xH) (p k : Nat) : Bool := match h[p]? with
  | some (.inl (_, n, .inl f)) => Nat.ble n (2 ^ k) && pB (fun i => Nat.beq (f i).toBitVec.toNat 0) k 0
  | _ => false
def i0B (h : xH) (a k : Nat) : Bool := match fld h a k with
  | some (.int x) => decide (x = 0)
  | _ => false
def refB (h : xH) : Bool := (match h[(213 : Nat)]? with
  | some (.inr (12, fs)) => fvsB yf fs
  | _ => false) && (rcsB h 214 yrt && (((i0B h 213 29 && (i0B h 213 2 && (i0B h 213 94 && (i0B h 213 120 && (i0B h 213 112 && i0B h 213 90))))) && (i0B h 3 10 && (i0B h 39 10 && i0B h 1 2)))))
noncomputable def xck : List Bool := [decide ((xex xsg xpr 10 138 [.ref 0] [.inr (11, xdf11)]).isSome = true), decide ((xex xsg xpr 10 153 [.ref 213] (xr1.2.1 ++ [.inr (12, xdf12)])).isSome = true), decide (xr1.1 = none), decide (xr1.2.1.length = 213), decide (xr1.2.2 = (212, 54083)), decide (xr2.1 = none), decide (xr2.2.2 = (74, 613545))]
theorem xck_all : xck.all (fun b => b) = true := by decide +kernel
theorem xe_7 : invB xh2 = true := by decide +kernel
theorem xe_8 : refB xh2 = true := by decide +kernel
theorem xe_9 : zeB xh2 264 18 = true := by decide +kernel
theorem xe_10 : zeB xh2 265 10 = true := by decide +kernel
