/-! ===== cells by their places, an executor over them, and what its run says of the machine ===== -/
/-- a cell: an array by a tag of its class, or an object by the number of its class; a reference is the place of a cell, or 1000000 and more: a text -/
abbrev xE : Type := (Nat × vp_A) ⊕ (Nat × List Value)
abbrev xH : Type := List xE
/-- locals, stack, cells, how many cells and slots were made -/
abbrev xS : Type := List (Nat × Value) × List Value × xH × Nat × Nat
/-- an answer, cells, how many cells and slots were made -/
abbrev xR : Type := Option Value × xH × Nat × Nat
abbrev xC : Type := Nat → List Value → xH → Option xR
/-- an instruction: on to the next (none) or to a place of the code, or back -/
abbrev xF : Type := xC → xS → Option ((Option Nat × xS) ⊕ xR)
abbrev xK : Type := List (Nat × xF)
def xad (b : Nat) (aS : Nat → Nat) (k : Nat) : Nat := if k < 1000000 then b + k else aS (k % 1000000)
def xv (b : Nat) (aS : Nat → Nat) : Value → Value
  | .ref k => .ref (xad b aS k)
  | v => v
def xa (b : Nat) (aS : Nat → Nat) (a : vp_A) : vp_A := (a.1, match a.2 with
  | .inl f => .inl f
  | .inr (.inl f) => .inr (.inl f)
  | .inr (.inr (.inl f)) => .inr (.inr (.inl f))
  | .inr (.inr (.inr (.inl f))) => .inr (.inr (.inr (.inl f)))
  | .inr (.inr (.inr (.inr f))) => .inr (.inr (.inr (.inr (fun j => (f j).map (xad b aS))))))
def xc (b : Nat) (aS : Nat → Nat) (cT : Nat → ClassId) : xE → va_E
  | .inl q => .inl (cT q.1, xa b aS q.2)
  | .inr q => .inr (q.1, q.2.map (xv b aS))
def xw (b : Nat) (aS : Nat → Nat) (cT : Nat → ClassId) (h : xH) : va_W := h.mapIdx (fun k c => (b + k, xc b aS cT c))
abbrev xA (b : Nat) : Nat → Prop := fun q => b ≤ q
theorem xw_get {b : Nat} {aS : Nat → Nat} {cT : Nat → ClassId} {h : xH} (k : Nat) : (xw b aS cT h)[k]? = (h[k]?).map (fun c => (b + k, xc b aS cT c)) := by
  simp [xw, List.getElem?_mapIdx]
theorem xw_at {b : Nat} {aS : Nat → Nat} {cT : Nat → ClassId} {h : xH} {k : Nat} {c : xE} (hk : h[k]? = some c) : (xw b aS cT h)[k]? = some (b + k, xc b aS cT c) := by
  rw [xw_get, hk]; rfl
theorem xw_set {b : Nat} {aS : Nat → Nat} {cT : Nat → ClassId} {h : xH} {k : Nat} {c : xE} {q : Nat × va_E} (hq : (b + k, xc b aS cT c) = q) : (xw b aS cT h).set k q = xw b aS cT (h.set k c) := by
  subst hq
  apply List.ext_getElem?
  intro i
  rw [xw_get, List.getElem?_set, List.getElem?_set, xw_get]
  by_cases hki : k = i
  · subst hki
    have hl : (xw b aS cT h).length = h.length := by simp [xw]
    rw [if_pos rfl, if_pos rfl, hl]
    by_cases hlt : k < h.length
    · rw [if_pos hlt, if_pos hlt]; rfl
    · rw [if_neg hlt, if_neg hlt]; rfl
  · rw [if_neg hki, if_neg hki]
theorem xw_push {b : Nat} {aS : Nat → Nat} {cT : Nat → ClassId} {h : xH} {c : xE} {q : Nat × va_E} (hq : (b + h.length, xc b aS cT c) = q) : xw b aS cT h ++ [q] = xw b aS cT (h ++ [c]) := by
  subst hq
  simp [xw]
theorem xw_D {b : Nat} {aS : Nat → Nat} {cT : Nat → ClassId} {h : xH} : va_D (xA b) (xw b aS cT h) := by
  have key : ∀ (i : Nat) (q : Nat × va_E), (xw b aS cT h)[i]? = some q → q.1 = b + i := by
    intro i q hq
    rw [xw_get] at hq
    obtain ⟨c, -, e⟩ := Option.map_eq_some_iff.mp hq
    rw [← e]
  refine ⟨fun i j p q hi hj hpq => ?_, fun k q hk => ?_⟩
  · have h1 := key i p hi
    have h2 := key j q hj
    omega
  · have h1 := key k q hk
    show b ≤ q.1
    omega
theorem xad_lt {b k : Nat} {aS : Nat → Nat} (h : k < 1000000) : xad b aS k = b + k := if_pos h
theorem xv_ref {b k : Nat} {aS : Nat → Nat} (h : k < 1000000) : xv b aS (.ref k) = .ref (b + k) := by
  show Value.ref (xad b aS k) = _
  rw [xad_lt h]
theorem xv_str {b k : Nat} {aS : Nat → Nat} (hk : k < 1000000) : xv b aS (.ref (1000000 + k)) = .ref (aS k) := by
  show Value.ref (xad b aS (1000000 + k)) = _
  rw [xad, if_neg (by omega), Nat.add_mod_left, Nat.mod_eq_of_lt hk]
theorem xv_cat {b : Nat} {aS : Nat → Nat} (v : Value) : (xv b aS v).category = v.category := by cases v <;> rfl
/-- the heap holds the cells; nothing else has changed since the method began -/
def xI (b : Nat) (aS : Nat → Nat) (D : va_G) (cT : Nat → ClassId) (s : State) (H : Heap) (locs : List Loc) (h : xH) : Prop :=
  h.length ≤ 1000000 ∧ H.size = b + h.length ∧ va_P D vwCl (xw b aS cT h) H ∧ va_S (xA b) s.heap H locs
def xtys (cT : Nat → ClassId) : List (ClassId × FieldType) := [(cT 0, .int), (cT 1, .long), (cT 2, .boolean), (cT 3, .object RX6)]
/-- the text of the words that are kept -/
def xtx : String := "type struct interface func return main "
def xby : List Int32 := [116, 121, 112, 101, 32, 115, 116, 114, 117, 99, 116, 32, 105, 110, 116, 101, 114, 102, 97, 99, 101, 32, 102, 117, 110, 99, 32, 114, 101, 116, 117, 114, 110, 32, 109, 97, 105, 110, 32]
/-- the texts: whose constants they are, how long, their bytes -/
def xsr : List (String × Nat × String) := [(RX12, 32, xtx), (RX9, 87, "type"), (RX9, 93, "struct"), (RX9, 95, "interface"), (RX9, 97, "func"), (RX9, 99, "return"), (RX9, 101, "main")]
def xsl : List Nat := [39, 4, 6, 9, 4, 6, 4]
def xsb : List (List Int32) := [xby, [116, 121, 112, 101], [115, 116, 114, 117, 99, 116], [105, 110, 116, 101, 114, 102, 97, 99, 101], [102, 117, 110, 99], [114, 101, 116, 117, 114, 110], [109, 97, 105, 110]]
def xStr (b : Nat) (aS : Nat → Nat) (U : State) (H : Heap) : Prop :=
  (∀ (k : Nat) (q : String × Nat × String), xsr[k]? = some q → vk_R q.1 q.2.1 q.2.2 (aS k) U) ∧ va_Z "java/lang/String" "COMPACT_STRINGS" "Z" (.int 1) (xA b) U H ∧ va_Zq "jdk/internal/util/Preconditions" "SIOOBE_FORMATTER" "Ljava/util/function/BiFunction;" (xA b) U H ∧ ∃ adV : Nat → Nat, vk_S 7 xsl xsb aS adV (xA b) U H
/-- links between nest mates: they hold in every state, but go by no word list -/
def xN : List Cond := lw_tbl.filter (fun w => match w with
  | .fieldLinkNest .. => true
  | .methodLinkNest .. => true
  | _ => false)
/-- what holds of every state: classes, arrays' classes, nest mates, the text -/
def xG (b : Nat) (aS : Nat → Nat) (D : va_G) (cT : Nat → ClassId) (U : State) : Prop :=
  va_K D vwCl (xtys cT) U ∧ (∀ w ∈ xN, va_Nw w U) ∧ va_AO RX6 U ∧ b ≤ U.heap.size ∧ xStr b aS U U.heap
theorem xN_warm {s U : State} (hW : s.WarmedH U.vm) (h : ∀ w ∈ xN, va_Nw w s) : ∀ w ∈ xN, va_Nw w U := by
  intro w hw
  have hs := h w hw
  have h2 := (List.mem_filter.mp hw).2
  cases w <;> first | exact va_Nw.warmF hW hs | exact va_Nw.warmM hW hs | (simp at h2; done)
theorem xN_same {u U : State} (hv : u.vm = U.vm) (h : ∀ w ∈ xN, va_Nw w u) : ∀ w ∈ xN, va_Nw w U := by
  intro w hw
  have hs := h w hw
  have h2 := (List.mem_filter.mp hw).2
  cases w <;> first | exact va_Nw.same rfl hv hs | (simp at h2; done)
theorem xStr_kept {b : Nat} {aS : Nat → Nat} {U : State} {H H1 : Heap} (h : xStr b aS U H) (hq : ∀ a : Nat, a < H.size → ¬ xA b a → H1[a]? = H[a]?) : xStr b aS U H1 := by
  obtain ⟨h1, h2, h3, adV, h5⟩ := h
  refine ⟨h1, h2.kept hq, ?_, adV, h5.kept hq⟩
  rcases h3 with h3 | ⟨t, h3⟩
  · exact Or.inl (h3.kept hq)
  · exact Or.inr ⟨t, h3.kept hq⟩
theorem xStr_warm {b : Nat} {aS : Nat → Nat} {s U : State} {H : Heap} (hW : s.WarmedH U.vm) (h : xStr b aS s H) : xStr b aS U H := by
  obtain ⟨h1, h2, h3, adV, h5⟩ := h
  exact ⟨fun k q hk => vk_R.warm hW (h1 k q hk), h2.moved hW.alike, va_Zq.moved hW.alike h3, adV, h5.moved hW.alike⟩
theorem xStr_same {b : Nat} {aS : Nat → Nat} {u U : State} {H : Heap} (hv : U.vm = u.vm) (h : xStr b aS u H) : xStr b aS U H := by
  obtain ⟨h1, h2, h3, adV, h5⟩ := h
  have hA : u.vm.Alike U.vm := by rw [hv]; exact Vm.Alike.refl _
  exact ⟨fun k q hk => vk_R.same hv (h1 k q hk), h2.moved hA, va_Zq.moved hA h3, adV, h5.moved hA⟩
/-- what a callee is given -/
theorem xG_call {b : Nat} {aS : Nat → Nat} {D : va_G} {cT : Nat → ClassId} {s U : State} {H : Heap} {locs : List Loc} (h : xG b aS D cT s) (hS : va_S (xA b) s.heap H locs) (hU : U.heap = H) (hW : s.WarmedH U.vm) : xG b aS D cT U := by
  obtain ⟨h1, h2, h3, h4, h5⟩ := h
  refine ⟨va_K.moved hW.alike h1, xN_warm hW h2, va_AO.moved hW.alike h3, by rw [hU]; exact Nat.le_trans h4 hS.1, ?_⟩
  rw [hU]
  exact xStr_warm hW (xStr_kept h5 hS.2.1)
theorem xG_blind {b : Nat} {aS : Nat → Nat} {D : va_G} {cT : Nat → ClassId} {U : State} {g : JFrame} {mk : MethodId} {a : Array Value} (h : xG b aS D cT U) : xG b aS D cT (U.calling g mk a) := by
  obtain ⟨h1, h2, h3, h4, h5⟩ := h
  exact ⟨va_K.moved (u := U) (U := U.calling g mk a) (Vm.Alike.refl U.vm) h1, xN_same (u := U) (U := U.calling g mk a) rfl h2, va_AO.moved (u := U) (U := U.calling g mk a) (Vm.Alike.refl U.vm) h3, h4, xStr_same (u := U) (U := U.calling g mk a) rfl h5⟩
