/-! the grammar: from token k on, the codes and the next token; or the token at fault -/
abbrev PR : Type := Nat × Option (List Int32)
abbrev PF : Type := Nat → PR
def q_b (r : PR) (g : Nat → List Int32 → PR) : PR := match r with
  | (k, some cs) => g k cs
  | (k, none) => (k, none)
section QQ
variable (T W : Nat → Int32)
def q_atom (A E : Option PF) : PF := fun k =>
  if T k = 45 then (match A with
    | none => (k, none)
    | some A => q_b (A (k + 1)) fun k' cs => (k', some (cs ++ [-19])))
  else if T k = 40 then (match E with
    | none => (k, none)
    | some E => q_b (E (k + 1)) fun k' cs => if T k' = 41 then (k' + 1, some cs) else (k', none))
  else if T k = 2 then (k + 1, some [W k])
  else if -1 < T k then (k, none)
  else (k + 1, some [T k])
def q_lp (op : Int32 → Option Int32) (F : PF) : Nat → Nat → List Int32 → PR
  | 0, k, cs => (k, some cs)
  | m + 1, k, cs => match op (T k) with
    | none => (k, some cs)
    | some c => q_b (F (k + 1)) fun k' ds => q_lp op F m k' (cs ++ (ds ++ [c]))
def q_chain (op : Int32 → Option Int32) (F : PF) : PF := fun k => q_b (F k) fun k' cs => q_lp T op F 160 k' cs
def o_mul (t : Int32) : Option Int32 := if t = 42 then some (-18) else none
def o_add (t : Int32) : Option Int32 := if t = 43 then some (-16) else if t = 45 then some (-17) else none
def o_and (t : Int32) : Option Int32 := if t = 205 then some (-12) else none
def o_or (t : Int32) : Option Int32 := if t = 204 then some (-11) else none
def q_not (N : Option PF) (D : PF) : PF := fun k =>
  if T k = 206 then (match N with
    | none => (k, none)
    | some N => q_b (N (k + 1)) fun k' cs => (k', some (cs ++ [-13])))
  else q_b (D k) fun k' cs => if T k' = 60 then (q_b (D (k' + 1)) fun k2 ds => (k2, some (cs ++ (ds ++ [-14])))) else if T k' = 61 then (q_b (D (k' + 1)) fun k2 ds => (k2, some (cs ++ (ds ++ [-15])))) else (k', some cs)
/-- what stands one level deeper: an atom, a not, an either; none at the last level -/
abbrev LV : Type := Option (PF × PF × PF)
def q_A (L : LV) : PF := q_atom T W (L.map (fun r => r.1)) (L.map (fun r => r.2.2))
def q_M (L : LV) : PF := q_chain T o_mul (q_A T W L)
def q_D (L : LV) : PF := q_chain T o_add (q_M T W L)
def q_N (L : LV) : PF := q_not T (L.map (fun r => r.2.1)) (q_D T W L)
def q_B (L : LV) : PF := q_chain T o_and (q_N T W L)
def q_E (L : LV) : PF := q_chain T o_or (q_B T W L)
/-- the level below which m more may be open -/
def q_L : Nat → LV
  | 0 => none
  | m + 1 => some (q_A T W (q_L m), q_N T W (q_L m), q_E T W (q_L m))
def q_part (key : Int32) : PF := fun k => if T k = key then (q_b (q_E T W (q_L T W 5) (k + 1)) fun k' cs => if T k' = 59 then (k' + 1, some cs) else (k', none)) else (k, none)
def q_text : Nat × Option (List Int32 × List Int32 × List Int32) := match q_part T W 201 0 with
  | (k, none) => (k, none)
  | (k1, some c0) => match q_part T W 202 k1 with
    | (k, none) => (k, none)
    | (k2, some c1) => match q_part T W 203 k2 with
      | (k, none) => (k, none)
      | (k3, some c2) => if T k3 = 0 then (k3, some (c0, c1, c2)) else (k3, none)
end QQ
/-- a parser that goes on within nt tokens, and gives no more codes than it takes tokens -/
def pg (nt : Nat) (p : PF) : Prop := ∀ k, k ≤ nt → match p k with
  | (k', some cs) => k < k' ∧ k' ≤ nt ∧ cs.length ≤ k' - k
  | (k', none) => k ≤ k' ∧ k' ≤ nt
theorem pg_s {nt : Nat} {p : PF} (h : pg nt p) {k k' : Nat} {cs : List Int32} (hk : k ≤ nt) (e : p k = (k', some cs)) : k < k' ∧ k' ≤ nt ∧ cs.length ≤ k' - k := by
  have := h k hk
  rw [e] at this; exact this
theorem pg_n {nt : Nat} {p : PF} (h : pg nt p) {k k' : Nat} (hk : k ≤ nt) (e : p k = (k', none)) : k ≤ k' ∧ k' ≤ nt := by
  have := h k hk
  rw [e] at this; exact this
section QP
variable {T W : Nat → Int32} {nt : Nat}
theorem pg_atom {A E : Option PF} (h0 : ∀ k, nt ≤ k → T k = 0) (hA : ∀ p, A = some p → pg nt p) (hE : ∀ p, E = some p → pg nt p) : pg nt (q_atom T W A E) := by
  intro k hk
  have hlt : T k ≠ 0 → k < nt := fun h => Nat.lt_of_not_le fun q => h (h0 k q)
  unfold q_atom
  by_cases c1 : T k = 45
  · rw [if_pos c1]
    have hl := hlt (by rw [c1]; decide)
    cases A with
    | none => exact ⟨Nat.le_refl _, hk⟩
    | some p =>
      show match q_b (p (k + 1)) _ with | (k', some cs) => _ | (k', none) => _
      rcases hp : p (k + 1) with ⟨k', _ | cs⟩
      · have := pg_n (hA p rfl) (by omega) hp
        show k ≤ k' ∧ k' ≤ nt; omega
      · have := pg_s (hA p rfl) (by omega) hp
        show k < k' ∧ k' ≤ nt ∧ (cs ++ [-19]).length ≤ k' - k
        rw [List.length_append, List.length_singleton]; omega
  rw [if_neg c1]
  by_cases c2 : T k = 40
  · rw [if_pos c2]
    have hl := hlt (by rw [c2]; decide)
    cases E with
    | none => exact ⟨Nat.le_refl _, hk⟩
    | some p =>
      show match q_b (p (k + 1)) _ with | (k', some cs) => _ | (k', none) => _
      rcases hp : p (k + 1) with ⟨k', _ | cs⟩
      · have := pg_n (hE p rfl) (by omega) hp
        show k ≤ k' ∧ k' ≤ nt; omega
      · have := pg_s (hE p rfl) (by omega) hp
        unfold q_b
        dsimp only
        by_cases c3 : T k' = 41
        · rw [if_pos c3]
          have h2 : k' < nt := Nat.lt_of_not_le fun q => by rw [h0 k' q] at c3; exact absurd c3 (by decide)
          show k < k' + 1 ∧ k' + 1 ≤ nt ∧ cs.length ≤ k' + 1 - k; omega
        · rw [if_neg c3]; show k ≤ k' ∧ k' ≤ nt; omega
  rw [if_neg c2]
  by_cases c3 : T k = 2
  · rw [if_pos c3]
    have hl := hlt (by rw [c3]; decide)
    show k < k + 1 ∧ k + 1 ≤ nt ∧ ([W k] : List Int32).length ≤ k + 1 - k
    rw [List.length_singleton]; omega
  rw [if_neg c3]
  by_cases c4 : -1 < T k
  · rw [if_pos c4]; exact ⟨Nat.le_refl _, hk⟩
  · rw [if_neg c4]
    have hl := hlt (fun e => c4 (by rw [e]; decide))
    show k < k + 1 ∧ k + 1 ≤ nt ∧ ([T k] : List Int32).length ≤ k + 1 - k
    rw [List.length_singleton]; omega
theorem pg_lp {op : Int32 → Option Int32} {F : PF} (h0 : ∀ k, nt ≤ k → T k = 0) (hop : op 0 = none) (hF : pg nt F) {j : Nat} : ∀ (m k : Nat) (cs : List Int32), j < k → k ≤ nt → cs.length ≤ k - j → match q_lp T op F m k cs with
    | (k', some ds) => j < k' ∧ k' ≤ nt ∧ ds.length ≤ k' - j
    | (k', none) => j ≤ k' ∧ k' ≤ nt
  | 0, k, cs, h1, h2, h3 => ⟨h1, h2, h3⟩
  | m + 1, k, cs, h1, h2, h3 => by
    unfold q_lp
    cases ho : op (T k) with
    | none => exact ⟨h1, h2, h3⟩
    | some c =>
      have hl : k < nt := Nat.lt_of_not_le fun q => by rw [h0 k q, hop] at ho; cases ho
      show match q_b (F (k + 1)) _ with | (k', some ds) => _ | (k', none) => _
      rcases hp : F (k + 1) with ⟨k', _ | ds⟩
      · have := pg_n hF (by omega) hp
        show j ≤ k' ∧ k' ≤ nt; omega
      · have := pg_s hF (by omega) hp
        exact pg_lp h0 hop hF m k' _ (by omega) (by omega) (by rw [List.length_append, List.length_append, List.length_singleton]; omega)
theorem pg_chain {op : Int32 → Option Int32} {F : PF} (h0 : ∀ k, nt ≤ k → T k = 0) (hop : op 0 = none) (hF : pg nt F) : pg nt (q_chain T op F) := by
  intro k hk
  unfold q_chain
  rcases hp : F k with ⟨k', _ | cs⟩
  · have := pg_n hF hk hp
    show k ≤ k' ∧ k' ≤ nt; omega
  · have := pg_s hF hk hp
    exact pg_lp h0 hop hF 160 k' cs this.1 this.2.1 this.2.2
theorem pg_not {N : Option PF} {D : PF} (h0 : ∀ k, nt ≤ k → T k = 0) (hN : ∀ p, N = some p → pg nt p) (hD : pg nt D) : pg nt (q_not T N D) := by
  intro k hk
  have hlt : ∀ k, T k ≠ 0 → k < nt := fun k h => Nat.lt_of_not_le fun q => h (h0 k q)
  unfold q_not
  by_cases c1 : T k = 206
  · rw [if_pos c1]
    have hl := hlt k (by rw [c1]; decide)
    cases N with
    | none => exact ⟨Nat.le_refl _, hk⟩
    | some p =>
      show match q_b (p (k + 1)) _ with | (k', some cs) => _ | (k', none) => _
      rcases hp : p (k + 1) with ⟨k', _ | cs⟩
      · have := pg_n (hN p rfl) (by omega) hp
        show k ≤ k' ∧ k' ≤ nt; omega
      · have := pg_s (hN p rfl) (by omega) hp
        show k < k' ∧ k' ≤ nt ∧ (cs ++ [-13]).length ≤ k' - k
        rw [List.length_append, List.length_singleton]; omega
  rw [if_neg c1]
  rcases hp : D k with ⟨k', _ | cs⟩
  · have := pg_n hD hk hp
    show k ≤ k' ∧ k' ≤ nt; omega
  · have h1 := pg_s hD hk hp
    unfold q_b
    dsimp only
    have two : ∀ c : Int32, T k' ≠ 0 → match q_b (D (k' + 1)) (fun k2 ds => (k2, some (cs ++ (ds ++ [c])))) with
        | (k', some cs) => k < k' ∧ k' ≤ nt ∧ cs.length ≤ k' - k
        | (k', none) => k ≤ k' ∧ k' ≤ nt := by
      intro c hne
      have hl := hlt k' hne
      rcases hp2 : D (k' + 1) with ⟨k2, _ | ds⟩
      · have := pg_n hD (by omega) hp2
        show k ≤ k2 ∧ k2 ≤ nt; omega
      · have := pg_s hD (by omega) hp2
        show k < k2 ∧ k2 ≤ nt ∧ (cs ++ (ds ++ [c])).length ≤ k2 - k
        rw [List.length_append, List.length_append, List.length_singleton]; omega
    by_cases c2 : T k' = 60
    · rw [if_pos c2]; exact two (-14) (by rw [c2]; decide)
    rw [if_neg c2]
    by_cases c3 : T k' = 61
    · rw [if_pos c3]; exact two (-15) (by rw [c3]; decide)
    · rw [if_neg c3]; exact h1
def pgL (nt : Nat) (L : LV) : Prop := ∀ r, L = some r → pg nt r.1 ∧ pg nt r.2.1 ∧ pg nt r.2.2
theorem pg_A {L : LV} (h0 : ∀ k, nt ≤ k → T k = 0) (h : pgL nt L) : pg nt (q_A T W L) := by
  refine pg_atom h0 (fun p hp => ?_) (fun p hp => ?_)
  · cases L with
    | none => cases hp
    | some r => cases hp; exact (h r rfl).1
  · cases L with
    | none => cases hp
    | some r => cases hp; exact (h r rfl).2.2
theorem pg_M {L : LV} (h0 : ∀ k, nt ≤ k → T k = 0) (h : pgL nt L) : pg nt (q_M T W L) := pg_chain h0 (by decide) (pg_A h0 h)
theorem pg_D {L : LV} (h0 : ∀ k, nt ≤ k → T k = 0) (h : pgL nt L) : pg nt (q_D T W L) := pg_chain h0 (by decide) (pg_M h0 h)
theorem pg_N {L : LV} (h0 : ∀ k, nt ≤ k → T k = 0) (h : pgL nt L) : pg nt (q_N T W L) := by
  refine pg_not h0 (fun p hp => ?_) (pg_D h0 h)
  cases L with
  | none => cases hp
  | some r => cases hp; exact (h r rfl).2.1
theorem pg_B {L : LV} (h0 : ∀ k, nt ≤ k → T k = 0) (h : pgL nt L) : pg nt (q_B T W L) := pg_chain h0 (by decide) (pg_N h0 h)
theorem pg_E {L : LV} (h0 : ∀ k, nt ≤ k → T k = 0) (h : pgL nt L) : pg nt (q_E T W L) := pg_chain h0 (by decide) (pg_B h0 h)
theorem pg_L (h0 : ∀ k, nt ≤ k → T k = 0) : ∀ m, pgL nt (q_L T W m)
  | 0 => fun r hr => by cases hr
  | m + 1 => fun r hr => by
    cases hr
    have h := pg_L h0 m
    exact ⟨pg_A h0 h, pg_N h0 h, pg_E h0 h⟩
end QP
