/-! the reference: its cells as the garden's table, small things -/
def RV (μ : si_Mm) (S : gS) : Prop := μ.1 7 0 7 = S 2 2 ∧ μ.1 7 0 8 = S 2 3 ∧ μ.1 7 0 9 = S 2 4 ∧ μ.1 7 0 4 = S 2 5 ∧ μ.1 7 0 14 = S 2 6 ∧ (∀ s, s < 6 → μ.1 35 0 s = S 14 s ∧ μ.1 32 0 s = S 15 s) ∧ ∀ p, p < gP S → μ.1 33 0 p = S 16 p ∧ μ.1 34 0 p = S 17 p ∧ μ.1 35 0 (6 + 4 * p) = S 18 p ∧ μ.1 35 0 (6 + 4 * p + 3) = S 21 p ∧ (0 ≤ S 18 p → μ.1 35 0 (6 + 4 * p + 1) = S 19 p ∧ μ.1 35 0 (6 + 4 * p + 2) = S 20 p)
/-- but for the reference's fields in J and its rows in A all is as it was -/
def fx (J A : Nat → Bool) (μ μ' : si_Mm) : Prop := ∀ a i j, ¬ (a = 7 ∧ i = 0 ∧ J j = true) → A a = false → μ'.1 a i j = μ.1 a i j
def Js (j : Nat) : Bool := Nat.ble 15 j && Nat.ble j 29
def Jg (j : Nat) : Bool := Js j || Nat.beq j 7
def Jt (j : Nat) : Bool := Js j || (Nat.ble 31 j && Nat.ble j 33)
def Ju (j : Nat) : Bool := Jg j || (Nat.ble 31 j && Nat.ble j 33)
def A0 (_ : Nat) : Bool := false
def Ag (a : Nat) : Bool := Nat.beq a 35
def At (a : Nat) : Bool := Nat.ble 36 a && Nat.ble a 37
def Au (a : Nat) : Bool := Nat.ble 35 a && Nat.ble a 37
theorem fx.rf {J A : Nat → Bool} {μ : si_Mm} : fx J A μ μ := fun _ _ _ _ _ => rfl
theorem fx.tr {J A : Nat → Bool} {μ1 μ2 μ3 : si_Mm} (h : fx J A μ1 μ2) (g : fx J A μ2 μ3) : fx J A μ1 μ3 := fun a i j e1 e2 => (g a i j e1 e2).trans (h a i j e1 e2)
theorem fx.mo {J A J' A' : Nat → Bool} {μ1 μ2 : si_Mm} (h : fx J A μ1 μ2) (hJ : ∀ j, J j = true → J' j = true) (hA : ∀ a, A a = true → A' a = true) : fx J' A' μ1 μ2 := fun a i j e1 e2 => h a i j (fun q => e1 ⟨q.1, q.2.1, hJ j q.2.2⟩) (by
  cases hc : A a with
  | false => rfl
  | true => rw [hA a hc] at e2; cases e2)
theorem Js_i {j : Nat} : Js j = true ↔ 15 ≤ j ∧ j ≤ 29 := by unfold Js; rw [Bool.and_eq_true, Nat.ble_eq, Nat.ble_eq]
theorem Jg_i {j : Nat} : Jg j = true ↔ (15 ≤ j ∧ j ≤ 29) ∨ j = 7 := by unfold Jg; rw [Bool.or_eq_true, Js_i, Nat.beq_eq]
theorem Jt_i {j : Nat} : Jt j = true ↔ (15 ≤ j ∧ j ≤ 29) ∨ (31 ≤ j ∧ j ≤ 33) := by unfold Jt; rw [Bool.or_eq_true, Js_i, Bool.and_eq_true, Nat.ble_eq, Nat.ble_eq]
theorem Ju_i {j : Nat} : Ju j = true ↔ ((15 ≤ j ∧ j ≤ 29) ∨ j = 7) ∨ (31 ≤ j ∧ j ≤ 33) := by unfold Ju; rw [Bool.or_eq_true, Jg_i, Bool.and_eq_true, Nat.ble_eq, Nat.ble_eq]
theorem Ag_i {a : Nat} : Ag a = true ↔ a = 35 := by unfold Ag; rw [Nat.beq_eq]
theorem At_i {a : Nat} : At a = true ↔ 36 ≤ a ∧ a ≤ 37 := by unfold At; rw [Bool.and_eq_true, Nat.ble_eq, Nat.ble_eq]
theorem Au_i {a : Nat} : Au a = true ↔ 35 ≤ a ∧ a ≤ 37 := by unfold Au; rw [Bool.and_eq_true, Nat.ble_eq, Nat.ble_eq]
theorem fx.sg {μ1 μ2 : si_Mm} (h : fx Js A0 μ1 μ2) : fx Jg Ag μ1 μ2 := h.mo (fun j q => Jg_i.mpr (Or.inl (Js_i.mp q))) (fun a q => by cases q)
theorem fx.su {μ1 μ2 : si_Mm} (h : fx Js A0 μ1 μ2) : fx Ju Au μ1 μ2 := h.mo (fun j q => Ju_i.mpr (Or.inl (Or.inl (Js_i.mp q)))) (fun a q => by cases q)
theorem fx.gu {μ1 μ2 : si_Mm} (h : fx Jg Ag μ1 μ2) : fx Ju Au μ1 μ2 := h.mo (fun j q => Ju_i.mpr (Or.inl (Jg_i.mp q))) (fun a q => Au_i.mpr (by have := Ag_i.mp q; omega))
theorem fx.tu {μ1 μ2 : si_Mm} (h : fx Jt At μ1 μ2) : fx Ju Au μ1 μ2 := h.mo (fun j q => Ju_i.mpr ((Jt_i.mp q).elim (fun a => Or.inl (Or.inl a)) Or.inr)) (fun a q => Au_i.mpr (by have := At_i.mp q; omega))
theorem fx.st {μ1 μ2 : si_Mm} (h : fx Js A0 μ1 μ2) : fx Jt At μ1 μ2 := h.mo (fun j q => Jt_i.mpr (Or.inl (Js_i.mp q))) (fun a q => by cases q)
theorem RV.of {μ μ' : si_Mm} {S : gS} (h : RV μ S) (h7 : ∀ j, j = 7 ∨ j = 8 ∨ j = 9 ∨ j = 4 ∨ j = 14 → μ'.1 7 0 j = μ.1 7 0 j) (h32 : μ'.1 32 0 = μ.1 32 0) (h33 : μ'.1 33 0 = μ.1 33 0) (h34 : μ'.1 34 0 = μ.1 34 0) (h35 : ∀ k, k < 38 → μ'.1 35 0 k = μ.1 35 0 k) (h8 : gP S ≤ 8) : RV μ' S := by
  obtain ⟨a1, a2, a3, a4, a5, a6, a7⟩ := h
  refine ⟨by rw [h7 7 (by omega)]; exact a1, by rw [h7 8 (by omega)]; exact a2, by rw [h7 9 (by omega)]; exact a3, by rw [h7 4 (by omega)]; exact a4, by rw [h7 14 (by omega)]; exact a5, fun s hs => ?_, fun p hp => ?_⟩
  · rw [h35 s (by omega), h32]; exact a6 s hs
  · rw [h33, h34, h35 _ (by omega), h35 _ (by omega), h35 _ (by omega), h35 _ (by omega)]; exact a7 p hp
theorem RV.s {μ μ' : si_Mm} {S : gS} (h : RV μ S) (hf : fx Js A0 μ μ') (h8 : gP S ≤ 8) : RV μ' S := h.of (fun j hj => hf 7 0 j (fun q => by have := Js_i.mp q.2.2; omega) rfl) (by funext k; exact hf 32 0 k (by omega) rfl) (by funext k; exact hf 33 0 k (by omega) rfl) (by funext k; exact hf 34 0 k (by omega) rfl) (fun k _ => hf 35 0 k (by omega) rfl) h8
theorem gP2 {S : gS} {k : Nat} {v : Int32} (h : k ≠ 6) : gP (upS S 2 k v) = gP S := by unfold gP upS; rw [if_neg (by omega)]
/-- one field of the garden is set, on both sides -/
theorem RV.f {μ : si_Mm} {S : gS} {j k : Nat} {v : Int32} (h : RV μ S) (hjk : (j = 7 ∧ k = 2) ∨ (j = 8 ∧ k = 3) ∨ (j = 9 ∧ k = 4) ∨ (j = 4 ∧ k = 5)) : RV (si_ms μ 7 0 j v) (upS S 2 k v) := by
  obtain ⟨a1, a2, a3, a4, a5, a6, a7⟩ := h
  have hP : gP (upS S 2 k v) = gP S := gP2 (by omega)
  refine ⟨?_, ?_, ?_, ?_, ?_, fun s hs => ?_, fun p hp => ?_⟩
  · rcases hjk with ⟨rfl, rfl⟩ | ⟨rfl, rfl⟩ | ⟨rfl, rfl⟩ | ⟨rfl, rfl⟩ <;> simp [ms_eq, upS, a1]
  · rcases hjk with ⟨rfl, rfl⟩ | ⟨rfl, rfl⟩ | ⟨rfl, rfl⟩ | ⟨rfl, rfl⟩ <;> simp [ms_eq, upS, a2]
  · rcases hjk with ⟨rfl, rfl⟩ | ⟨rfl, rfl⟩ | ⟨rfl, rfl⟩ | ⟨rfl, rfl⟩ <;> simp [ms_eq, upS, a3]
  · rcases hjk with ⟨rfl, rfl⟩ | ⟨rfl, rfl⟩ | ⟨rfl, rfl⟩ | ⟨rfl, rfl⟩ <;> simp [ms_eq, upS, a4]
  · rcases hjk with ⟨rfl, rfl⟩ | ⟨rfl, rfl⟩ | ⟨rfl, rfl⟩ | ⟨rfl, rfl⟩ <;> simp [ms_eq, upS, a5]
  · rw [upS_ne (by decide), upS_ne (by decide), si_ms_ne _ _ _ (by simp), si_ms_ne _ _ _ (by simp)]; exact a6 s hs
  · rw [hP] at hp
    rw [upS_ne (by decide), upS_ne (by decide), upS_ne (by decide), upS_ne (by decide), upS_ne (by decide), upS_ne (by decide), si_ms_ne _ _ _ (by simp), si_ms_ne _ _ _ (by simp), si_ms_ne _ _ _ (by simp)]; exact a7 p hp
theorem RV.r14 {μ : si_Mm} {S : gS} {s : Nat} {v : Int32} (h : RV μ S) (hs : s < 6) : RV (si_ms μ 35 0 s v) (upS S 14 s v) := by
  obtain ⟨a1, a2, a3, a4, a5, a6, a7⟩ := h
  have hP : gP (upS S 14 s v) = gP S := gP_up (by decide)
  rw [RV, hP]
  refine ⟨by rw [upS_ne (by decide), ms_eq, if_neg (by omega)]; exact a1, by rw [upS_ne (by decide), ms_eq, if_neg (by omega)]; exact a2, by rw [upS_ne (by decide), ms_eq, if_neg (by omega)]; exact a3, by rw [upS_ne (by decide), ms_eq, if_neg (by omega)]; exact a4, by rw [upS_ne (by decide), ms_eq, if_neg (by omega)]; exact a5, fun s' hs' => ⟨?_, ?_⟩, fun p hp => ?_⟩
  · rw [ms_eq]
    by_cases e : s' = s
    · subst e; rw [if_pos ⟨rfl, rfl, rfl⟩, upS_eq]
    · rw [if_neg (by omega)]; unfold upS; rw [if_neg (by omega)]; exact (a6 s' hs').1
  · rw [upS_ne (by decide), ms_eq, if_neg (by omega)]; exact (a6 s' hs').2
  · rw [upS_ne (by decide), upS_ne (by decide), upS_ne (by decide), upS_ne (by decide), upS_ne (by decide), upS_ne (by decide), ms_eq, if_neg (by omega), ms_eq, if_neg (by omega), ms_eq, if_neg (by omega), ms_eq, if_neg (by omega), ms_eq, if_neg (by omega), ms_eq, if_neg (by omega)]; exact a7 p hp
theorem RV.r15 {μ : si_Mm} {S : gS} {s : Nat} {v : Int32} (h : RV μ S) : RV (si_ms μ 32 0 s v) (upS S 15 s v) := by
  obtain ⟨a1, a2, a3, a4, a5, a6, a7⟩ := h
  have hP : gP (upS S 15 s v) = gP S := gP_up (by decide)
  rw [RV, hP]
  refine ⟨by rw [upS_ne (by decide), ms_eq, if_neg (by omega)]; exact a1, by rw [upS_ne (by decide), ms_eq, if_neg (by omega)]; exact a2, by rw [upS_ne (by decide), ms_eq, if_neg (by omega)]; exact a3, by rw [upS_ne (by decide), ms_eq, if_neg (by omega)]; exact a4, by rw [upS_ne (by decide), ms_eq, if_neg (by omega)]; exact a5, fun s' hs' => ⟨?_, ?_⟩, fun p hp => ?_⟩
  · rw [upS_ne (by decide), ms_eq, if_neg (by omega)]; exact (a6 s' hs').1
  · rw [ms_eq]
    by_cases e : s' = s
    · subst e; rw [if_pos ⟨rfl, rfl, rfl⟩, upS_eq]
    · rw [if_neg (by omega)]; unfold upS; rw [if_neg (by omega)]; exact (a6 s' hs').2
  · rw [upS_ne (by decide), upS_ne (by decide), upS_ne (by decide), upS_ne (by decide), upS_ne (by decide), upS_ne (by decide), ms_eq, if_neg (by omega), ms_eq, if_neg (by omega), ms_eq, if_neg (by omega), ms_eq, if_neg (by omega), ms_eq, if_neg (by omega), ms_eq, if_neg (by omega)]; exact a7 p hp
/-- a person's row a (16 .. 21), of whom the reference has the cell (b, c) -/
theorem RV.pe {μ : si_Mm} {S : gS} {a b c p : Nat} {v : Int32} (h : RV μ S) (hc : (a = 16 ∧ b = 33 ∧ c = p) ∨ (a = 17 ∧ b = 34 ∧ c = p) ∨ (a = 19 ∧ b = 35 ∧ c = 6 + 4 * p + 1) ∨ (a = 20 ∧ b = 35 ∧ c = 6 + 4 * p + 2) ∨ (a = 21 ∧ b = 35 ∧ c = 6 + 4 * p + 3)) : RV (si_ms μ b 0 c v) (upS S a p v) := by
  obtain ⟨a1, a2, a3, a4, a5, a6, a7⟩ := h
  have hP : gP (upS S a p v) = gP S := gP_up (by omega)
  rw [RV, hP]
  refine ⟨by rw [upS_ne (by omega), ms_eq, if_neg (by omega)]; exact a1, by rw [upS_ne (by omega), ms_eq, if_neg (by omega)]; exact a2, by rw [upS_ne (by omega), ms_eq, if_neg (by omega)]; exact a3, by rw [upS_ne (by omega), ms_eq, if_neg (by omega)]; exact a4, by rw [upS_ne (by omega), ms_eq, if_neg (by omega)]; exact a5, fun s' hs' => ?_, fun q hq => ?_⟩
  · rw [upS_ne (by omega), upS_ne (by omega), ms_eq, if_neg (by omega), ms_eq, if_neg (by omega)]; exact a6 s' hs'
  · obtain ⟨b1, b2, b3, b4, b5⟩ := a7 q hq
    rcases hc with ⟨rfl, rfl, rfl⟩ | ⟨rfl, rfl, rfl⟩ | ⟨rfl, rfl, rfl⟩ | ⟨rfl, rfl, rfl⟩ | ⟨rfl, rfl, rfl⟩
    · refine ⟨?_, by rw [upS_ne (by decide), ms_eq, if_neg (by omega)]; exact b2, by rw [upS_ne (by decide), ms_eq, if_neg (by omega)]; exact b3, by rw [upS_ne (by decide), ms_eq, if_neg (by omega)]; exact b4, by rw [upS_ne (by decide), upS_ne (by decide), upS_ne (by decide), ms_eq, if_neg (by omega), ms_eq, if_neg (by omega)]; exact b5⟩
      rw [ms_eq]
      by_cases e : q = c
      · subst e; rw [if_pos ⟨rfl, rfl, rfl⟩, upS_eq]
      · rw [if_neg (by omega)]; unfold upS; rw [if_neg (by omega)]; exact b1
    · refine ⟨by rw [upS_ne (by decide), ms_eq, if_neg (by omega)]; exact b1, ?_, by rw [upS_ne (by decide), ms_eq, if_neg (by omega)]; exact b3, by rw [upS_ne (by decide), ms_eq, if_neg (by omega)]; exact b4, by rw [upS_ne (by decide), upS_ne (by decide), upS_ne (by decide), ms_eq, if_neg (by omega), ms_eq, if_neg (by omega)]; exact b5⟩
      rw [ms_eq]
      by_cases e : q = c
      · subst e; rw [if_pos ⟨rfl, rfl, rfl⟩, upS_eq]
      · rw [if_neg (by omega)]; unfold upS; rw [if_neg (by omega)]; exact b2
    · refine ⟨by rw [upS_ne (by decide), ms_eq, if_neg (by omega)]; exact b1, by rw [upS_ne (by decide), ms_eq, if_neg (by omega)]; exact b2, by rw [upS_ne (by decide), ms_eq, if_neg (by omega)]; exact b3, by rw [upS_ne (by decide), ms_eq, if_neg (by omega)]; exact b4, ?_⟩
      rw [upS_ne (a' := 18) (by decide), upS_ne (a' := 20) (by decide)]
      intro h0
      refine ⟨?_, by rw [ms_eq, if_neg (by omega)]; exact (b5 h0).2⟩
      rw [ms_eq]
      by_cases e : q = p
      · subst e; rw [if_pos ⟨rfl, rfl, rfl⟩, upS_eq]
      · rw [if_neg (by omega)]; unfold upS; rw [if_neg (by omega)]; exact (b5 h0).1
    · refine ⟨by rw [upS_ne (by decide), ms_eq, if_neg (by omega)]; exact b1, by rw [upS_ne (by decide), ms_eq, if_neg (by omega)]; exact b2, by rw [upS_ne (by decide), ms_eq, if_neg (by omega)]; exact b3, by rw [upS_ne (by decide), ms_eq, if_neg (by omega)]; exact b4, ?_⟩
      rw [upS_ne (a' := 18) (by decide), upS_ne (a' := 19) (by decide)]
      intro h0
      refine ⟨by rw [ms_eq, if_neg (by omega)]; exact (b5 h0).1, ?_⟩
      rw [ms_eq]
      by_cases e : q = p
      · subst e; rw [if_pos ⟨rfl, rfl, rfl⟩, upS_eq]
      · rw [if_neg (by omega)]; unfold upS; rw [if_neg (by omega)]; exact (b5 h0).2
    · refine ⟨by rw [upS_ne (by decide), ms_eq, if_neg (by omega)]; exact b1, by rw [upS_ne (by decide), ms_eq, if_neg (by omega)]; exact b2, by rw [upS_ne (by decide), ms_eq, if_neg (by omega)]; exact b3, ?_, by rw [upS_ne (by decide), upS_ne (by decide), upS_ne (by decide), ms_eq, if_neg (by omega), ms_eq, if_neg (by omega)]; exact b5⟩
      rw [ms_eq]
      by_cases e : q = p
      · subst e; rw [if_pos ⟨rfl, rfl, rfl⟩, upS_eq]
      · rw [if_neg (by omega)]; unfold upS; rw [if_neg (by omega)]; exact b4
/-- puts(p, v): the place, and held and warned 0 -/
def pc3 (μ : si_Mm) (p : Nat) (v : Int32) : si_Mm := si_ms (si_ms (si_ms μ 35 0 (6 + 4 * p) v) 35 0 (6 + 4 * p + 1) 0) 35 0 (6 + 4 * p + 2) 0
theorem pc3_at {μ : si_Mm} {p : Nat} {v : Int32} (a i j : Nat) : (pc3 μ p v).1 a i j = if a = 35 ∧ i = 0 ∧ j = 6 + 4 * p then v else if a = 35 ∧ i = 0 ∧ j = 6 + 4 * p + 1 then 0 else if a = 35 ∧ i = 0 ∧ j = 6 + 4 * p + 2 then 0 else μ.1 a i j := by
  unfold pc3
  rw [ms_eq, ms_eq, ms_eq]
  repeat' split
  all_goals first
    | rfl
    | (exfalso; omega)
/-- whoever is put: either gets a strip (held, warned 0) or has none (held, warned don't matter) -/
theorem RV.pu {μ : si_Mm} {S S' : gS} {p : Nat} {v : Int32} (h : RV μ S) (h18 : S' 18 p = v) (hz : 0 ≤ v → S' 19 p = 0 ∧ S' 20 p = 0) (hs : ∀ a k, ¬ (a = 18 ∧ k = p) → ¬ (a = 19 ∧ k = p) → ¬ (a = 20 ∧ k = p) → S' a k = S a k) : RV (pc3 μ p v) S' := by
  obtain ⟨a1, a2, a3, a4, a5, a6, a7⟩ := h
  have hP : gP S' = gP S := by unfold gP; rw [hs 2 6 (by omega) (by omega) (by omega)]
  rw [RV, hP]
  refine ⟨?_, ?_, ?_, ?_, ?_, fun s' hs' => ?_, fun q hq => ?_⟩
  · rw [pc3_at, if_neg (by omega), if_neg (by omega), if_neg (by omega), hs _ _ (by omega) (by omega) (by omega)]; exact a1
  · rw [pc3_at, if_neg (by omega), if_neg (by omega), if_neg (by omega), hs _ _ (by omega) (by omega) (by omega)]; exact a2
  · rw [pc3_at, if_neg (by omega), if_neg (by omega), if_neg (by omega), hs _ _ (by omega) (by omega) (by omega)]; exact a3
  · rw [pc3_at, if_neg (by omega), if_neg (by omega), if_neg (by omega), hs _ _ (by omega) (by omega) (by omega)]; exact a4
  · rw [pc3_at, if_neg (by omega), if_neg (by omega), if_neg (by omega), hs _ _ (by omega) (by omega) (by omega)]; exact a5
  · rw [pc3_at, if_neg (by omega), if_neg (by omega), if_neg (by omega), pc3_at, if_neg (by omega), if_neg (by omega), if_neg (by omega), hs _ _ (by omega) (by omega) (by omega), hs _ _ (by omega) (by omega) (by omega)]; exact a6 s' hs'
  · obtain ⟨b1, b2, b3, b4, b5⟩ := a7 q hq
    refine ⟨?_, ?_, ?_, ?_, ?_⟩
    · rw [pc3_at, if_neg (by omega), if_neg (by omega), if_neg (by omega), hs _ _ (by omega) (by omega) (by omega)]; exact b1
    · rw [pc3_at, if_neg (by omega), if_neg (by omega), if_neg (by omega), hs _ _ (by omega) (by omega) (by omega)]; exact b2
    · rw [pc3_at]
      by_cases e : q = p
      · subst e; rw [if_pos ⟨rfl, rfl, rfl⟩, h18]
      · rw [if_neg (by omega), if_neg (by omega), if_neg (by omega), hs _ _ (by omega) (by omega) (by omega)]; exact b3
    · rw [pc3_at, if_neg (by omega), if_neg (by omega), if_neg (by omega), hs _ _ (by omega) (by omega) (by omega)]; exact b4
    · by_cases e : q = p
      · subst e
        rw [h18]
        intro h0
        rw [pc3_at, if_neg (by omega), if_pos ⟨rfl, rfl, rfl⟩, pc3_at, if_neg (by omega), if_neg (by omega), if_pos ⟨rfl, rfl, rfl⟩, (hz h0).1, (hz h0).2]
        exact ⟨rfl, rfl⟩
      · rw [hs 18 q (by omega) (by omega) (by omega), hs 19 q (by omega) (by omega) (by omega), hs 20 q (by omega) (by omega) (by omega), pc3_at, if_neg (by omega), if_neg (by omega), if_neg (by omega), pc3_at, if_neg (by omega), if_neg (by omega), if_neg (by omega)]; exact b5
section RA
variable {sc : si_Sc} {d : Nat} {μ : si_Mm} {Q : si_Po} {n : Nat} {S : gS} {x o : Int32}
theorem l_lt {a b : Int32} : a.toInt64 < b.toInt64 ↔ a < b := by rw [Int64.lt_iff_toInt_lt, i_lt, Int32.toInt_toInt64, Int32.toInt_toInt64]
theorem r_in {a b : Int32} {y2 y3 : Int64} (h2 : y2 = a.toInt64) (h3 : y3 = b.toInt64) (hq : Q (some (.inl (bc (a ≤ x ∧ x ≤ b)))) μ) : si_W sc d 122 0 [some (.inr (.inl x.toInt64)), none, some (.inr (.inl y2)), none, some (.inr (.inl y3)), none] [] μ Q := by
  subst h2
  subst h3
  refine k_X7_in_0 ⟨fun c => ⟨b0, ?_⟩, fun c => ⟨fun c2 => ⟨b0, ?_⟩, fun c2 => ⟨b1, ?_⟩⟩⟩
  · rw [lg_cmp_lt, l_lt] at c
    rw [bc_f (fun q => i_nlt.mpr q.1 c)] at hq; exact hq
  · rw [lg_cmp_gt, l_lt] at c2
    rw [bc_f (fun q => i_nlt.mpr q.2 c2)] at hq; exact hq
  · rw [lg_cmp_lt, l_lt] at c
    rw [lg_cmp_gt, l_lt] at c2
    have hc : a ≤ x ∧ x ≤ b := ⟨i_nlt.mp c, i_nlt.mp c2⟩
    rw [bc_t hc] at hq; exact hq
theorem l0 : Int64.ofNat ((0 : Fin 2) : Nat) = (0 : Int32).toInt64 := by decide
theorem l1 : Int64.ofNat ((1 : Fin 2) : Nat) = (1 : Int32).toInt64 := by decide
theorem RV.P (h : RV μ S) (hw : gw S n) : μ.1 7 0 14 = nI (gP S) := h.2.2.2.2.1.trans hw.2.1
theorem isP_i (hw : gw S n) : isP S o ↔ (0 ≤ o ∧ o ≤ nI (gP S) - 1) := by
  have h8 := hw.1
  unfold isP
  have hr := fb_rng0 o
  rw [i_lt, i_le, i_le, i_0, i_sub (by rw [nI_toInt (by omega), i_1]; omega) (by rw [nI_toInt (by omega), i_1]; omega), nI_toInt (by omega), i_1]
  omega
theorem r_isOne (h : RV μ S) (hw : gw S n) (hq : Q (some (.inl (bc (isP S o)))) μ) : si_W sc (d + 1) 126 0 [some (.inr (.inr (7, 0))), some (.inl o)] [] μ Q := by
  refine k_X7_isOne_0 (r_in (b := μ.1 7 0 14 - 1) l0 rfl (k_X7_isOne_13 ⟨bc_01 _, ?_⟩))
  rw [h.P hw, ← bc_iff (isP_i hw)]; exact hq
theorem r_isStrip (hq : Q (some (.inl (bc (0 ≤ x ∧ x ≤ 5)))) μ) : si_W sc (d + 1) 127 0 [some (.inl x)] [] μ Q := k_X7_isStrip_0 (r_in (b := 5) l0 (by decide +kernel) (k_X7_isStrip_9 ⟨bc_01 _, hq⟩))
theorem at_n {p w : Nat} : 6 + 4 * nI p + nI w = nI (6 + 4 * p + w) := by
  have e6 : (6 : Int32) = nI 6 := rfl
  have e4 : (4 : Int32) = nI 4 := rfl
  rw [e6, e4, pk_mul, nI_add, nI_add]
theorem at_0 {p : Nat} : 6 + 4 * nI p + 0 = nI (6 + 4 * p) := at_n (w := 0)
theorem at_1 {p : Nat} : 6 + 4 * nI p + 1 = nI (6 + 4 * p + 1) := at_n (w := 1)
theorem at_2 {p : Nat} : 6 + 4 * nI p + 2 = nI (6 + 4 * p + 2) := at_n (w := 2)
theorem at_3 {p : Nat} : 6 + 4 * nI p + 3 = nI (6 + 4 * p + 3) := at_n (w := 3)
theorem r_stripOf {p : Nat} (h : RV μ S) (hp : p < gP S) (h8 : gP S ≤ 8) (hq : Q (some (.inl (S 18 p))) μ) : si_W sc (d + 1) 129 0 [some (.inr (.inr (7, 0))), some (.inl (nI p))] [] μ Q := by
  refine k_X7_stripOf_0 (k_X7_at_0 (k_X7_stripOf_9 ?_))
  rw [at_0, nI_c (by omega), (h.2.2.2.2.2.2 p hp).2.2.1]
  exact ⟨vp_in_nI (by omega) (by omega), hq⟩
theorem r_hasOne (h : RV μ S) (hw : gw S n) (hq : Q (some (.inl (bc (isP S o ∧ 0 ≤ S 18 o.toNatClampNeg)))) μ) : si_W sc (d + 2) 130 0 [some (.inr (.inr (7, 0))), some (.inl o)] [] μ Q := by
  refine k_X7_hasOne_0 (r_isOne h hw (k_X7_hasOne_5 ⟨fun c => ⟨b0, ?_⟩, fun c => ?_⟩))
  · rw [bc_f (fun q => bc_0 c q.1)] at hq; exact hq
  · have hp := isP_c hw (bc_n c)
    have h8 := hw.1
    rw [hp.2]
    refine r_stripOf h hp.1 h8 (k_X7_hasOne_13 ⟨fun c2 => ⟨b0, ?_⟩, fun c2 => ⟨b1, ?_⟩⟩)
    · rw [bc_f (fun q => i_nlt.mpr q.2 c2)] at hq; exact hq
    · have hc : isP S o ∧ 0 ≤ S 18 o.toNatClampNeg := ⟨bc_n c, i_nlt.mp c2⟩
      rw [bc_t hc] at hq; exact hq
theorem r_waits (h : RV μ S) (hw : gw S n) (hq : Q (some (.inl (bc (isP S o ∧ S 18 o.toNatClampNeg = -1)))) μ) : si_W sc (d + 2) 131 0 [some (.inr (.inr (7, 0))), some (.inl o)] [] μ Q := by
  refine k_X7_waits_0 (r_isOne h hw (k_X7_waits_5 ⟨fun c => ⟨b0, ?_⟩, fun c => ?_⟩))
  · rw [bc_f (fun q => bc_0 c q.1)] at hq; exact hq
  · have hp := isP_c hw (bc_n c)
    have h8 := hw.1
    rw [hp.2]
    refine r_stripOf h hp.1 h8 (k_X7_waits_13 ⟨fun c2 => ⟨b0, ?_⟩, fun c2 => ⟨b1, ?_⟩⟩)
    · rw [bc_f (fun q => c2 q.2)] at hq; exact hq
    · have hc : isP S o ∧ S 18 o.toNatClampNeg = -1 := ⟨bc_n c, c2⟩
      rw [bc_t hc] at hq; exact hq
theorem r_whose {s : Int32} (h : RV μ S) (hw : gw S n) (hq : Q (some (.inl (g_find (S 18) s (gP S) 0))) μ) : si_W sc (d + 2) 134 0 [some (.inr (.inr (7, 0))), some (.inl s), none] [] μ Q := by
  have h8 := hw.1
  have lp : ∀ (m k : Nat), k + m = gP S → Q (some (.inl (g_find (S 18) s m k))) μ → si_W sc (d + 2) 134 2 [some (.inr (.inr (7, 0))), some (.inl s), some (.inl (nI k))] [] μ Q := by
    intro m
    induction m with
    | zero =>
      intro k hk hq
      refine k_X7_whose_2 ⟨fun _ => hq, fun hn => absurd ?_ hn⟩
      rw [h.P hw, nI_le8 (by omega) (by omega)]; omega
    | succ m ih =>
      intro k hk hq
      rw [g_find] at hq
      refine k_X7_whose_2 ⟨fun hn => ?_, fun _ => r_stripOf h (by omega) h8 (k_X7_whose_15 ⟨fun c => ?_, fun c => ?_⟩)⟩
      · rw [h.P hw, nI_le8 (by omega) (by omega)] at hn; omega
      · rw [if_neg c] at hq
        rw [nI_1]; exact ih (k + 1) (by omega) hq
      · rw [if_pos c] at hq; exact hq
  exact k_X7_whose_0 (lp (gP S) 0 (by omega) hq)
theorem r_puts {p : Nat} {v : Int32} (hp : p < 8) (hq : Q none (pc3 μ p v)) : si_W sc (d + 1) 187 0 [some (.inr (.inr (7, 0))), some (.inl (nI p)), some (.inl v)] [] μ Q := by
  refine k_X7_puts_0 (k_X7_at_0 (k_X7_puts_9 ?_))
  rw [at_0, nI_c (by omega)]
  refine ⟨vp_in_nI (by omega) (by omega), k_X7_at_0 (k_X7_puts_20 ?_)⟩
  rw [at_1, nI_c (by omega)]
  refine ⟨vp_in_nI (by omega) (by omega), k_X7_at_0 (k_X7_puts_31 ?_)⟩
  rw [at_2, nI_c (by omega)]
  exact ⟨vp_in_nI (by omega) (by omega), hq⟩
theorem r_within {a b : Int32} (hq : Q (some (.inl (if x < a then a else if b < x then b else x))) μ) : si_W sc d 123 0 [some (.inl x), some (.inl a), some (.inl b)] [] μ Q := by
  refine k_X7_within_0 ⟨fun c => ⟨fun c2 => ?_, fun c2 => ?_⟩, fun c => ?_⟩
  · rw [if_neg (i_nlt.mpr c), if_neg (i_nlt.mpr c2)] at hq; exact hq
  · rw [if_neg (i_nlt.mpr c), if_pos (i_nle.mp c2)] at hq; exact hq
  · rw [if_pos (i_nle.mp c)] at hq; exact hq
end RA
