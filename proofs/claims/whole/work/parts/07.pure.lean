theorem si_len {len n : Nat} {X : Bool} (h : (Nat.beq len n && X) = true) : len = n ∧ X = true := by
  rw [Bool.and_eq_true] at h
  exact ⟨Nat.eq_of_beq_eq_true h.1, h.2⟩
theorem si_len1 {len n : Nat} (h : Nat.beq len n = true) : len = n := Nat.eq_of_beq_eq_true h
theorem si_pI_e {st : List si_AV} {k : Int32 → List si_AV → Prop} (h : si_pI st k) : ∃ x r, st = .inl x :: r ∧ k x r := by
  unfold si_pI at h
  split at h
  · exact ⟨_, _, rfl, h⟩
  · exact h.elim
theorem si_pL_e {st : List si_AV} {k : Int64 → List si_AV → Prop} (h : si_pL st k) : ∃ x r, st = .inr (.inl x) :: r ∧ k x r := by
  unfold si_pL at h
  split at h
  · exact ⟨_, _, rfl, h⟩
  · exact h.elim
theorem si_pR_e {st : List si_AV} {k : Nat → Nat → List si_AV → Prop} (h : si_pR st k) : ∃ t i r, st = .inr (.inr (t, i)) :: r ∧ k t i r := by
  unfold si_pR at h
  split at h
  · exact ⟨_, _, _, rfl, h⟩
  · exact h.elim
theorem si_lI_e {lv : si_Lv} {i : Nat} {k : Int32 → Prop} (h : si_lI lv i k) : ∃ x, si_nth lv i = some (.inl x) ∧ k x := by
  unfold si_lI at h
  split at h
  · next x e => exact ⟨x, e, h⟩
  · exact h.elim
theorem si_lL_e {lv : si_Lv} {i : Nat} {k : Int64 → Prop} (h : si_lL lv i k) : ∃ x, si_nth lv i = some (.inr (.inl x)) ∧ k x := by
  unfold si_lL at h
  split at h
  · next x e => exact ⟨x, e, h⟩
  · exact h.elim
theorem si_lR_e {lv : si_Lv} {i : Nat} {k : Nat → Nat → Prop} (h : si_lR lv i k) : ∃ x y, si_nth lv i = some (.inr (.inr (x, y))) ∧ k x y := by
  unfold si_lR at h
  split at h
  · next x y e => exact ⟨x, y, e, h⟩
  · exact h.elim
theorem si_bif_e {c : Bool} {A : Prop} (h : bif c then A else False) : c = true ∧ A := by
  cases c
  · exact h.elim
  · exact ⟨rfl, h⟩
theorem si_take_e {k : List si_AV → List si_AV → Prop} : ∀ (n : Nat) (st acc : List si_AV), si_take n st acc k → ∃ as r, as.length = n ∧ st = as.reverse ++ r ∧ k (as ++ acc) r
  | 0, st, acc, h => ⟨[], st, rfl, rfl, h⟩
  | n + 1, v :: st, acc, h => by
    obtain ⟨as, r, h1, h2, h3⟩ := si_take_e n st (v :: acc) h
    refine ⟨as ++ [v], r, by simp [h1], by simp [h2], ?_⟩
    simpa using h3
  | _ + 1, [], _, h => h.elim
theorem si_nth_put_eq : ∀ (lv : si_Lv) (i : Nat) (v : Option si_AV) (w : si_AV), si_nth (si_put lv i v) i = some w → v = some w
  | [], _, _, _, h => by simp [si_put, si_nth] at h
  | _ :: r, 0, v, w, h => h
  | a :: r, n + 1, v, w, h => si_nth_put_eq r n v w h
theorem si_nth_put_ne : ∀ (lv : si_Lv) (i k : Nat) (v : Option si_AV), i ≠ k → si_nth (si_put lv i v) k = si_nth lv k
  | [], _, _, _, _ => rfl
  | _ :: r, 0, 0, _, h => absurd rfl h
  | _ :: r, 0, k + 1, _, _ => rfl
  | a :: r, n + 1, 0, _, _ => rfl
  | a :: r, n + 1, k + 1, v, h => si_nth_put_ne r n k v (fun e => h (by rw [e]))
theorem si_put_len : ∀ (lv : si_Lv) (i : Nat) (v : Option si_AV), (si_put lv i v).length = lv.length
  | [], _, _ => rfl
  | _ :: r, 0, _ => rfl
  | a :: r, n + 1, v => by simp [si_put, si_put_len r n v]
theorem si_clr_len (lv : si_Lv) (i : Nat) : (si_clr lv i).length = lv.length := by
  unfold si_clr
  split
  · rfl
  · split
    · exact si_put_len _ _ _
    · rfl
theorem si_clr_nth (lv : si_Lv) (i k : Nat) (w : si_AV) (h : si_nth (si_clr lv i) k = some w) : si_nth lv k = some w ∧ (k + 1 = i → si_c2 w = false) := by
  unfold si_clr at h
  split at h
  · exact ⟨h, fun e => by omega⟩
  · next k0 =>
    split at h
    · next y e =>
      by_cases hk : k0 = k
      · subst hk
        have := si_nth_put_eq _ _ _ _ h
        cases this
      · rw [si_nth_put_ne _ _ _ _ hk] at h
        exact ⟨h, fun e => by omega⟩
    · next hn =>
      refine ⟨h, fun e => ?_⟩
      have e : k = k0 := by omega
      subst e
      match w, h with
      | .inl _, _ => rfl
      | .inr (.inl y), h => exact absurd h (hn y)
      | .inr (.inr _), _ => rfl
theorem si_sto_len (J : Bool) (lv : si_Lv) (i : Nat) (v : si_AV) : (si_sto J lv i v).length = lv.length := by
  unfold si_sto
  cases J
  · exact si_put_len _ _ _
  · exact (si_put_len _ _ _).trans (si_clr_len _ _)
theorem si_sto_nth {J : Bool} {lv : si_Lv} {i k : Nat} {v w : si_AV} (h : si_nth (si_sto J lv i v) k = some w) : (k = i ∧ w = v) ∨ (k ≠ i ∧ si_nth lv k = some w ∧ (J = true → k + 1 = i → si_c2 w = false)) := by
  unfold si_sto at h
  by_cases hk : i = k
  · subst hk
    left
    cases J
    · have := si_nth_put_eq _ _ _ _ h
      cases this
      exact ⟨rfl, rfl⟩
    · have := si_nth_put_eq _ _ _ _ h
      cases this
      exact ⟨rfl, rfl⟩
  · right
    cases J
    · have h : si_nth (si_put lv i (some v)) k = some w := h
      rw [si_nth_put_ne _ _ _ _ hk] at h
      exact ⟨fun e => hk e.symm, h, fun e => by cases e⟩
    · have h : si_nth (si_put (si_clr lv i) i (some v)) k = some w := h
      rw [si_nth_put_ne _ _ _ _ hk] at h
      have h2 := si_clr_nth _ _ _ _ h
      exact ⟨fun e => hk e.symm, h2.1, fun _ => h2.2⟩
theorem si_nth_lt : ∀ (lv : si_Lv) (i : Nat) (w : si_AV), si_nth lv i = some w → i < lv.length
  | [], _, _, h => by simp [si_nth] at h
  | _ :: r, 0, _, _ => by simp
  | _ :: r, n + 1, w, h => by have := si_nth_lt r n w h; simp only [List.length_cons]; omega
def si_cv (ad : Nat → Nat → Nat) : si_AV → Value
  | .inl x => .int x
  | .inr (.inl x) => .long x
  | .inr (.inr (t, i)) => .ref (ad t i)
theorem si_cv_cat (ad : Nat → Nat → Nat) (v : si_AV) : ((si_cv ad v).category == 2) = si_c2 v := by
  match v with
  | .inl _ => rfl
  | .inr (.inl _) => rfl
  | .inr (.inr (_, _)) => rfl
theorem si_w8_cat (ad : Nat → Nat → Nat) : ∀ st : List si_AV, ((st.map (si_cv ad)).map fun v => v.category).sum = si_w8 st
  | [] => rfl
  | v :: r => by
    have ih := si_w8_cat ad r
    simp only [List.map_cons, List.sum_cons, si_w8]
    rw [ih]
    match v with
    | .inl _ => rfl
    | .inr (.inl _) => rfl
    | .inr (.inr (_, _)) => rfl
def si_fv (ad : Nat → Nat → Nat) (f : Nat × Nat × Nat) (i : Nat) (x : Int32) (y : Int64) : Value := match si_gf f i x y with
  | some w => si_cv ad w
  | none => .null
noncomputable def si_ce (ad : Nat → Nat → Nat) (cI cZ : ClassId) (μ : si_Mm) (q : Nat × Nat) : Nat × va_E := (ad q.1 q.2,
  bif Nat.beq (si_arr q.1).1 0 then .inl (cI, ((si_arr q.1).2, .inl (μ.1 q.1 q.2)))
  else bif Nat.beq (si_arr q.1).1 1 then .inl (cZ, ((si_arr q.1).2, .inl (μ.1 q.1 q.2)))
  else .inr (q.1, (List.range (si_N q.1)).map fun k => si_fv ad (si_fld q.1 k) q.2 (μ.1 q.1 q.2 k) μ.2))
noncomputable def si_ws (ad : Nat → Nat → Nat) (cI cZ : ClassId) (CL : List (Nat × Nat)) (μ : si_Mm) : va_W := CL.map (si_ce ad cI cZ μ)
def si_lV (CL : List (Nat × Nat)) : si_AV → Prop
  | .inl _ => True
  | .inr (.inl _) => True
  | .inr (.inr q) => q ∈ CL ∨ (q.1 = 90 ∧ q.2 < 12) ∨ q = (91, 0) ∨ q = (92, 0)
def si_okC (CL : List (Nat × Nat)) : Prop := (∀ (i j : Nat) (q : Nat × Nat), CL[i]? = some q → CL[j]? = some q → i = j) ∧ (∀ q ∈ CL, q.1 < 45) ∧ (∀ q ∈ CL, ∀ k, k < si_N q.1 → ∀ x y w, si_gf (si_fld q.1 k) q.2 x y = some w → si_lV CL w) ∧ (∀ q ∈ CL, ∀ k, k < si_N q.1 → (si_fld q.1 k).1 = 1 → q = (7, 0) ∧ k = 26)
section SWS
variable {ad : Nat → Nat → Nat} {cI cZ : ClassId} {CL : List (Nat × Nat)} {A : Nat → Prop}
theorem si_ws_at {μ : si_Mm} {q : Nat × Nat} (h : q ∈ CL) : ∃ n : Nat, CL[n]? = some q ∧ (si_ws ad cI cZ CL μ)[n]? = some (si_ce ad cI cZ μ q) := by
  obtain ⟨n, hn⟩ := List.getElem?_of_mem h
  exact ⟨n, hn, by unfold si_ws; rw [List.getElem?_map, hn]; rfl⟩
theorem si_ws_D {μ μ' : si_Mm} (h : va_D A (si_ws ad cI cZ CL μ)) : va_D A (si_ws ad cI cZ CL μ') := by
  have key : ∀ (i : Nat) (p : Nat × va_E), (si_ws ad cI cZ CL μ')[i]? = some p → ∃ p', (si_ws ad cI cZ CL μ)[i]? = some p' ∧ p'.1 = p.1 := by
    intro i p hp
    unfold si_ws at hp ⊢
    rw [List.getElem?_map] at hp ⊢
    cases hq : CL[i]? with
    | none => rw [hq] at hp; cases hp
    | some q => rw [hq] at hp; cases hp; exact ⟨_, rfl, rfl⟩
  refine ⟨fun i j p q h1 h2 e => ?_, fun k q h1 => ?_⟩
  · obtain ⟨p', a1, a2⟩ := key i p h1
    obtain ⟨q', b1, b2⟩ := key j q h2
    exact h.1 i j p' q' a1 b1 (by rw [a2, b2, e])
  · obtain ⟨p', a1, a2⟩ := key k q h1
    rw [← a2]
    exact h.2 k p' a1
theorem si_ws_set {μ μ' : si_Mm} (hC : si_okC CL) {n : Nat} {q : Nat × Nat} (hn : CL[n]? = some q) (h : ∀ q', q' ∈ CL → q' ≠ q → si_ce ad cI cZ μ' q' = si_ce ad cI cZ μ q') : (si_ws ad cI cZ CL μ).set n (si_ce ad cI cZ μ' q) = si_ws ad cI cZ CL μ' := by
  refine List.ext_getElem? fun m => ?_
  unfold si_ws
  rw [List.getElem?_set, List.getElem?_map, List.getElem?_map]
  by_cases hm : n = m
  · subst hm
    rw [if_pos rfl, hn]
    have hl : n < CL.length := (List.getElem?_eq_some_iff.mp hn).1
    simp [hl]
  · rw [if_neg hm]
    cases hq : CL[m]? with
    | none => rfl
    | some q' =>
      have hne : q' ≠ q := fun e => hm (hC.1 n m q hn (by rw [hq, e]))
      simp [h q' (List.mem_of_getElem? hq) hne]
end SWS
theorem si_arr_lt8 : ∀ a, a < 8 → si_arr a = (9, 0) := by decide +kernel
theorem si_cls_at : ∀ a, a < 8 → si_cls[a]? = some (si_R a, si_T a, si_N a) := by
  intro a h
  match a, h with
  | 0, _ => rfl
  | 1, _ => rfl
  | 2, _ => rfl
  | 3, _ => rfl
  | 4, _ => rfl
  | 5, _ => rfl
  | 6, _ => rfl
  | 7, _ => rfl
theorem si_inws : ∀ a, a < 8 → ∀ w ∈ u_ws (si_R a) (si_T a) (si_N a), w ∈ si_tb := by
  intro a h
  match a, h with
  | 0, _ => exact si_in0
  | 1, _ => exact si_in1
  | 2, _ => exact si_in2
  | 3, _ => exact si_in3
  | 4, _ => exact si_in4
  | 5, _ => exact si_in5
  | 6, _ => exact si_in6
  | 7, _ => exact si_in7
theorem si_tyok : ∀ a, a < 8 → ∀ k, k < si_N a → parseFieldDescriptor (si_T a k).2.2.1 = some (si_ty a k) := by
  intro a h
  match a, h with
  | 0, _ => exact tyX0_ok
  | 1, _ => exact tyX1_ok
  | 2, _ => exact tyX2_ok
  | 3, _ => exact tyX3_ok
  | 4, _ => exact tyX4_ok
  | 5, _ => exact tyX5_ok
  | 6, _ => exact tyX6_ok
  | 7, _ => exact tyX7_ok
theorem si_nmok : ∀ a, a < 8 → ∀ k, k < si_N a → ∀ b, b < si_N a → k ≠ b → (si_T a k).2.1 ≠ (si_T a b).2.1 := by
  intro a h
  match a, h with
  | 0, _ => exact nmX0
  | 1, _ => exact nmX1
  | 2, _ => exact nmX2
  | 3, _ => exact nmX3
  | 4, _ => exact nmX4
  | 5, _ => exact nmX5
  | 6, _ => exact nmX6
  | 7, _ => exact nmX7
theorem si_fty : ∀ a, a < 8 → ∀ k, k < si_N a → (((si_fld a k).1 = 0 → si_ty a k = .int) ∧ ((si_fld a k).1 = 4 → si_ty a k = .boolean) ∧ ((si_fld a k).1 = 1 → si_ty a k = .long)) := by decide +kernel
theorem si_tbl {w : Cond} (h : w ∈ si_tb) : w ∈ lw_tbl := (List.mem_filter.mp h).1
theorem si_gd {w : Cond} (h : w ∈ si_tb) : (w.onTables && w.keeps) = true ∨ ∃ ty, w = .arrayClass ty := good_of_word (List.mem_filter.mp h).2
