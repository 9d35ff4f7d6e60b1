theorem si_N_ge : ∀ a, 8 ≤ a → si_N a = 0 := by
  intro a h
  unfold si_N
  have e : ∀ k, k < 8 → Nat.ble a k = false := fun k hk => by
    cases h1 : Nat.ble a k with
    | false => rfl
    | true => have := Nat.le_of_ble_eq_true h1; omega
  have e2 : ∀ k, k < 8 → Nat.beq a k = false := fun k hk => by
    cases h1 : Nat.beq a k with
    | false => rfl
    | true => have := Nat.eq_of_beq_eq_true h1; omega
  simp [e, e2, cond]
theorem si_hd {CL : List (Nat × Nat)} {v : si_AV} {r : List si_AV} (h : ∀ u ∈ v :: r, si_lV CL u) : ∀ u ∈ r, si_lV CL u := fun u hu => h u (List.mem_cons_of_mem _ hu)
theorem si_cs {CL : List (Nat × Nat)} {v : si_AV} {r : List si_AV} (hv : si_lV CL v) (h : ∀ u ∈ r, si_lV CL u) : ∀ u ∈ v :: r, si_lV CL u := fun u hu => (List.mem_cons.mp hu).elim (fun e => e ▸ hv) (h u)
theorem si_ms_same (μ : si_Mm) (t i j : Nat) (v : Int32) : (si_ms μ t i j v).1 t i = upd (μ.1 t i) j v := by
  funext k
  unfold si_ms upd
  by_cases h : k = j
  · subst h; simp
  · simp [h]
theorem si_ms_ne (μ : si_Mm) {t i t' i' : Nat} (j : Nat) (v : Int32) (h : (t', i') ≠ (t, i)) : (si_ms μ t i j v).1 t' i' = μ.1 t' i' := by
  funext k
  unfold si_ms
  have : ¬ (t' = t ∧ i' = i ∧ k = j) := fun e => h (by rw [e.1, e.2.1])
  simp [this]
theorem si_mc_same (μ : si_Mm) (t0 i0 sp t i dp n : Nat) : (si_mc μ t0 i0 sp t i dp n).1 t i = va_cpy (μ.1 t0 i0) (μ.1 t i) sp dp n := by
  funext k
  simp [si_mc]
theorem si_mc_ne (μ : si_Mm) {t0 i0 sp t i dp n t' i' : Nat} (h : (t', i') ≠ (t, i)) : (si_mc μ t0 i0 sp t i dp n).1 t' i' = μ.1 t' i' := by
  funext k
  unfold si_mc
  have : ¬ (t' = t ∧ i' = i) := fun e => h (by rw [e.1, e.2])
  simp [this]
section SW
variable {ad : Nat → Nat → Nat} {cI cZ : ClassId} {CL : List (Nat × Nat)}
theorem si_ce_ne {μ μ' : si_Mm} {q : Nat × Nat} (h : μ'.1 q.1 q.2 = μ.1 q.1 q.2) (h2 : μ'.2 = μ.2) : si_ce ad cI cZ μ' q = si_ce ad cI cZ μ q := by
  unfold si_ce
  rw [h, h2]
theorem si_ce_arr0 {μ : si_Mm} {q : Nat × Nat} (h : Nat.beq (si_arr q.1).1 0 = true) : si_ce ad cI cZ μ q = (ad q.1 q.2, .inl (cI, ((si_arr q.1).2, .inl (μ.1 q.1 q.2)))) := by
  unfold si_ce
  rw [h]
  rfl
theorem si_ce_arr1 {μ : si_Mm} {q : Nat × Nat} (h : Nat.beq (si_arr q.1).1 1 = true) : si_ce ad cI cZ μ q = (ad q.1 q.2, .inl (cZ, ((si_arr q.1).2, .inl (μ.1 q.1 q.2)))) := by
  have e : Nat.beq (si_arr q.1).1 0 = false := by
    rw [Nat.eq_of_beq_eq_true h]; rfl
  unfold si_ce
  rw [e, h]
  rfl
theorem si_ce_obj {μ : si_Mm} {q : Nat × Nat} (h : q.1 < 8) : si_ce ad cI cZ μ q = (ad q.1 q.2, .inr (q.1, (List.range (si_N q.1)).map fun k => si_fv ad (si_fld q.1 k) q.2 (μ.1 q.1 q.2 k) μ.2)) := by
  unfold si_ce
  rw [si_arr_lt8 _ h]
  rfl
theorem si_ar_set {μ μ' : si_Mm} (hC : si_okC CL) {n : Nat} {q : Nat × Nat} (hn : CL[n]? = some q) {g : Nat → Int32} (h : Nat.beq (si_arr q.1).1 0 = true) (e : μ'.1 q.1 q.2 = g) (he : ∀ q', q' ≠ q → μ'.1 q'.1 q'.2 = μ.1 q'.1 q'.2) (h2 : μ'.2 = μ.2) : (si_ws ad cI cZ CL μ).set n (ad q.1 q.2, .inl (cI, ((si_arr q.1).2, .inl g))) = si_ws ad cI cZ CL μ' := by
  rw [← si_ws_set (μ' := μ') hC hn (fun q' _ hne => si_ce_ne (he q' hne) h2), si_ce_arr0 h, e]
theorem si_br_set {μ μ' : si_Mm} (hC : si_okC CL) {n : Nat} {q : Nat × Nat} (hn : CL[n]? = some q) {g : Nat → Int32} (h : Nat.beq (si_arr q.1).1 1 = true) (e : μ'.1 q.1 q.2 = g) (he : ∀ q', q' ≠ q → μ'.1 q'.1 q'.2 = μ.1 q'.1 q'.2) (h2 : μ'.2 = μ.2) : (si_ws ad cI cZ CL μ).set n (ad q.1 q.2, .inl (cZ, ((si_arr q.1).2, .inl g))) = si_ws ad cI cZ CL μ' := by
  rw [← si_ws_set (μ' := μ') hC hn (fun q' _ hne => si_ce_ne (he q' hne) h2), si_ce_arr1 h, e]
theorem si_fs_set {μ : si_Mm} {a i b : Nat} {x : Int32} (hb : b < si_N a) (hf : (si_fld a b).1 = 0 ∨ (si_fld a b).1 = 4) : ((List.range (si_N a)).map fun k => si_fv ad (si_fld a k) i (μ.1 a i k) μ.2).set b (.int x) = (List.range (si_N a)).map fun k => si_fv ad (si_fld a k) i ((si_ms μ a i b x).1 a i k) (si_ms μ a i b x).2 := by
  refine List.ext_getElem? fun m => ?_
  rw [List.getElem?_set, List.getElem?_map, List.getElem?_map]
  by_cases hm : b = m
  · subst hm
    rw [if_pos rfl]
    simp only [List.length_map, List.length_range, hb, if_true, List.getElem?_range hb, Option.map_some]
    have : (si_ms μ a i b x).1 a i b = x := by simp [si_ms]
    rw [this]
    unfold si_fv si_gf
    rcases hf with hf | hf <;> rw [hf] <;> rfl
  · rw [if_neg hm]
    have : (si_ms μ a i b x).1 a i m = μ.1 a i m := by
      have h : ¬ (a = a ∧ i = i ∧ m = b) := fun e => hm e.2.2.symm
      unfold si_ms
      simp [Ne.symm hm]
    cases hr : (List.range (si_N a))[m]? with
    | none => rfl
    | some k =>
      have hk : k = m := by
        have := (List.getElem?_eq_some_iff.mp hr)
        obtain ⟨h1, h2⟩ := this
        simpa using h2.symm
      subst hk
      simp only [Option.map_some, this]
      rfl
theorem si_fo_set {μ : si_Mm} (hC : si_okC CL) {n a i b : Nat} {x : Int32} (hn : CL[n]? = some (a, i)) (ha : a < 8) (hb : b < si_N a) (hf : (si_fld a b).1 = 0 ∨ (si_fld a b).1 = 4) : (si_ws ad cI cZ CL μ).set n (ad a i, .inr (a, ((List.range (si_N a)).map fun k => si_fv ad (si_fld a k) i (μ.1 a i k) μ.2).set b (.int x))) = si_ws ad cI cZ CL (si_ms μ a i b x) := by
  rw [← si_ws_set (μ' := si_ms μ a i b x) hC hn (fun q' _ hne => si_ce_ne (si_ms_ne μ b x hne) rfl), si_ce_obj (q := (a, i)) ha, si_fs_set hb hf]
theorem si_fj_set {μ : si_Mm} (hC : si_okC CL) {n a i b : Nat} {y : Int64} (hn : CL[n]? = some (a, i)) (ha : a < 8) (hb : b < si_N a) (hf : (si_fld a b).1 = 1) : (si_ws ad cI cZ CL μ).set n (ad a i, .inr (a, ((List.range (si_N a)).map fun k => si_fv ad (si_fld a k) i (μ.1 a i k) μ.2).set b (.long y))) = si_ws ad cI cZ CL (μ.1, y) := by
  have hm : (a, i) ∈ CL := List.mem_of_getElem? hn
  have hg : ∀ (q : Nat × Nat), q ∈ CL → ∀ k, k < si_N q.1 → ¬ (q = (a, i) ∧ k = b) → ∀ x : Int32, si_fv ad (si_fld q.1 k) q.2 x y = si_fv ad (si_fld q.1 k) q.2 x μ.2 := by
    intro q hq k hk hne x
    have h1 : (si_fld q.1 k).1 ≠ 1 := fun e => hne (by
      obtain ⟨e1, e2⟩ := hC.2.2.2 q hq k hk e
      obtain ⟨e3, e4⟩ := hC.2.2.2 (a, i) hm b hb hf
      exact ⟨by rw [e1, e3], by rw [e2, e4]⟩)
    have h2 : Nat.beq (si_fld q.1 k).1 1 = false := by
      cases h : Nat.beq (si_fld q.1 k).1 1 with
      | false => rfl
      | true => exact absurd (Nat.eq_of_beq_eq_true h) h1
    unfold si_fv si_gf
    rw [h2]
    rfl
  have hl : ∀ (q : Nat × Nat), q ∈ CL → q.1 < 8 ∨ si_ce ad cI cZ (μ.1, y) q = si_ce ad cI cZ μ q := by
    intro q hq
    by_cases h0 : q.1 < 8
    · exact Or.inl h0
    · right
      by_cases h1 : Nat.beq (si_arr q.1).1 0 = true
      · rw [si_ce_arr0 h1, si_ce_arr0 h1]
      · by_cases h2 : Nat.beq (si_arr q.1).1 1 = true
        · rw [si_ce_arr1 h2, si_ce_arr1 h2]
        · have hN : si_N q.1 = 0 := si_N_ge _ (Nat.le_of_not_lt h0)
          unfold si_ce
          rw [hN]
          rfl
  rw [← si_ws_set (μ := μ) (μ' := (μ.1, y)) hC hn ?_]
  · congr 1
    rw [si_ce_obj (q := (a, i)) ha]
    refine Prod.ext rfl ?_
    show Sum.inr _ = Sum.inr _
    congr 2
    refine List.ext_getElem? fun m => ?_
    rw [List.getElem?_set, List.getElem?_map, List.getElem?_map]
    by_cases hmb : b = m
    · subst hmb
      rw [if_pos rfl]
      simp only [List.length_map, List.length_range, hb, if_true, List.getElem?_range hb, Option.map_some]
      unfold si_fv si_gf
      rw [hf]
      rfl
    · rw [if_neg hmb]
      cases hr : (List.range (si_N a))[m]? with
      | none => rfl
      | some k =>
        have hk := (List.getElem?_eq_some_iff.mp hr)
        obtain ⟨h1, h2⟩ := hk
        have hk2 : k = m := by simpa using h2.symm
        have hlt : m < si_N a := by simpa using h1
        subst hk2
        simp only [Option.map_some]
        rw [hg (a, i) hm k hlt (fun e => hmb e.2.symm)]
  · intro q' hq' hne
    rcases hl q' hq' with h0 | h0
    · rw [si_ce_obj h0, si_ce_obj h0]
      refine Prod.ext rfl ?_
      show Sum.inr _ = Sum.inr _
      congr 2
      refine List.map_congr_left fun k hk => ?_
      exact hg q' hq' k (List.mem_range.mp hk) (fun e => hne e.1) _
    · exact h0
end SW
