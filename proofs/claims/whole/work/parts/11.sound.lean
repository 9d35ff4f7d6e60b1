theorem si_enL_len : ∀ as : List si_AV, (si_enL as).length = si_w8 as
  | [] => rfl
  | v :: r => by
    have ih := si_enL_len r
    unfold si_enL si_w8
    cases si_c2 v
    · show (si_enL r).length + 1 = 1 + si_w8 r
      omega
    · show (si_enL r).length + 1 + 1 = 2 + si_w8 r
      omega
theorem si_sl_len (ad : Nat → Nat → Nat) : ∀ as : List si_AV, (lg_sl (as.map (si_cv ad))).length = si_w8 as
  | [] => rfl
  | v :: r => by
    have ih := si_sl_len ad r
    unfold lg_sl at ih ⊢
    rw [List.map_cons, List.flatMap_cons, List.length_append, ih]
    show _ = (bif si_c2 v then 2 else 1) + si_w8 r
    match v with
    | .inl _ => rfl
    | .inr (.inl _) => rfl
    | .inr (.inr (_, _)) => rfl
theorem si_nth_app : ∀ (lv : si_Lv) (n i : Nat) (v : si_AV), si_nth (lv ++ List.replicate n none) i = some v → si_nth lv i = some v
  | [], 0, _, _, h => h
  | [], n + 1, 0, _, h => by cases h
  | [], n + 1, i + 1, v, h => si_nth_app [] n i v h
  | _ :: _, _, 0, _, h => h
  | _ :: r, n, i + 1, v, h => si_nth_app r n i v h
theorem si_enL_mem (ad : Nat → Nat → Nat) : ∀ (as : List si_AV) (k i : Nat) (v : si_AV), si_nth (si_enL as) i = some v → (k + i, si_cv ad v) ∈ lv_args k (as.map (si_cv ad)) ∧ v ∈ as
  | [], _, _, _, h => by cases h
  | u :: r, k, i, v, h => by
    have hcat := si_cv_cat ad u
    rw [List.map_cons, lv_args]
    unfold si_enL at h
    cases hc : si_c2 u with
    | false =>
      rw [hc] at h hcat
      have e : ¬ (si_cv ad u).category = 2 := by simpa using hcat
      rw [if_neg e]
      match i, h with
      | 0, h =>
        have h : some u = some v := h
        cases h
        exact ⟨List.mem_cons_self, List.mem_cons_self⟩
      | i + 1, h =>
        have ih := si_enL_mem ad r (k + 1) i v h
        refine ⟨List.mem_cons_of_mem _ ?_, List.mem_cons_of_mem _ ih.2⟩
        have e2 : k + (i + 1) = k + 1 + i := by omega
        rw [e2]
        exact ih.1
    | true =>
      rw [hc] at h hcat
      have e : (si_cv ad u).category = 2 := by simpa using hcat
      rw [if_pos e]
      match i, h with
      | 0, h =>
        have h : some u = some v := h
        cases h
        exact ⟨List.mem_cons_self, List.mem_cons_self⟩
      | 1, h => exact absurd (show (none : Option si_AV) = some v from h) (by simp)
      | i + 2, h =>
        have ih := si_enL_mem ad r (k + 2) i v h
        refine ⟨List.mem_cons_of_mem _ ?_, List.mem_cons_of_mem _ ih.2⟩
        have e2 : k + (i + 2) = k + 2 + i := by omega
        rw [e2]
        exact ih.1
theorem si_lo_entry {ad : Nat → Nat → Nat} {CL : List (Nat × Nat)} {J : Bool} {as : List si_AV} {n : Nat} (h1 : ∀ v ∈ as, si_lV CL v) (h2 : si_w8 as ≤ n) (h3 : J = false → ∀ v ∈ as, si_c2 v = false) : si_lo ad CL J ((lg_sl (as.map (si_cv ad)) ++ List.replicate (n - (lg_sl (as.map (si_cv ad))).length) Slot.unset).toArray) n (si_pad n (si_enL as)) := by
  have hl := lv_entry (as.map (si_cv ad)) (n := n) (by rw [si_sl_len]; exact h2)
  refine ⟨hl.1, hl.2.1, ?_, fun i v hi => ?_⟩
  · unfold si_pad
    rw [List.length_append, List.length_replicate, si_enL_len]
    omega
  · have h4 := si_enL_mem ad as 0 i v (si_nth_app _ _ _ _ hi)
    rw [Nat.zero_add] at h4
    exact ⟨hl.2.2 _ h4.1, h1 _ h4.2, fun e => h3 e _ h4.2⟩
section SND
/-- what a frame of the light machine comes to on the machine itself -/
def si_PP (l : Launch) (D : va_G) (ad : Nat → Nat → Nat) (adV : Nat → Nat) (cI cZ : ClassId) (CL : List (Nat × Nat)) (sc : si_Sc) (d j pc : Nat) (lv : si_Lv) (st : List si_AV) (μ : si_Mm) (Q : si_Po) : Prop :=
  ∀ (p : Program) (e : Env) (R : Room) (s : State) (m : MethodId) (args : Array Value) (below : List Frame) (meth : Method) (c : Code) (H : Heap) (locs : List Loc) (cells slots : Nat) (A : Nat → Prop) (QQ : State → Prop) (ls : Array Slot),
    si_Ctx D ad adV cI cZ sc d j p R s m args c cells slots A → va_P D si_cls (si_ws ad cI cZ CL μ) H → va_D A (si_ws ad cI cZ CL μ) → va_S A s.heap H locs → si_lo ad CL (si_mJ j) ls (si_mL j) lv → (∀ v ∈ st, si_lV CL v) →
    (∀ pc' ls' r μ' H' locs', si_rtn j pc' r → Q r μ' → va_P D si_cls (si_ws ad cI cZ CL μ') H' → va_S A s.heap H' locs' → W p l e R s m args below meth c H' locs' cells slots QQ (F0 m pc' ls' (r.toList.map (si_cv ad)))) →
    W p l e R s m args below meth c H locs cells slots QQ (F0 m pc ls (st.map (si_cv ad)))
/-- length() and charAt() of the class' own texts -/
def si_SLp (l : Launch) (D : va_G) (ad : Nat → Nat → Nat) (adV : Nat → Nat) (cI cZ : ClassId) (sc : si_Sc) : Prop :=
  ∀ (p : Program) (e : Env) (R : Room) (s : State) (m : MethodId) (args : Array Value) (below : List Frame) (meth : Method) (c : Code) (cells slots d j : Nat) (A : Nat → Prop) (QQ : State → Prop), si_Ctx D ad adV cI cZ sc d j p R s m args c cells slots A →
    (∀ {H : Heap} {locs : List Loc} {pc i index : Nat} {ls : Array Slot} {rest : List Value}, i < 12 → (si_mO j, index, 5, 0) ∈ si_ML → decode (si_mB j) pc = .ok (.invokevirtual index, 3) → ls.size = si_mL j → (rest.map fun v => v.category).sum ≤ 8 → va_S A s.heap H locs → (∀ locs', va_S A s.heap H locs' → W p l e R s m args below meth c H locs' cells slots QQ (F0 m (pc + 3) ls (.int (nI (si_sl.getD i 0)) :: rest))) → W p l e R s m args below meth c H locs cells slots QQ (F0 m pc ls (.ref (ad 90 i) :: rest)))
    ∧ (∀ {H : Heap} {locs : List Loc} {pc i index : Nat} {x : Int32} {ls : Array Slot} {rest : List Value}, i < 12 → (si_mO j, index, 6, 0) ∈ si_ML → decode (si_mB j) pc = .ok (.invokevirtual index, 3) → ls.size = si_mL j → (rest.map fun v => v.category).sum ≤ 8 → vp_in x (si_sl.getD i 0) → va_S A s.heap H locs → (∀ locs', va_S A s.heap H locs' → W p l e R s m args below meth c H locs' cells slots QQ (F0 m (pc + 3) ls (.int ((si_sb.getD i []).getD x.toNatClampNeg 0) :: rest))) → W p l e R s m args below meth c H locs cells slots QQ (F0 m pc ls (.int x :: .ref (ad 90 i) :: rest)))
variable {l : Launch} {D : va_G} {ad : Nat → Nat → Nat} {adV : Nat → Nat} {cI cZ : ClassId} {CL : List (Nat × Nat)} {sc : si_Sc}
set_option maxHeartbeats 4000000 in
set_option maxRecDepth 20000 in
theorem si_met {d j : Nat} {as : List si_AV} {μ : si_Mm} {Q : si_Po} (hP : si_PP l D ad adV cI cZ CL sc d j 0 (si_pad (si_mL j) (si_enL as)) [] μ Q) (h1 : ∀ v ∈ as, si_lV CL v) (hj : j ∈ si_JA) (h2 : si_w8 as ≤ si_mL j) (h3 : si_mJ j = false → ∀ v ∈ as, si_c2 v = false) (sz : Nat) : Met l (si_mY j) (si_cdc j :: si_tb) (si_rm (d + 1)) (si_pre D ad adV cI cZ CL sc as μ sz) (si_post D ad cI cZ CL (si_mT j) Q (va_A (si_ws ad cI cZ CL μ) sz)) 0 0 (va_A (si_ws ad cI cZ CL μ) sz) := by
  obtain ⟨m1, m2, m3, m4, m5, m6⟩ := si_mck_e hj
  refine Met.ofW (cc := si_mB j) (maxL := si_mL j) (ret := si_mR j) m2 (si_cdc_eq j) ?_
  intro p e s m args below meth c s₁ B hml hv
  obtain ⟨rfl, hsz, hP0, hK, hD0, hE⟩ := hv
  have hx := B.exec
  have hb := B.bytes
  have hr := B.returns
  have hts := atoms_spec (ws := si_cdc j :: si_tb) B.pre
  have hown : s.vm.findClass (si_mY j).cls = some m.cls := findClass_of_methodNamed B.named
  rw [m1.1] at hown
  have hlocks := B.notSynchronized
  subst hsz
  rw [lg_entry_eq]
  refine hP p e _ s m _ below meth c _ [] 0 0 (va_A (si_ws ad cI cZ CL μ) s.heap.size) _ _ ⟨hx, hb, hml, hown, fun w hw => hts w (List.mem_cons_of_mem _ hw), ?_, ?_, Nat.zero_le _, Nat.zero_le _, hK, fun q h => Or.inr h, hE⟩ hP0 hD0.self va_S.rf (si_lo_entry h1 h2 h3) (fun _ h => by cases h) ?_
  · show d + 4 ≤ d + 1 + 3
    omega
  · show 200 * (d + 4) ≤ 200 * (d + 1 + 3)
    exact Nat.le_refl _
  · intro pc' ls' r μ' H' locs' hrt hq hP' hS'
    match r, hrt, hq with
    | none, hrt, hq =>
      rw [hrt.2]
      have hr0 : meth.sig.returnType = none := by rw [hr, m5, hrt.2]; rfl
      exact W.vret hx hb hr0 (fun t ht hW => ⟨⟨μ', rfl, hq, by unfold si_B; rw [ht]; exact hP'⟩, hS'.F ht⟩) hS'.2.2 hrt.1
    | some (.inl x), hrt, hq =>
      rcases hrt.2 with h4 | ⟨h4, h5⟩
      · rw [h4]
        have hr0 : meth.sig.returnType = some .int := by rw [hr, m5, h4]; rfl
        exact W.iret hx hb hr0 (fun t ht hW => ⟨⟨x, μ', rfl, hq, by unfold si_B; rw [ht]; exact hP'⟩, hS'.F ht⟩) hS'.2.2 hrt.1
      · rw [h4]
        have hr0 : meth.sig.returnType = some .boolean := by rw [hr, m5, h4]; rfl
        exact W.zret hx hb hr0 (by rcases h5 with rfl | rfl <;> rfl) (fun t ht hW => ⟨⟨x, μ', rfl, hq, by unfold si_B; rw [ht]; exact hP'⟩, hS'.F ht⟩) hS'.2.2 hrt.1
    | some (.inr (.inl x)), hrt, hq =>
      rw [hrt.2]
      have hr0 : meth.sig.returnType = some .long := by rw [hr, m5, hrt.2]; rfl
      exact W.lret hx hb hr0 (fun t ht hW => ⟨⟨x, μ', rfl, hq, by unfold si_B; rw [ht]; exact hP'⟩, hS'.F ht⟩) hS'.2.2 hrt.1
/-- THE LIGHT MACHINE IS THE MACHINE -/
theorem si_sound (hcl : si_okC CL) (hstr : si_SLp l D ad adV cI cZ sc) {d j pc : Nat} {lv : si_Lv} {st : List si_AV} {μ : si_Mm} {Q : si_Po} (h : si_W sc d j pc lv st μ Q) : si_PP l D ad adV cI cZ CL sc d j pc lv st μ Q := by
  refine h.rec (P := si_PP l D ad adV cI cZ CL sc) ?_ ?_
  · intro d j pc lv st μ Q h p e R s m args below meth c H locs cells slots A QQ ls X hP hD hS hl hst hQ
    unfold si_st at h
    cases hc : si_code j pc with
    | none => rw [hc] at h; exact h.elim
    | some ent =>
      rw [hc] at h
      obtain ⟨hSL, hSC⟩ := hstr p e R s m args below meth c cells slots d j A QQ X
      refine si_step X hcl hc h hP hD hS hl hst ?_ ?_ hQ hSL hSC
      · intro pc' lv' st' μ' H' locs' ls' h' hP' hS' hl' hst'
        exact h' p e R s m args below meth c H' locs' cells slots A QQ ls' X hP' (si_ws_D hD) hS' hl' hst' hQ
      · intro j' as μ' Q' h' h1 hj h2 h3 sz
        match d, h' with
        | 0, h' => exact h'.elim
        | d' + 1, h' => exact si_met h' h1 hj h2 h3 sz
  · intro d j pc lv st μ Q Q' hq h p e R s m args below meth c H locs cells slots A QQ ls X hP hD hS hl hst hQ
    exact h p e R s m args below meth c H locs cells slots A QQ ls X hP hD hS hl hst (fun pc' ls' r μ' H' locs' a1 a2 => hQ pc' ls' r μ' H' locs' a1 (hq _ _ a2))
end SND
