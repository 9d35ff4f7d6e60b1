def di_CLs : List (Nat × Nat) := (List.range 200).map (fun i => (0, i))
theorem di_pI_e {st : List si_AV} {k : Int32 → List si_AV → Option di_Re} {w : di_Re} (h : di_pI st k = some w) : ∃ x r, st = .inl x :: r ∧ k x r = some w := by
  unfold di_pI at h
  split at h
  · exact ⟨_, _, rfl, h⟩
  · cases h
theorem di_pR_e {st : List si_AV} {k : Nat → Nat → List si_AV → Option di_Re} {w : di_Re} (h : di_pR st k = some w) : ∃ tt i r, st = .inr (.inr (tt, i)) :: r ∧ k tt i r = some w := by
  unfold di_pR at h
  split at h
  · exact ⟨_, _, _, rfl, h⟩
  · cases h
theorem di_p1_e {st : List si_AV} {k : si_AV → List si_AV → Option di_Re} {w : di_Re} (h : di_p1 st k = some w) : ∃ u r, st = u :: r ∧ si_c2 u = false ∧ k u r = some w := by
  unfold di_p1 at h
  split at h
  · exact ⟨_, _, rfl, rfl, h⟩
  · exact ⟨_, _, rfl, rfl, h⟩
  · cases h
theorem di_lI_e {lv : si_Lv} {i : Nat} {k : Int32 → Option di_Re} {w : di_Re} (h : di_lI lv i k = some w) : ∃ x, si_nth lv i = some (.inl x) ∧ k x = some w := by
  unfold di_lI at h
  split at h
  · next x e => exact ⟨x, e, h⟩
  · cases h
theorem di_lR_e {lv : si_Lv} {i : Nat} {k : Nat → Nat → Option di_Re} {w : di_Re} (h : di_lR lv i k = some w) : ∃ x y, si_nth lv i = some (.inr (.inr (x, y))) ∧ k x y = some w := by
  unfold di_lR at h
  split at h
  · next x y e => exact ⟨x, y, e, h⟩
  · cases h
theorem di_bif_e {c : Bool} {o : Option di_Re} {w : di_Re} (h : (bif c then o else none) = some w) : c = true ∧ o = some w := by
  cases c
  · cases h
  · exact ⟨rfl, h⟩
theorem di_take_e {k : List si_AV → List si_AV → Option di_Re} {w : di_Re} : ∀ (n : Nat) (st acc : List si_AV), di_take n st acc k = some w → ∃ as r, as.length = n ∧ st = as.reverse ++ r ∧ k (as ++ acc) r = some w
  | 0, st, acc, h => ⟨[], st, rfl, rfl, h⟩
  | n + 1, v :: st, acc, h => by
    obtain ⟨as, r, h1, h2, h3⟩ := di_take_e n st (v :: acc) h
    refine ⟨as ++ [v], r, by simp [h1], by simp [h2], ?_⟩
    simpa using h3
  | _ + 1, [], _, h => by cases h
theorem di_arr_e {wd : List di_E} {q : Nat} {k : Nat → Nat → (Nat → Int32) → Option di_Re} {w : di_Re} (h : di_arr wd q k = some w) : ∃ a n f, wd[q]? = some (.inl (a, n, f)) ∧ k a n f = some w := by
  unfold di_arr at h
  split at h
  · next a n f e => exact ⟨a, n, f, e, h⟩
  · cases h
theorem di_obj_e {wd : List di_E} {q : Nat} {k : Nat → List (Option si_AV) → Option di_Re} {w : di_Re} (h : di_obj wd q k = some w) : ∃ c fs, wd[q]? = some (.inr (c, fs)) ∧ k c fs = some w := by
  unfold di_obj at h
  split at h
  · next c fs e => exact ⟨c, fs, e, h⟩
  · cases h
theorem di_cnt_e {c s : Nat} {o : Option di_Re} {w : di_Re} (h : di_cnt c s o = some w) : ∃ r0, o = some r0 ∧ w = (r0.1, r0.2.1, r0.2.2.1, c + r0.2.2.2.1, s + r0.2.2.2.2) := by
  unfold di_cnt at h
  split at h
  · cases h; exact ⟨_, rfl, rfl⟩
  · cases h
theorem di_bind_e {o : Option di_Re} {k : List di_E → Option di_Re} {w : di_Re} (h : di_bind o k = some w) : ∃ r1 r2, o = some r1 ∧ k r1.2.2.1 = some r2 ∧ w = (r2.1, r2.2.1, r2.2.2.1, r1.2.2.2.1 + r2.2.2.2.1, r1.2.2.2.2 + r2.2.2.2.2) := by
  unfold di_bind at h
  split at h
  · obtain ⟨r2, e1, e2⟩ := di_cnt_e h
    exact ⟨_, r2, rfl, e1, e2⟩
  · cases h
def di_ext (L : Nat) (ad ad' : Nat → Nat → Nat) : Prop := (∀ i, i < L → ad' 0 i = ad 0 i) ∧ ad' 92 0 = ad 92 0
theorem di_ext.trans {L L' : Nat} {a b c : Nat → Nat → Nat} (h : di_ext L a b) (g : di_ext L' b c) (hl : L ≤ L') : di_ext L a c := ⟨fun i hi => (g.1 i (by omega)).trans (h.1 i hi), g.2.trans h.2⟩
theorem di_cv_ext {L : Nat} {ad ad' : Nat → Nat → Nat} (h : di_ext L ad ad') : ∀ {v : si_AV}, di_okV L v = true → si_cv ad' v = si_cv ad v
  | .inl _, _ => rfl
  | .inr (.inl _), _ => rfl
  | .inr (.inr (tt, i)), hv => by
    unfold di_okV at hv
    rw [Bool.or_eq_true, Bool.and_eq_true, Bool.and_eq_true] at hv
    show Value.ref (ad' tt i) = Value.ref (ad tt i)
    rcases hv with ⟨a1, a2⟩ | ⟨a1, a2⟩
    · rw [Nat.eq_of_beq_eq_true a1, h.1 i (Nat.le_of_ble_eq_true a2)]
    · rw [Nat.eq_of_beq_eq_true a1, Nat.eq_of_beq_eq_true a2, h.2]
theorem di_fc_ext {L : Nat} {ad ad' : Nat → Nat → Nat} (h : di_ext L ad ad') : ∀ {v : Option si_AV}, di_okO L v = true → di_fc ad' v = di_fc ad v
  | none, _ => rfl
  | some _, hv => di_cv_ext h hv
theorem di_cell_ext {L : Nat} {ad ad' : Nat → Nat → Nat} {cI cZ : ClassId} (h : di_ext L ad ad') : ∀ {e : di_E}, di_okE2 L e = true → di_cell ad' cI cZ e = di_cell ad cI cZ e
  | .inl (_, _, _), _ => rfl
  | .inr (c, fs), hv => by
    unfold di_cell
    dsimp only
    congr 2
    exact List.map_congr_left fun v hx => di_fc_ext h (List.all_eq_true.mp hv v hx)
theorem di_ws_at {ad : Nat → Nat → Nat} {cI cZ : ClassId} {wd : List di_E} {q : Nat} {e : di_E} (h : wd[q]? = some e) : (di_ws ad cI cZ wd)[q]? = some (ad 0 q, di_cell ad cI cZ e) := by
  unfold di_ws
  rw [List.getElem?_mapIdx, h]
  rfl
theorem di_ws_ext {L : Nat} {ad ad' : Nat → Nat → Nat} {cI cZ : ClassId} {wd : List di_E} (h : di_ext L ad ad') (hL : wd.length ≤ L) (hw : wd.all (di_okE2 L) = true) : di_ws ad' cI cZ wd = di_ws ad cI cZ wd := by
  refine List.ext_getElem? fun k => ?_
  unfold di_ws
  rw [List.getElem?_mapIdx, List.getElem?_mapIdx]
  cases hk : wd[k]? with
  | none => rfl
  | some e =>
    have hlt : k < wd.length := (List.getElem?_eq_some_iff.mp hk).1
    simp only [Option.map_some]
    rw [h.1 k (by omega), di_cell_ext h (List.all_eq_true.mp hw e (List.mem_of_getElem? hk))]
theorem di_ws_set {ad : Nat → Nat → Nat} {cI cZ : ClassId} {wd : List di_E} {q : Nat} {e : di_E} (hq : q < wd.length) : (di_ws ad cI cZ wd).set q (ad 0 q, di_cell ad cI cZ e) = di_ws ad cI cZ (wd.set q e) := by
  refine List.ext_getElem? fun k => ?_
  unfold di_ws
  rw [List.getElem?_set, List.getElem?_mapIdx, List.getElem?_mapIdx, List.getElem?_set]
  by_cases hk : q = k
  · subst hk
    simp [hq]
  · simp [hk]
theorem di_ws_app {ad ad' : Nat → Nat → Nat} {cI cZ : ClassId} {wd : List di_E} {e : di_E} {q : Nat} (h : di_ext wd.length ad ad') (hw : wd.all (di_okE2 wd.length) = true) (hq : ad' 0 wd.length = q) : di_ws ad' cI cZ (wd ++ [e]) = di_ws ad cI cZ wd ++ [(q, di_cell ad' cI cZ e)] := by
  rw [← di_ws_ext (cI := cI) (cZ := cZ) h (Nat.le_refl _) hw]
  unfold di_ws
  rw [List.mapIdx_append]
  congr 1
  simp [List.mapIdx_cons, hq]
theorem di_lV {L : Nat} (hL : L ≤ 200) : ∀ {v : si_AV}, di_okV L v = true → si_lV di_CLs v
  | .inl _, _ => trivial
  | .inr (.inl _), _ => trivial
  | .inr (.inr (tt, i)), hv => by
    unfold di_okV at hv
    rw [Bool.or_eq_true, Bool.and_eq_true, Bool.and_eq_true] at hv
    rcases hv with ⟨a1, a2⟩ | ⟨a1, a2⟩
    · left
      have hi : i < L := Nat.le_of_ble_eq_true a2
      rw [Nat.eq_of_beq_eq_true a1]
      exact List.mem_map.mpr ⟨i, List.mem_range.mpr (by omega), rfl⟩
    · right; right; right
      rw [Nat.eq_of_beq_eq_true a1, Nat.eq_of_beq_eq_true a2]
theorem di_nth_ok {L : Nat} : ∀ (lv : si_Lv) (i : Nat) (v : si_AV), lv.all (di_okO L) = true → si_nth lv i = some v → di_okV L v = true
  | [], _, _, _, h => by cases h
  | u :: r, 0, v, hw, h => by
    have h : u = some v := h
    have h1 := List.all_eq_true.mp hw u List.mem_cons_self
    rw [h] at h1
    exact h1
  | u :: r, i + 1, v, hw, h => di_nth_ok r i v (by
      rw [List.all_cons, Bool.and_eq_true] at hw
      exact hw.2) h
theorem di_lo_ext {L nL : Nat} {ad ad' : Nat → Nat → Nat} {ls : Array Slot} {lv : si_Lv} (h : di_ext L ad ad') (hw : lv.all (di_okO L) = true) (hl : si_lo ad di_CLs false ls nL lv) : si_lo ad' di_CLs false ls nL lv := by
  refine ⟨hl.1, hl.2.1, hl.2.2.1, fun i v hi => ?_⟩
  have h1 := hl.2.2.2 i v hi
  refine ⟨?_, h1.2⟩
  rw [di_cv_ext h (di_nth_ok lv i v hw hi)]
  exact h1.1
theorem di_map_ext {L : Nat} {ad ad' : Nat → Nat → Nat} {st : List si_AV} (h : di_ext L ad ad') (hw : st.all (di_okV L) = true) : st.map (si_cv ad') = st.map (si_cv ad) := List.map_congr_left fun v hv => di_cv_ext h (List.all_eq_true.mp hw v hv)
theorem di_okA_e {lv : si_Lv} {st : List si_AV} {wd : List di_E} (h : di_okA lv st wd = true) : wd.length < 200 ∧ lv.all (di_okO wd.length) = true ∧ st.all (di_okV wd.length) = true ∧ wd.all (di_okE2 wd.length) = true := by
  unfold di_okA at h
  simp only [Bool.and_eq_true] at h
  exact ⟨Nat.le_of_ble_eq_true h.1, h.2.1, h.2.2.1, h.2.2.2⟩
theorem di_any_f {o idx a b : Nat} (h : di_FL.any (fun q => Nat.beq q.1 o && (Nat.beq q.2.1 idx && (Nat.beq q.2.2.1 a && Nat.beq q.2.2.2 b))) = true) : (o, idx, a, b) ∈ di_FL := by
  obtain ⟨q, hq, h⟩ := List.any_eq_true.mp h
  simp only [Bool.and_eq_true] at h
  obtain ⟨h1, h2, h3, h4⟩ := h
  obtain ⟨q1, q2, q3, q4⟩ := q
  cases Nat.eq_of_beq_eq_true h1
  cases Nat.eq_of_beq_eq_true h2
  cases Nat.eq_of_beq_eq_true h3
  cases Nat.eq_of_beq_eq_true h4
  exact hq
theorem di_any_m {o idx a b : Nat} (h : di_ML.any (fun q => Nat.beq q.1 o && (Nat.beq q.2.1 idx && (Nat.beq q.2.2.1 a && Nat.beq q.2.2.2 b))) = true) : (o, idx, a, b) ∈ di_ML := by
  obtain ⟨q, hq, h⟩ := List.any_eq_true.mp h
  simp only [Bool.and_eq_true] at h
  obtain ⟨h1, h2, h3, h4⟩ := h
  obtain ⟨q1, q2, q3, q4⟩ := q
  cases Nat.eq_of_beq_eq_true h1
  cases Nat.eq_of_beq_eq_true h2
  cases Nat.eq_of_beq_eq_true h3
  cases Nat.eq_of_beq_eq_true h4
  exact hq
theorem di_any_c {o idx a : Nat} (h : di_CL.any (fun q => Nat.beq q.1 o && (Nat.beq q.2.1 idx && Nat.beq q.2.2 a)) = true) : (o, idx, a) ∈ di_CL := by
  obtain ⟨q, hq, h⟩ := List.any_eq_true.mp h
  simp only [Bool.and_eq_true] at h
  obtain ⟨h1, h2, h3⟩ := h
  obtain ⟨q1, q2, q3⟩ := q
  cases Nat.eq_of_beq_eq_true h1
  cases Nat.eq_of_beq_eq_true h2
  cases Nat.eq_of_beq_eq_true h3
  exact hq
theorem di_mck_e {b : Nat} (h : b ∈ di_JC) : ((di_mY b).cls ≠ "java/lang/invoke/MethodHandle" ∧ (di_mY b).cls ≠ "java/lang/invoke/VarHandle" ∧ (parseMethodDescriptor (di_mY b).desc).map (fun d => d.parameters.length) = some (di_mN b)) ∧ plainName (di_mY b).cls = true ∧ di_mL b ≤ 100 ∧ (di_mY b).cls = di_R (di_mO b) ∧ (di_isI b = true → (di_mY b).name = "<init>") := by
  have h1 := List.all_eq_true.mp di_mck_a _ h
  unfold di_mck at h1
  simp only [Bool.and_eq_true, decide_eq_true_eq] at h1
  obtain ⟨a1, a2, a3, a4, a5, a6, a7⟩ := h1
  refine ⟨⟨a1, a2, a3⟩, a4, Nat.le_of_ble_eq_true a5, a6, fun e => ?_⟩
  rw [e] at a7
  exact of_decide_eq_true a7
theorem di_jc_e {o idx a b : Nat} (h : (o, idx, a, b) ∈ di_ML) (ha : Nat.beq a 9 = false) : b ∈ di_JC ∧ ((a = 7 ∧ b = 235) ∨ (b ∈ di_JI ∧ ((a = 0 ∧ b ∈ di_JV ∧ si_mO b < 8) ∨ (Nat.beq a 0 = false ∧ di_isI b = true)))) := by
  have h1 := List.all_eq_true.mp di_jc_a _ h
  dsimp only at h1
  rw [ha, Bool.false_or, Bool.and_eq_true] at h1
  obtain ⟨h2, h3⟩ := h1
  refine ⟨si_any_mem h2, ?_⟩
  rw [Bool.or_eq_true] at h3
  rcases h3 with h3 | h3
  · rw [Bool.and_eq_true] at h3
    exact Or.inl ⟨Nat.eq_of_beq_eq_true h3.1, Nat.eq_of_beq_eq_true h3.2⟩
  · rw [Bool.and_eq_true] at h3
    refine Or.inr ⟨si_any_mem h3.1, ?_⟩
    have h4 := h3.2
    rw [Bool.or_eq_true] at h4
    rcases h4 with h4 | h4
    · rw [Bool.and_eq_true, Bool.and_eq_true] at h4
      exact Or.inl ⟨Nat.eq_of_beq_eq_true h4.1.1, si_any_mem h4.1.2, Nat.le_of_ble_eq_true h4.2⟩
    · rw [Bool.and_eq_true] at h4
      exact Or.inr ⟨by simpa using h4.1, h4.2⟩
theorem di_good {b : Nat} (h : b ∈ di_JC) : GoodIn si_tb (di_cdc b :: si_tb) := fun w hw => by
  rcases List.mem_cons.mp hw with rfl | hw
  · exact ⟨di_cd_ok _ h, si_gd (di_cd_ok _ h)⟩
  · exact ⟨hw, si_gd hw⟩
theorem di_cdc_eq (b : Nat) : di_cdc b :: si_tb = Cond.code (di_mY b) (di_mB b) (di_mL b) none :: si_tb := rfl
def di_env (U : State) : Prop := ∀ q ∈ di_ML, Nat.beq q.2.2.1 2 = true → va_Nw (di_mlc q) U
theorem di_mlc_nest {q : Nat × Nat × Nat × Nat} (h : Nat.beq q.2.2.1 2 = true) : di_mlc q = .methodLinkNest (di_R q.1) q.2.1 (di_mY q.2.2.2) "FourYearsForAStrip" := by
  unfold di_mlc
  rw [h]
  rfl
theorem di_env_to {s U : State} (h : di_env s) (hW : s.WarmedH U.vm) : di_env U := fun q hq hn => by
  have h1 := h q hq hn
  rw [di_mlc_nest hn] at h1 ⊢
  exact h1.warmM hW
theorem di_env_calling {U : State} {g : JFrame} {mk : MethodId} {a : Array Value} (h : di_env U) : di_env (U.calling g mk a) := fun q hq hn => by
  have h1 := h q hq hn
  rw [di_mlc_nest hn] at h1 ⊢
  exact va_Nw.same (u := U) rfl rfl h1
def di_Ctx (D : va_G) (cI cZ : ClassId) (d j : Nat) (p : Program) (R : Room) (s : State) (m : MethodId) (args : Array Value) (meth : Method) (c : Code) (A : Nat → Prop) : Prop :=
  p.tables.exec = Jvm.exec ∧ c.code = di_mB j ∧ c.maxLocals = di_mL j ∧ s.vm.findClass (di_R (di_mO j)) = some m.cls ∧ (∀ w ∈ si_tb, w.before args s = true) ∧ d + 4 ≤ R.frames ∧ 200 * (d + 4) ≤ R.locals ∧ va_K D si_cls (si_tys cI cZ) s ∧ (∀ q : Nat, s.heap.size ≤ q → A q) ∧ (di_isI j = true → meth.name = "<init>") ∧ di_env s
def di_rm (d k n : Nat) : Room := { frames := d + 3, cells := k, slots := n, locals := 200 * (d + 3) }
theorem di_rmF {d k n : Nat} {R : Room} (h : d + 4 ≤ R.frames) : (di_rm d k n).frames + 1 ≤ R.frames := by
  unfold di_rm
  dsimp only
  omega
set_option maxRecDepth 20000 in
theorem di_rmL {d k n L : Nat} {R : Room} (h : 200 * (d + 4) ≤ R.locals) (hL : L ≤ 100) : 8 + (L + 11) + (di_rm d k n).locals ≤ R.locals := by
  unfold di_rm
  dsimp only
  omega
def di_pre (D : va_G) (ad : Nat → Nat → Nat) (cI cZ : ClassId) (as : List si_AV) (wd : List di_E) (sz : Nat) : Array Value → State → Prop := va_Pc (as.map (si_cv ad)) (fun U => U.heap.size = sz ∧ va_P D si_cls (di_ws ad cI cZ wd) U.heap ∧ va_K D si_cls (si_tys cI cZ) U ∧ va_D (fun _ => True) (di_ws ad cI cZ wd) ∧ di_env U)
def di_post (D : va_G) (ad : Nat → Nat → Nat) (cI cZ : ClassId) (wd wd' : List di_E) (A1 : Nat → Prop) : Array Value → State → Outcome → State → Prop := va_Qv (S := Nat → Nat → Nat) (fun ad' => di_ext wd.length ad ad') (fun ad' t => va_P D si_cls (di_ws ad' cI cZ wd') t.heap ∧ va_D A1 (di_ws ad' cI cZ wd')) A1
theorem di_blind {D : va_G} {ad : Nat → Nat → Nat} {cI cZ : ClassId} {as : List si_AV} {wd : List di_E} {sz : Nat} : FrameBlind (di_pre D ad cI cZ as wd sz) := fun a U g mk q => by
  obtain ⟨q0, q1, qP, qK, qD, qE⟩ := q
  exact ⟨q0, q1, qP, va_K.moved (u := U) (U := U.calling g mk a) (Vm.Alike.refl U.vm) qK, qD, di_env_calling qE⟩
theorem di_pre_ok {D : va_G} {ad : Nat → Nat → Nat} {cI cZ : ClassId} {as : List si_AV} {wd : List di_E} {s U : State} {H : Heap} {A : Nat → Prop} (hU : U.heap = H) (hW : s.WarmedH U.vm) (hP : va_P D si_cls (di_ws ad cI cZ wd) H) (hD : va_D A (di_ws ad cI cZ wd)) (hK : va_K D si_cls (si_tys cI cZ) s) (hE : di_env s) : di_pre D ad cI cZ as wd H.size (as.map (si_cv ad)).toArray U := by
  subst hU
  exact ⟨rfl, rfl, hP, va_K.moved hW.alike hK, hD.weaken (fun _ _ _ _ => trivial), di_env_to hE hW⟩
theorem di_tychk : ∀ a, a < 8 → ∀ k, k < si_N a → (match si_ty a k with
  | .int => true
  | .boolean => true
  | .long => true
  | .object _ => true
  | .array _ => true
  | _ => false) = true := by decide +kernel
theorem di_def_ok {a : Nat} (ha : a < 8) (ad : Nat → Nat → Nat) : ∀ k, k < si_N a → defaultValue (si_ty a k) = vp_V ((di_def a).map (di_fc ad)) k := by
  intro k hk
  have h1 := di_tychk a ha k hk
  unfold vp_V di_def
  rw [List.map_map, List.getD_eq_getElem?_getD, List.getElem?_map, List.getElem?_range hk]
  simp only [Option.map_some, Option.getD_some, Function.comp]
  revert h1
  cases si_ty a k <;> intro h1 <;> first | rfl | cases h1
theorem di_fit_i {ty : FieldType} {x : Int32} (h : di_fit ty (.inl x) = true) : narrow ty (.int x) = .int x ∧ fits ty (.int x) = true := by
  unfold di_fit at h
  dsimp only at h
  rw [Bool.and_eq_true] at h
  exact ⟨of_decide_eq_true h.1, h.2⟩
theorem di_fit_r {ty : FieldType} {q : Nat × Nat} {z : Nat} (h : di_fit ty (.inr (.inr q)) = true) : narrow ty (.ref z) = .ref z ∧ fits ty (.ref z) = true := by
  unfold di_fit at h
  dsimp only at h
  rw [Bool.and_eq_true] at h
  have h2 := h.2
  cases ty <;> first | exact ⟨rfl, rfl⟩ | cases h2
