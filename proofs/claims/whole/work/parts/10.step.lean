theorem si_rmF {d : Nat} {R : Room} (h : d + 4 ≤ R.frames) : (si_rm d).frames + 1 ≤ R.frames := by
  unfold si_rm
  dsimp only
  omega
set_option maxRecDepth 20000 in
theorem si_rmL {d L : Nat} {R : Room} (h : 200 * (d + 4) ≤ R.locals) (hL : L ≤ 100) : 8 + (L + 11) + (si_rm d).locals ≤ R.locals := by
  unfold si_rm
  dsimp only
  omega
theorem si_cdc_eq (b : Nat) : si_cdc b :: si_tb = Cond.code (si_mY b) (si_mB b) (si_mL b) (si_mR b) :: si_tb := rfl
theorem si_arr_ge : ∀ t, 45 ≤ t → si_arr t = (9, 0) := by
  intro a h
  unfold si_arr
  have e : ∀ k, k < 45 → Nat.ble a k = false := fun k hk => by
    cases h1 : Nat.ble a k with
    | false => rfl
    | true => have := Nat.le_of_ble_eq_true h1; omega
  have e2 : ∀ k, k < 45 → Nat.beq a k = false := fun k hk => by
    cases h1 : Nat.beq a k with
    | false => rfl
    | true => have := Nat.eq_of_beq_eq_true h1; omega
  simp [e, e2, cond]
theorem si_arr_in {CL : List (Nat × Nat)} {t i : Nat} (h : si_lV CL (.inr (.inr (t, i)))) (ha : (Nat.beq (si_arr t).1 0 || Nat.beq (si_arr t).1 1) = true) : (t, i) ∈ CL := by
  have hb : ¬ 45 ≤ t := fun e => by rw [si_arr_ge t e] at ha; cases ha
  rcases h with q | q | q | q
  · exact q
  · exact absurd q.1 (by show ¬ t = 90; omega)
  · exact absurd (congrArg Prod.fst q) (by show ¬ t = 91; omega)
  · exact absurd (congrArg Prod.fst q) (by show ¬ t = 92; omega)
theorem si_str_in {CL : List (Nat × Nat)} (hcl : si_okC CL) {i : Nat} (h : si_lV CL (.inr (.inr (90, i)))) : i < 12 := by
  rcases h with q | q | q | q
  · exact absurd (hcl.2.1 _ q) (by show ¬ 90 < 45; omega)
  · exact q.2
  · exact absurd (congrArg Prod.fst q) (by show ¬ 90 = 91; omega)
  · exact absurd (congrArg Prod.fst q) (by show ¬ 90 = 92; omega)
theorem si_ml5_a : si_ML.all (fun q => Nat.ble q.2.2.1 1 || Nat.beq q.2.2.2 0) = true := by decide +kernel
theorem si_ML_5 {o idx b : Nat} (h : (o, idx, 5, b) ∈ si_ML) : b = 0 := by
  have h1 := List.all_eq_true.mp si_ml5_a _ h
  exact Nat.eq_of_beq_eq_true (by simpa using h1)
theorem si_ML_5' {o idx b : Nat} (h : (o, idx, 6, b) ∈ si_ML) : b = 0 := by
  have h1 := List.all_eq_true.mp si_ml5_a _ h
  exact Nat.eq_of_beq_eq_true (by simpa using h1)
set_option maxHeartbeats 4000000 in
theorem si_after {D : va_G} {ad : Nat → Nat → Nat} {cI cZ : ClassId} {CL : List (Nat × Nat)} {p : Program} {l : Launch} {e : Env} {R : Room} {s : State} {m : MethodId} {args : Array Value} {below : List Frame} {meth : Method} {c : Code} {H : Heap} {locs : List Loc} {cells slots : Nat} {A : Nat → Prop} {QQ : State → Prop} {ls : Array Slot} {j pc : Nat} {lv : si_Lv} {μ : si_Mm} {K : Nat → si_Lv → List si_AV → si_Mm → Prop} {b : Nat} {r : List si_AV} {st0 : List Value} {aa : Array Value} (hA : ∀ q : Nat, s.heap.size ≤ q → A q) (hD : va_D A (si_ws ad cI cZ CL μ)) (hS : va_S A s.heap H locs) (hl : si_lo ad CL (si_mJ j) ls (si_mL j) lv) (hr : ∀ v ∈ r, si_lV CL v) (hT : si_mT b ≤ 3)
    (hK : ∀ pc' lv' st' μ' H' locs' ls', K pc' lv' st' μ' → va_P D si_cls (si_ws ad cI cZ CL μ') H' → va_S A s.heap H' locs' → si_lo ad CL (si_mJ j) ls' (si_mL j) lv' → (∀ v ∈ st', si_lV CL v) → W p l e R s m args below meth c H' locs' cells slots QQ (F0 m pc' ls' (st'.map (si_cv ad))))
    (hrun : va_Run p l e R s m args below meth c H locs cells slots 0 0 (F0 m pc ls st0) (r.map (si_cv ad)) (si_post D ad cI cZ CL (si_mT b) (fun rv μ' => K (pc + 3) lv (si_rt rv r) μ') (va_A (si_ws ad cI cZ CL μ) H.size) aa) (va_A (si_ws ad cI cZ CL μ) H.size)) : W p l e R s m args below meth c H locs cells slots QQ (F0 m pc ls st0) := by
  have hF : ∀ q, va_A (si_ws ad cI cZ CL μ) H.size q → A q := by
    rintro q (⟨k, e, hk⟩ | h)
    · exact hD.2 k (q, e) hk
    · exact hA q (Nat.le_trans hS.1 h)
  match hb : si_mT b, hT with
  | 0, _ =>
    rw [hb] at hrun
    refine va_callv (a := aa) hrun hS (fun q _ h => hF q h) hF (fun u t H1 locs1 ht hvm hw hB hz1 hk1 hS1 => ?_)
    exact hK _ _ r _ _ _ _ hw (by unfold si_B at hB; rw [ht] at hB; exact hB) hS1 hl hr
  | 1, _ =>
    rw [hb] at hrun
    refine va_calli (a := aa) hrun hS (fun q _ h => hF q h) hF (fun r1 u t H1 locs1 ht hvm hw hB hz1 hk1 hS1 => ?_)
    exact hK _ _ (.inl r1 :: r) _ _ _ _ hw (by unfold si_B at hB; rw [ht] at hB; exact hB) hS1 hl (si_cs trivial hr)
  | 2, _ =>
    rw [hb] at hrun
    refine va_calli (a := aa) hrun hS (fun q _ h => hF q h) hF (fun r1 u t H1 locs1 ht hvm hw hB hz1 hk1 hS1 => ?_)
    exact hK _ _ (.inl r1 :: r) _ _ _ _ hw (by unfold si_B at hB; rw [ht] at hB; exact hB) hS1 hl (si_cs trivial hr)
  | 3, _ =>
    rw [hb] at hrun
    refine va_calll (a := aa) hrun hS (fun q _ h => hF q h) hF (fun r1 u t H1 locs1 ht hvm hw hB hz1 hk1 hS1 => ?_)
    exact hK _ _ (.inr (.inl r1) :: r) _ _ _ _ hw (by unfold si_B at hB; rw [ht] at hB; exact hB) hS1 hl (si_cs trivial hr)
  | n + 4, h => omega
theorem si_blind {D : va_G} {ad : Nat → Nat → Nat} {adV : Nat → Nat} {cI cZ : ClassId} {CL : List (Nat × Nat)} {sc : si_Sc} {as : List si_AV} {μ : si_Mm} {sz : Nat} : FrameBlind (si_pre D ad adV cI cZ CL sc as μ sz) := fun a U g mk q => by
  obtain ⟨q0, q1, qP, qK, qD, qE⟩ := q
  exact ⟨q0, q1, qP, va_K.moved (u := U) (U := U.calling g mk a) (Vm.Alike.refl U.vm) qK, qD, si_env_calling qE⟩
theorem si_pre_ok {D : va_G} {ad : Nat → Nat → Nat} {adV : Nat → Nat} {cI cZ : ClassId} {CL : List (Nat × Nat)} {sc : si_Sc} {as : List si_AV} {μ : si_Mm} {s U : State} {H : Heap} {A : Nat → Prop} {locs : List Loc} (hU : U.heap = H) (hW : s.WarmedH U.vm) (hP : va_P D si_cls (si_ws ad cI cZ CL μ) H) (hD : va_D A (si_ws ad cI cZ CL μ)) (hS : va_S A s.heap H locs) (hA : ∀ q : Nat, s.heap.size ≤ q → A q) (hK : va_K D si_cls (si_tys cI cZ) s) (hE : si_env ad adV sc A s) : si_pre D ad adV cI cZ CL sc as μ H.size (as.map (si_cv ad)).toArray U := by
  subst hU
  refine ⟨rfl, rfl, hP, va_K.moved hW.alike hK, hD.weaken (fun _ _ _ _ => trivial), si_env_to hE hS ?_ hW⟩
  rintro q (⟨k, e, hk⟩ | h)
  · exact hD.2 k (q, e) hk
  · exact hA q (Nat.le_trans hS.1 h)
set_option maxHeartbeats 8000000 in
theorem si_step {D : va_G} {ad : Nat → Nat → Nat} {adV : Nat → Nat} {cI cZ : ClassId} {CL : List (Nat × Nat)} {sc : si_Sc} {p : Program} {l : Launch} {e : Env} {R : Room} {s : State} {m : MethodId} {args : Array Value} {below : List Frame} {meth : Method} {c : Code} {H : Heap} {locs : List Loc} {cells slots : Nat} {A : Nat → Prop} {QQ : State → Prop} {ls : Array Slot} {d j pc : Nat} {lv : si_Lv} {st : List si_AV} {μ : si_Mm} {Q : si_Po} {K : Nat → si_Lv → List si_AV → si_Mm → Prop} {C : Nat → List si_AV → si_Mm → si_Po → Prop} {ent : si_Ent} (X : si_Ctx D ad adV cI cZ sc d j p R s m args c cells slots A) (hcl : si_okC CL) (hc : si_code j pc = some ent) (h : si_ex sc K C Q (si_mT j) (si_mL j) (si_mJ j) pc ent lv st μ) (hP : va_P D si_cls (si_ws ad cI cZ CL μ) H) (hD : va_D A (si_ws ad cI cZ CL μ)) (hS : va_S A s.heap H locs) (hl : si_lo ad CL (si_mJ j) ls (si_mL j) lv) (hst : ∀ v ∈ st, si_lV CL v)
    (hK : ∀ pc' lv' st' μ' H' locs' ls', K pc' lv' st' μ' → va_P D si_cls (si_ws ad cI cZ CL μ') H' → va_S A s.heap H' locs' → si_lo ad CL (si_mJ j) ls' (si_mL j) lv' → (∀ v ∈ st', si_lV CL v) → W p l e R s m args below meth c H' locs' cells slots QQ (F0 m pc' ls' (st'.map (si_cv ad))))
    (hC : ∀ j' as μ' Q', C j' as μ' Q' → (∀ v ∈ as, si_lV CL v) → j' ∈ si_JA → si_w8 as ≤ si_mL j' → (si_mJ j' = false → ∀ v ∈ as, si_c2 v = false) → ∀ sz, Met l (si_mY j') (si_cdc j' :: si_tb) (si_rm d) (si_pre D ad adV cI cZ CL sc as μ' sz) (si_post D ad cI cZ CL (si_mT j') Q' (va_A (si_ws ad cI cZ CL μ') sz)) 0 0 (va_A (si_ws ad cI cZ CL μ') sz))
    (hQ : ∀ pc' ls' r μ' H' locs', si_rtn j pc' r → Q r μ' → va_P D si_cls (si_ws ad cI cZ CL μ') H' → va_S A s.heap H' locs' → W p l e R s m args below meth c H' locs' cells slots QQ (F0 m pc' ls' (r.toList.map (si_cv ad))))
    (hSL : ∀ {H : Heap} {locs : List Loc} {pc i index : Nat} {ls : Array Slot} {rest : List Value}, i < 12 → (si_mO j, index, 5, 0) ∈ si_ML → decode (si_mB j) pc = .ok (.invokevirtual index, 3) → ls.size = si_mL j → (rest.map fun v => v.category).sum ≤ 8 → va_S A s.heap H locs → (∀ locs', va_S A s.heap H locs' → W p l e R s m args below meth c H locs' cells slots QQ (F0 m (pc + 3) ls (.int (nI (si_sl.getD i 0)) :: rest))) → W p l e R s m args below meth c H locs cells slots QQ (F0 m pc ls (.ref (ad 90 i) :: rest)))
    (hSC : ∀ {H : Heap} {locs : List Loc} {pc i index : Nat} {x : Int32} {ls : Array Slot} {rest : List Value}, i < 12 → (si_mO j, index, 6, 0) ∈ si_ML → decode (si_mB j) pc = .ok (.invokevirtual index, 3) → ls.size = si_mL j → (rest.map fun v => v.category).sum ≤ 8 → vp_in x (si_sl.getD i 0) → va_S A s.heap H locs → (∀ locs', va_S A s.heap H locs' → W p l e R s m args below meth c H locs' cells slots QQ (F0 m (pc + 3) ls (.int ((si_sb.getD i []).getD x.toNatClampNeg 0) :: rest))) → W p l e R s m args below meth c H locs cells slots QQ (F0 m pc ls (.int x :: .ref (ad 90 i) :: rest)))
    : W p l e R s m args below meth c H locs cells slots QQ (F0 m pc ls (st.map (si_cv ad))) := by
  obtain ⟨hx, hb, hml, hown, hts, hRf, hRl, hRc, hRs, hKK, hA, hE⟩ := X
  obtain ⟨hj, hdg, hok⟩ := si_ck_all hc
  obtain ⟨ins, len, v, a, b, tg⟩ := ent
  have hloc : ∀ {i : Nat} {v : si_AV}, si_nth lv i = some v → ls[i]? = some (.val (si_cv ad v)) := fun h => (hl.2.2.2 _ _ h).1
  have hliv : ∀ {i : Nat} {v : si_AV}, si_nth lv i = some v → si_lV CL v := fun h => (hl.2.2.2 _ _ h).2.1
  cases ins with
  | iconst n =>
    obtain ⟨rfl, hv⟩ := si_len hok
    exact lv_iconst hx hb hdg (of_decide_eq_true hv) (hK _ _ (.inl v :: st) _ _ _ _ h hP hS hl (si_cs trivial hst))
  | bipush n =>
    obtain ⟨rfl, hv⟩ := si_len hok
    exact lv_bipush hx hb hdg (of_decide_eq_true hv) (hK _ _ (.inl v :: st) _ _ _ _ h hP hS hl (si_cs trivial hst))
  | sipush n =>
    obtain ⟨rfl, hv⟩ := si_len hok
    exact lv_sipush hx hb hdg (of_decide_eq_true hv) (hK _ _ (.inl v :: st) _ _ _ _ h hP hS hl (si_cs trivial hst))
  | lconst n =>
    cases si_len1 hok
    exact lv_lconst hx hb hdg rfl (hK _ _ (.inr (.inl (Int64.ofNat (n : Nat))) :: st) _ _ _ _ h hP hS hl (si_cs trivial hst))
  | ldc idx =>
    obtain ⟨rfl, hv⟩ := si_len hok
    cases ha : Nat.beq a 0 with
    | true =>
      dsimp only [si_ex] at h
      rw [ha] at h hv
      obtain ⟨q, hq, hq2⟩ := List.any_eq_true.mp hv
      obtain ⟨q1, q2, q3⟩ := q
      simp only [Bool.and_eq_true, decide_eq_true_eq] at hq2
      obtain ⟨g1, g2, g3⟩ := hq2
      cases Nat.eq_of_beq_eq_true g1
      cases Nat.eq_of_beq_eq_true g2
      cases g3
      exact lv_ldc hx hb hown (hts _ (si_ci_ok hq)) hdg (hK _ _ (.inl _ :: st) _ _ _ _ h hP hS hl (si_cs trivial hst))
    | false =>
      dsimp only [si_ex] at h
      rw [ha] at h hv
      obtain ⟨h12, h⟩ := h
      have hv : (Nat.beq (si_mO j) 5 && Nat.beq (si_sx b) idx) = true := hv
      obtain ⟨e1, e2⟩ := si_len hv
      have e2 := Nat.eq_of_beq_eq_true e2
      rw [e1] at hown
      have hR := hE.2.2.2.2.2.1 b h12
      rw [e2] at hR
      exact va_ldcS hx hb hown hR hdg (hK _ _ (.inr (.inr (90, b)) :: st) _ _ _ _ h hP hS hl (si_cs (Or.inr (Or.inl ⟨rfl, h12⟩)) hst))
  | ldc_w idx =>
    obtain ⟨rfl, hv⟩ := si_len hok
    obtain ⟨q, hq, hq2⟩ := List.any_eq_true.mp hv
    obtain ⟨q1, q2, q3⟩ := q
    simp only [Bool.and_eq_true, decide_eq_true_eq] at hq2
    obtain ⟨g1, g2, g3⟩ := hq2
    cases Nat.eq_of_beq_eq_true g1
    cases Nat.eq_of_beq_eq_true g2
    cases g3
    exact lv_ldcw hx hb hown (hts _ (si_ci_ok hq)) hdg (hK _ _ (.inl _ :: st) _ _ _ _ h hP hS hl (si_cs trivial hst))
  | ldc2_w idx =>
    obtain ⟨rfl, hv⟩ := si_len hok
    obtain ⟨q, hq, hq2⟩ := List.any_eq_true.mp hv
    obtain ⟨q1, q2, q3⟩ := q
    simp only [Bool.and_eq_true] at hq2
    obtain ⟨g1, g2, g3⟩ := hq2
    cases Nat.eq_of_beq_eq_true g1
    cases Nat.eq_of_beq_eq_true g2
    cases Nat.eq_of_beq_eq_true g3
    exact lv_ldc2 hx hb hown (hts _ (si_cl_ok hq)) hdg (hK _ _ (.inr (.inl _) :: st) _ _ _ _ h hP hS hl (si_cs trivial hst))
  | iload i =>
    cases si_len1 hok
    obtain ⟨x, hi, h⟩ := si_lI_e h
    exact lv_iload hx hb hdg (hloc hi) (hK _ _ (.inl x :: st) _ _ _ _ h hP hS hl (si_cs (hliv hi) hst))
  | iload_n i =>
    cases si_len1 hok
    obtain ⟨x, hi, h⟩ := si_lI_e h
    exact lv_iload_n hx hb hdg rfl (hloc hi) (hK _ _ (.inl x :: st) _ _ _ _ h hP hS hl (si_cs (hliv hi) hst))
  | lload i =>
    cases si_len1 hok
    obtain ⟨x, hi, h⟩ := si_lL_e h
    exact lv_lload hx hb hdg (hloc hi) (hK _ _ (.inr (.inl x) :: st) _ _ _ _ h hP hS hl (si_cs (hliv hi) hst))
  | lload_n i =>
    cases si_len1 hok
    obtain ⟨x, hi, h⟩ := si_lL_e h
    exact lv_lload_n hx hb hdg rfl (hloc hi) (hK _ _ (.inr (.inl x) :: st) _ _ _ _ h hP hS hl (si_cs (hliv hi) hst))
  | aload i =>
    cases si_len1 hok
    obtain ⟨x, y, hi, h⟩ := si_lR_e h
    exact lv_aload hx hb hdg (hloc hi) (hK _ _ (.inr (.inr (x, y)) :: st) _ _ _ _ h hP hS hl (si_cs (hliv hi) hst))
  | aload_n i =>
    cases si_len1 hok
    obtain ⟨x, y, hi, h⟩ := si_lR_e h
    exact lv_aload_n hx hb hdg rfl (hloc hi) (hK _ _ (.inr (.inr (x, y)) :: st) _ _ _ _ h hP hS hl (si_cs (hliv hi) hst))
  | istore i =>
    cases si_len1 hok
    obtain ⟨x, r, rfl, h9⟩ := si_pI_e h
    clear h
    have h := h9
    clear h9
    obtain ⟨hi, h9⟩ := si_bif_e h
    clear h
    have h := h9
    clear h9
    exact lv_istore hx hb hdg (si_lo_has hl) (Nat.le_of_ble_eq_true hi) rfl (fun ls' h' => hK _ _ r _ _ _ _ h hP hS (si_lo_sto (v := .inl x) hl trivial rfl h') (si_hd hst))
  | istore_n i =>
    cases si_len1 hok
    obtain ⟨x, r, rfl, h9⟩ := si_pI_e h
    clear h
    have h := h9
    clear h9
    obtain ⟨hi, h9⟩ := si_bif_e h
    clear h
    have h := h9
    clear h9
    exact lv_istore_n hx hb hdg rfl (si_lo_has hl) (Nat.le_of_ble_eq_true hi) rfl (fun ls' h' => hK _ _ r _ _ _ _ h hP hS (si_lo_sto (v := .inl x) hl trivial rfl h') (si_hd hst))
  | lstore i =>
    cases si_len1 hok
    obtain ⟨x, r, rfl, h9⟩ := si_pL_e h
    clear h
    have h := h9
    clear h9
    obtain ⟨hi, h9⟩ := si_bif_e h
    clear h
    have h := h9
    clear h9
    rw [Bool.and_eq_true] at hi
    rw [hi.1] at hl hK
    exact lv_lstore hx hb hdg (si_lo_has hl) (Nat.le_of_ble_eq_true hi.2) rfl (fun ls' h' => hK _ _ r _ _ _ _ h hP hS (si_lo_stl hl h') (si_hd hst))
  | iinc i n =>
    obtain ⟨rfl, hv⟩ := si_len hok
    obtain ⟨x, hi, h9⟩ := si_lI_e h
    clear h
    have h := h9
    clear h9
    obtain ⟨hi2, h9⟩ := si_bif_e h
    clear h
    have h := h9
    clear h9
    obtain ⟨k, hk⟩ := List.getElem?_of_mem (si_fl_mem (q := (i, Value.int x)).mpr ⟨_, hi, rfl⟩)
    exact lv_iinc (v := x + v) hx hb hdg (si_lo_has hl) hk (by rw [of_decide_eq_true hv]) (Nat.le_of_ble_eq_true hi2) rfl (fun ls' h' => hK _ _ st _ _ _ _ h hP hS (si_lo_sto (v := .inl (x + v)) hl trivial rfl h') hst)
  | iadd =>
    cases si_len1 hok
    obtain ⟨y, r, rfl, h9⟩ := si_pI_e h
    clear h
    have h := h9
    clear h9
    obtain ⟨x, r, rfl, h9⟩ := si_pI_e h
    clear h
    have h := h9
    clear h9
    exact lv_iadd hx hb hdg (hK _ _ (.inl (x + y) :: r) _ _ _ _ h hP hS hl (si_cs trivial (si_hd (si_hd hst))))
  | isub =>
    cases si_len1 hok
    obtain ⟨y, r, rfl, h9⟩ := si_pI_e h
    clear h
    have h := h9
    clear h9
    obtain ⟨x, r, rfl, h9⟩ := si_pI_e h
    clear h
    have h := h9
    clear h9
    exact lv_isub hx hb hdg (hK _ _ (.inl (x - y) :: r) _ _ _ _ h hP hS hl (si_cs trivial (si_hd (si_hd hst))))
  | imul =>
    cases si_len1 hok
    obtain ⟨y, r, rfl, h9⟩ := si_pI_e h
    clear h
    have h := h9
    clear h9
    obtain ⟨x, r, rfl, h9⟩ := si_pI_e h
    clear h
    have h := h9
    clear h9
    exact lv_imul hx hb hdg (hK _ _ (.inl (x * y) :: r) _ _ _ _ h hP hS hl (si_cs trivial (si_hd (si_hd hst))))
  | iand =>
    cases si_len1 hok
    obtain ⟨y, r, rfl, h9⟩ := si_pI_e h
    clear h
    have h := h9
    clear h9
    obtain ⟨x, r, rfl, h9⟩ := si_pI_e h
    clear h
    have h := h9
    clear h9
    exact lv_iand hx hb hdg (hK _ _ (.inl (x &&& y) :: r) _ _ _ _ h hP hS hl (si_cs trivial (si_hd (si_hd hst))))
  | ior =>
    cases si_len1 hok
    obtain ⟨y, r, rfl, h9⟩ := si_pI_e h
    clear h
    have h := h9
    clear h9
    obtain ⟨x, r, rfl, h9⟩ := si_pI_e h
    clear h
    have h := h9
    clear h9
    exact lv_ior hx hb hdg (hK _ _ (.inl (x ||| y) :: r) _ _ _ _ h hP hS hl (si_cs trivial (si_hd (si_hd hst))))
  | ishl =>
    cases si_len1 hok
    obtain ⟨y, r, rfl, h9⟩ := si_pI_e h
    clear h
    have h := h9
    clear h9
    obtain ⟨x, r, rfl, h9⟩ := si_pI_e h
    clear h
    have h := h9
    clear h9
    exact lv_ishl hx hb hdg (hK _ _ (.inl (x <<< (y &&& 31)) :: r) _ _ _ _ h hP hS hl (si_cs trivial (si_hd (si_hd hst))))
  | ishr =>
    cases si_len1 hok
    obtain ⟨y, r, rfl, h9⟩ := si_pI_e h
    clear h
    have h := h9
    clear h9
    obtain ⟨x, r, rfl, h9⟩ := si_pI_e h
    clear h
    have h := h9
    clear h9
    exact lv_ishr hx hb hdg (hK _ _ (.inl (x >>> (y &&& 31)) :: r) _ _ _ _ h hP hS hl (si_cs trivial (si_hd (si_hd hst))))
  | iushr =>
    cases si_len1 hok
    obtain ⟨y, r, rfl, h9⟩ := si_pI_e h
    clear h
    have h := h9
    clear h9
    obtain ⟨x, r, rfl, h9⟩ := si_pI_e h
    clear h
    have h := h9
    clear h9
    exact lv_iushr hx hb hdg rfl (hK _ _ (.inl _ :: r) _ _ _ _ h hP hS hl (si_cs trivial (si_hd (si_hd hst))))
  | idiv =>
    cases si_len1 hok
    obtain ⟨y, r, rfl, h9⟩ := si_pI_e h
    clear h
    have h := h9
    clear h9
    obtain ⟨x, r, rfl, h0, h9⟩ := si_pI_e h
    clear h
    have h := h9
    clear h9
    exact lv_idiv hx hb hdg h0 (hK _ _ (.inl (x / y) :: r) _ _ _ _ h hP hS hl (si_cs trivial (si_hd (si_hd hst))))
  | irem =>
    cases si_len1 hok
    obtain ⟨y, r, rfl, h9⟩ := si_pI_e h
    clear h
    have h := h9
    clear h9
    obtain ⟨x, r, rfl, h0, h9⟩ := si_pI_e h
    clear h
    have h := h9
    clear h9
    exact lv_irem hx hb hdg h0 (hK _ _ (.inl (x - x / y * y) :: r) _ _ _ _ h hP hS hl (si_cs trivial (si_hd (si_hd hst))))
  | ineg =>
    cases si_len1 hok
    obtain ⟨x, r, rfl, h9⟩ := si_pI_e h
    clear h
    have h := h9
    clear h9
    exact lv_ineg hx hb hdg (hK _ _ (.inl (-x) :: r) _ _ _ _ h hP hS hl (si_cs trivial (si_hd hst)))
  | ladd =>
    cases si_len1 hok
    obtain ⟨y, r, rfl, h9⟩ := si_pL_e h
    clear h
    have h := h9
    clear h9
    obtain ⟨x, r, rfl, h9⟩ := si_pL_e h
    clear h
    have h := h9
    clear h9
    exact lv_ladd hx hb hdg (hK _ _ (.inr (.inl (x + y)) :: r) _ _ _ _ h hP hS hl (si_cs trivial (si_hd (si_hd hst))))
  | lsub =>
    cases si_len1 hok
    obtain ⟨y, r, rfl, h9⟩ := si_pL_e h
    clear h
    have h := h9
    clear h9
    obtain ⟨x, r, rfl, h9⟩ := si_pL_e h
    clear h
    have h := h9
    clear h9
    exact lv_lsub hx hb hdg (hK _ _ (.inr (.inl (x - y)) :: r) _ _ _ _ h hP hS hl (si_cs trivial (si_hd (si_hd hst))))
  | lmul =>
    cases si_len1 hok
    obtain ⟨y, r, rfl, h9⟩ := si_pL_e h
    clear h
    have h := h9
    clear h9
    obtain ⟨x, r, rfl, h9⟩ := si_pL_e h
    clear h
    have h := h9
    clear h9
    exact lv_lmul hx hb hdg (hK _ _ (.inr (.inl (x * y)) :: r) _ _ _ _ h hP hS hl (si_cs trivial (si_hd (si_hd hst))))
  | ldiv =>
    cases si_len1 hok
    obtain ⟨y, r, rfl, h9⟩ := si_pL_e h
    clear h
    have h := h9
    clear h9
    obtain ⟨x, r, rfl, h0, h9⟩ := si_pL_e h
    clear h
    have h := h9
    clear h9
    exact lv_ldiv hx hb hdg h0 (hK _ _ (.inr (.inl (x / y)) :: r) _ _ _ _ h hP hS hl (si_cs trivial (si_hd (si_hd hst))))
  | lrem =>
    cases si_len1 hok
    obtain ⟨y, r, rfl, h9⟩ := si_pL_e h
    clear h
    have h := h9
    clear h9
    obtain ⟨x, r, rfl, h0, h9⟩ := si_pL_e h
    clear h
    have h := h9
    clear h9
    exact lv_lrem hx hb hdg h0 (hK _ _ (.inr (.inl (x - x / y * y)) :: r) _ _ _ _ h hP hS hl (si_cs trivial (si_hd (si_hd hst))))
  | lcmp =>
    cases si_len1 hok
    obtain ⟨y, r, rfl, h9⟩ := si_pL_e h
    clear h
    have h := h9
    clear h9
    obtain ⟨x, r, rfl, h9⟩ := si_pL_e h
    clear h
    have h := h9
    clear h9
    exact W.lcmp hx hb hdg (hK _ _ (.inl (lg_cmp x y) :: r) _ _ _ _ h hP hS hl (si_cs trivial (si_hd (si_hd hst))))
  | i2l =>
    cases si_len1 hok
    obtain ⟨x, r, rfl, h9⟩ := si_pI_e h
    clear h
    have h := h9
    clear h9
    exact lv_i2l hx hb hdg rfl (hK _ _ (.inr (.inl x.toInt64) :: r) _ _ _ _ h hP hS hl (si_cs trivial (si_hd hst)))
  | l2i =>
    cases si_len1 hok
    obtain ⟨x, r, rfl, h9⟩ := si_pL_e h
    clear h
    have h := h9
    clear h9
    exact lv_l2i hx hb hdg rfl (hK _ _ (.inl x.toInt32 :: r) _ _ _ _ h hP hS hl (si_cs trivial (si_hd hst)))
  | i2b =>
    cases si_len1 hok
    obtain ⟨x, r, rfl, h9⟩ := si_pI_e h
    clear h
    have h := h9
    clear h9
    exact lv_i2b hx hb hdg rfl (hK _ _ (.inl x.toInt8.toInt32 :: r) _ _ _ _ h hP hS hl (si_cs trivial (si_hd hst)))
  | i2s =>
    cases si_len1 hok
    obtain ⟨x, r, rfl, h9⟩ := si_pI_e h
    clear h
    have h := h9
    clear h9
    exact lv_i2s hx hb hdg rfl (hK _ _ (.inl x.toInt16.toInt32 :: r) _ _ _ _ h hP hS hl (si_cs trivial (si_hd hst)))
  | dup =>
    cases si_len1 hok
    match st, hst, h with
    | .inl x :: r, hst, h => exact lv_dup hx hb hdg rfl (hK _ _ (.inl x :: .inl x :: r) _ _ _ _ h hP hS hl (si_cs trivial hst))
    | .inr (.inr q) :: r, hst, h => exact lv_dup hx hb hdg rfl (hK _ _ (.inr (.inr q) :: .inr (.inr q) :: r) _ _ _ _ h hP hS hl (si_cs (hst _ List.mem_cons_self) hst))
  | pop =>
    cases si_len1 hok
    match st, hst, h with
    | .inl x :: r, hst, h => exact lv_pop hx hb hdg rfl (hK _ _ r _ _ _ _ h hP hS hl (si_hd hst))
    | .inr (.inr q) :: r, hst, h => exact lv_pop hx hb hdg rfl (hK _ _ r _ _ _ _ h hP hS hl (si_hd hst))
  | goto off =>
    obtain ⟨rfl, hv⟩ := si_len hok
    exact lv_goto hx hb hdg (of_decide_eq_true hv) (hK _ _ st _ _ _ _ h hP hS hl hst)
  | ifCond cnd off =>
    obtain ⟨rfl, hv⟩ := si_len hok
    obtain ⟨x, r, rfl, h9⟩ := si_pI_e h
    clear h
    have h := h9
    clear h9
    cases cnd with
    | eq => exact lv_if_eq hx hb hdg (of_decide_eq_true hv) (fun q => hK _ _ r _ _ _ _ (h.1 q) hP hS hl (si_hd hst)) (fun q => hK _ _ r _ _ _ _ (h.2 q) hP hS hl (si_hd hst))
    | ne => exact lv_if_ne hx hb hdg (of_decide_eq_true hv) (fun q => hK _ _ r _ _ _ _ (h.1 q) hP hS hl (si_hd hst)) (fun q => hK _ _ r _ _ _ _ (h.2 q) hP hS hl (si_hd hst))
    | lt => exact lv_if_lt hx hb hdg (of_decide_eq_true hv) (fun q => hK _ _ r _ _ _ _ (h.1 q) hP hS hl (si_hd hst)) (fun q => hK _ _ r _ _ _ _ (h.2 q) hP hS hl (si_hd hst))
    | ge => exact lv_if_ge hx hb hdg (of_decide_eq_true hv) (fun q => hK _ _ r _ _ _ _ (h.1 q) hP hS hl (si_hd hst)) (fun q => hK _ _ r _ _ _ _ (h.2 q) hP hS hl (si_hd hst))
    | gt => exact lv_if_gt hx hb hdg (of_decide_eq_true hv) (fun q => hK _ _ r _ _ _ _ (h.1 q) hP hS hl (si_hd hst)) (fun q => hK _ _ r _ _ _ _ (h.2 q) hP hS hl (si_hd hst))
    | le => exact lv_if_le hx hb hdg (of_decide_eq_true hv) (fun q => hK _ _ r _ _ _ _ (h.1 q) hP hS hl (si_hd hst)) (fun q => hK _ _ r _ _ _ _ (h.2 q) hP hS hl (si_hd hst))
  | if_icmp cnd off =>
    obtain ⟨rfl, hv⟩ := si_len hok
    obtain ⟨y, r, rfl, h9⟩ := si_pI_e h
    clear h
    have h := h9
    clear h9
    obtain ⟨x, r, rfl, h9⟩ := si_pI_e h
    clear h
    have h := h9
    clear h9
    cases cnd with
    | eq => exact lv_icmp_eq hx hb hdg (of_decide_eq_true hv) (fun q => hK _ _ r _ _ _ _ (h.1 q) hP hS hl (si_hd (si_hd hst))) (fun q => hK _ _ r _ _ _ _ (h.2 q) hP hS hl (si_hd (si_hd hst)))
    | ne => exact lv_icmp_ne hx hb hdg (of_decide_eq_true hv) (fun q => hK _ _ r _ _ _ _ (h.1 q) hP hS hl (si_hd (si_hd hst))) (fun q => hK _ _ r _ _ _ _ (h.2 q) hP hS hl (si_hd (si_hd hst)))
    | lt => exact lv_icmp_lt hx hb hdg (of_decide_eq_true hv) (fun q => hK _ _ r _ _ _ _ (h.1 q) hP hS hl (si_hd (si_hd hst))) (fun q => hK _ _ r _ _ _ _ (h.2 q) hP hS hl (si_hd (si_hd hst)))
    | ge => exact lv_icmp_ge hx hb hdg (of_decide_eq_true hv) (fun q => hK _ _ r _ _ _ _ (h.1 q) hP hS hl (si_hd (si_hd hst))) (fun q => hK _ _ r _ _ _ _ (h.2 q) hP hS hl (si_hd (si_hd hst)))
    | gt => exact lv_icmp_gt hx hb hdg (of_decide_eq_true hv) (fun q => hK _ _ r _ _ _ _ (h.1 q) hP hS hl (si_hd (si_hd hst))) (fun q => hK _ _ r _ _ _ _ (h.2 q) hP hS hl (si_hd (si_hd hst)))
    | le => exact lv_icmp_le hx hb hdg (of_decide_eq_true hv) (fun q => hK _ _ r _ _ _ _ (h.1 q) hP hS hl (si_hd (si_hd hst))) (fun q => hK _ _ r _ _ _ _ (h.2 q) hP hS hl (si_hd (si_hd hst)))
  | tableswitch dd lo hi offs =>
    obtain ⟨x, r, rfl, h9⟩ := si_pI_e h
    clear h
    have h := h9
    clear h9
    dsimp only [si_okE] at hok
    simp only [Bool.and_eq_true, decide_eq_true_eq] at hok
    obtain ⟨g1, rfl, g3, g4, g5, g6⟩ := hok
    have g := si_tab_in offs.toList lo g4 (by omega) h
    by_cases hin : x.toInt < lo ∨ hi < x.toInt
    · exact lv_tableOut hx hb hdg hin g1 (hK _ _ r _ _ _ _ (g.1 (by omega)) hP hS hl (si_hd hst))
    · obtain ⟨q, e1, e2⟩ := g.2 (by omega) (by omega)
      have e3 : (0 : Int) ≤ (pc : Int) + q := of_decide_eq_true (List.all_eq_true.mp g6 q (List.mem_of_getElem? e1))
      exact lv_tableIn hx hb hdg (by omega) (by omega) (by simpa using e1) (by omega) (hK _ _ r _ _ _ _ e2 hP hS hl (si_hd hst))
  | lookupswitch dd ps =>
    obtain ⟨x, r, rfl, h9⟩ := si_pI_e h
    clear h
    have h := h9
    clear h9
    dsimp only [si_okE] at hok
    simp only [Bool.and_eq_true] at hok
    obtain ⟨g1, g2, g3, g4⟩ := hok
    cases of_decide_eq_true g2
    obtain ⟨t, e1, e2⟩ := si_look_in (of_decide_eq_true g1) ps.toList (fun q hq => by
      have := List.all_eq_true.mp g4 q hq
      simp only [Bool.and_eq_true, decide_eq_true_eq] at this
      exact this) h
    exact lv_lookup hx hb hdg g3 rfl e1 (hK _ _ r _ _ _ _ e2 hP hS hl (si_hd hst))
  | getfield idx =>
    obtain ⟨rfl, hv⟩ := si_len hok
    simp only [Bool.and_eq_true] at hv
    obtain ⟨g1, g2, g3⟩ := hv
    have g1 : a < 8 := Nat.le_of_ble_eq_true g1
    have g2 : b < si_N a := Nat.le_of_ble_eq_true g2
    obtain ⟨t, i, r, rfl, h9⟩ := si_pR_e h
    clear h
    have h := h9
    clear h9
    obtain ⟨ht, h9⟩ := si_bif_e h
    clear h
    have h := h9
    clear h9
    have ht := Nat.eq_of_beq_eq_true ht
    subst ht
    have hq : (t, i) ∈ CL := by
      rcases hst _ List.mem_cons_self with q | q | q | q
      · exact q
      · exact absurd q.1 (by show ¬ t = 90; omega)
      · exact absurd (congrArg Prod.fst q) (by show ¬ t = 91; omega)
      · exact absurd (congrArg Prod.fst q) (by show ¬ t = 92; omega)
    obtain ⟨n, hn, hw⟩ := si_ws_at (ad := ad) (cI := cI) (cZ := cZ) (μ := μ) hq
    rw [si_ce_obj (q := (t, i)) g1] at hw
    cases hg : si_gf (si_fld t b) i (μ.1 t i b) μ.2 with
    | none => rw [hg] at h; exact h.elim
    | some u =>
      rw [hg] at h
      have hvv : ((List.range (si_N t)).map fun k => si_fv ad (si_fld t k) i (μ.1 t i k) μ.2)[b]? = some (si_cv ad u) := by
        rw [List.getElem?_map, List.getElem?_range g2]
        show some (si_fv ad (si_fld t b) i (μ.1 t i b) μ.2) = _
        unfold si_fv
        rw [hg]
      have hu : si_lV CL u := hcl.2.2.1 (t, i) hq b g2 _ _ _ hg
      rcases si_fl_any (args := args) hE g3 with hlk | hlk
      · exact va_get (C := si_R t) (T := si_T t) (N := si_N t) hx hb hts (si_inws t g1) hown hKK hP n hw (si_cls_at t g1) b g2 (hts _ hlk) (fun _ h9 => h9) hvv hdg (hK _ _ (u :: r) _ _ _ _ h hP hS hl (si_cs hu (si_hd hst)))
      · exact va_getN (C := si_R t) (T := si_T t) (N := si_N t) hx hb hts (si_inws t g1) hown hKK hP n hw (si_cls_at t g1) b g2 hlk (fun _ h9 => h9) hvv hdg (hK _ _ (u :: r) _ _ _ _ h hP hS hl (si_cs hu (si_hd hst)))
  | putfield idx =>
    obtain ⟨rfl, hv⟩ := si_len hok
    simp only [Bool.and_eq_true] at hv
    obtain ⟨g1, g2, g0, g3⟩ := hv
    have g1 : a < 8 := Nat.le_of_ble_eq_true g1
    have g2 : b < si_N a := Nat.le_of_ble_eq_true g2
    have g0 : (si_T a b).2.2.2 = false := by simpa using g0
    have hft := si_fty a g1 b g2
    have hpd := si_tyok a g1 b g2
    have hfl := si_fl_any (args := args) hE g3
    have hmem : ∀ (i : Nat) (r : List si_AV), (∀ v ∈ (.inr (.inr (a, i)) : si_AV) :: r, si_lV CL v) → (a, i) ∈ CL := by
      intro i r hr
      rcases hr _ List.mem_cons_self with q | q | q | q
      · exact q
      · exact absurd q.1 (by show ¬ a = 90; omega)
      · exact absurd (congrArg Prod.fst q) (by show ¬ a = 91; omega)
      · exact absurd (congrArg Prod.fst q) (by show ¬ a = 92; omega)
    match st, hst, h with
    | .inl x :: r, hst2, hh =>
      clear h hst
      have h := hh
      have hst := hst2
      clear hh hst2
      obtain ⟨t, i, r, rfl, h9⟩ := si_pR_e h
      clear h
      have h := h9
      clear h9
      obtain ⟨ht, h9⟩ := si_bif_e h
      clear h
      have h := h9
      clear h9
      have ht := Nat.eq_of_beq_eq_true ht
      subst ht
      have hq := hmem i r (si_hd hst)
      obtain ⟨n, hn, hw⟩ := si_ws_at (ad := ad) (cI := cI) (cZ := cZ) (μ := μ) hq
      rw [si_ce_obj (q := (t, i)) g1] at hw
      have hfin : ((si_fld t b).1 = 0 ∨ (si_fld t b).1 = 4) ∧ narrow (si_ty t b) (.int x) = .int x ∧ fits (si_ty t b) (.int x) = true ∧ K (pc + 3) lv r (si_ms μ t i b x) := by
        cases h0 : Nat.beq (si_fld t b).1 0 with
        | true =>
          rw [h0] at h
          have e := Nat.eq_of_beq_eq_true h0
          rw [hft.1 e]
          exact ⟨Or.inl e, rfl, rfl, h⟩
        | false =>
          rw [h0] at h
          obtain ⟨h4, hx01, h9⟩ := si_bif_e h
          clear h
          have h := h9
          clear h9
          have e := Nat.eq_of_beq_eq_true h4
          rw [hft.2.1 e]
          rcases hx01 with rfl | rfl
          · exact ⟨Or.inr e, rfl, rfl, h⟩
          · exact ⟨Or.inr e, rfl, rfl, h⟩
      obtain ⟨hf1, hf2, hf3, h⟩ := hfin
      rcases hfl with hlk | hlk
      · exact va_put (C := si_R t) (T := si_T t) (N := si_N t) (ty := si_ty t b) (v := .int x) hx hb hts (si_inws t g1) (si_ty t) (si_tyok t g1) (si_nmok t g1) hown hKK hP hD hS n hw (si_cls_at t g1) b g2 (hts _ hlk) (fun _ h9 => h9) g0 hpd hf2 hf3 (by simp; exact g2) hdg (fun H1 locs1 hP1 hD1 hS1 => hK _ _ r _ _ _ _ h (by rw [si_fo_set hcl hn g1 g2 hf1] at hP1; exact hP1) hS1 hl (si_hd (si_hd hst)))
      · exact va_putN (C := si_R t) (T := si_T t) (N := si_N t) (ty := si_ty t b) (v := .int x) hx hb hts (si_inws t g1) (si_ty t) (si_tyok t g1) (si_nmok t g1) hown hKK hP hD hS n hw (si_cls_at t g1) b g2 hlk (fun _ h9 => h9) g0 hpd hf2 hf3 (by simp; exact g2) hdg (fun H1 locs1 hP1 hD1 hS1 => hK _ _ r _ _ _ _ h (by rw [si_fo_set hcl hn g1 g2 hf1] at hP1; exact hP1) hS1 hl (si_hd (si_hd hst)))
    | .inr (.inl y) :: r, hst2, hh =>
      clear h hst
      have h := hh
      have hst := hst2
      clear hh hst2
      obtain ⟨t, i, r, rfl, h9⟩ := si_pR_e h
      clear h
      have h := h9
      clear h9
      obtain ⟨ht, h9⟩ := si_bif_e h
      clear h
      have h := h9
      clear h9
      obtain ⟨ht1, ht2⟩ := si_len ht
      subst ht1
      have e := Nat.eq_of_beq_eq_true ht2
      have hq := hmem i r (si_hd hst)
      obtain ⟨n, hn, hw⟩ := si_ws_at (ad := ad) (cI := cI) (cZ := cZ) (μ := μ) hq
      rw [si_ce_obj (q := (t, i)) g1] at hw
      have hf : narrow (si_ty t b) (.long y) = .long y ∧ fits (si_ty t b) (.long y) = true := by
        rw [hft.2.2 e]
        exact ⟨rfl, rfl⟩
      rcases hfl with hlk | hlk
      · exact va_put (C := si_R t) (T := si_T t) (N := si_N t) (ty := si_ty t b) (v := .long y) hx hb hts (si_inws t g1) (si_ty t) (si_tyok t g1) (si_nmok t g1) hown hKK hP hD hS n hw (si_cls_at t g1) b g2 (hts _ hlk) (fun _ h9 => h9) g0 hpd hf.1 hf.2 (by simp; exact g2) hdg (fun H1 locs1 hP1 hD1 hS1 => hK _ _ r _ _ _ _ h (by rw [si_fj_set hcl hn g1 g2 e] at hP1; exact hP1) hS1 hl (si_hd (si_hd hst)))
      · exact va_putN (C := si_R t) (T := si_T t) (N := si_N t) (ty := si_ty t b) (v := .long y) hx hb hts (si_inws t g1) (si_ty t) (si_tyok t g1) (si_nmok t g1) hown hKK hP hD hS n hw (si_cls_at t g1) b g2 hlk (fun _ h9 => h9) g0 hpd hf.1 hf.2 (by simp; exact g2) hdg (fun H1 locs1 hP1 hD1 hS1 => hK _ _ r _ _ _ _ h (by rw [si_fj_set hcl hn g1 g2 e] at hP1; exact hP1) hS1 hl (si_hd (si_hd hst)))
  | getstatic idx =>
    obtain ⟨rfl, hv⟩ := si_len hok
    obtain ⟨e1, e2⟩ := si_len hv
    have e2 := Nat.eq_of_beq_eq_true e2
    obtain ⟨ha, h9⟩ := si_bif_e h
    clear h
    have h := h9
    clear h9
    rw [e1] at hown
    cases e2
    exact va_gets hx hb hE.1 hS hown (hts _ si_x_ul) (fun _ h9 => h9) hdg (hK _ _ (.inr (.inr (91, 0)) :: st) _ _ _ _ h hP hS hl (si_cs (Or.inr (Or.inr (Or.inl rfl))) hst))
  | iaload =>
    cases si_len1 hok
    obtain ⟨x, r, rfl, h9⟩ := si_pI_e h
    clear h
    have h := h9
    clear h9
    obtain ⟨t, i, r, rfl, h9⟩ := si_pR_e h
    clear h
    have h := h9
    clear h9
    have hlv := hst _ (List.mem_cons_of_mem _ List.mem_cons_self)
    cases h91 : Nat.beq t 91 with
    | true =>
      rw [h91] at h
      cases Nat.eq_of_beq_eq_true h91
      have hi : i = 0 := by
        rcases hlv with q | q | q | q
        · exact absurd (hcl.2.1 _ q) (by show ¬ 91 < 45; omega)
        · exact absurd q.1 (by show ¬ 91 = 90; omega)
        · exact congrArg Prod.snd q
        · exact absurd (congrArg Prod.fst q) (by show ¬ 91 = 92; omega)
      subst hi
      exact va_ti hx hb hE.2.1 hS h.1 rfl hdg (hK _ _ (.inl _ :: r) _ _ _ _ h.2 hP hS hl (si_cs trivial (si_hd (si_hd hst))))
    | false =>
      rw [h91] at h
      cases h92 : Nat.beq t 92 with
      | true =>
        rw [h92] at h
        cases Nat.eq_of_beq_eq_true h92
        have hi : i = 0 := by
          rcases hlv with q | q | q | q
          · exact absurd (hcl.2.1 _ q) (by show ¬ 92 < 45; omega)
          · exact absurd q.1 (by show ¬ 92 = 90; omega)
          · exact absurd (congrArg Prod.fst q) (by show ¬ 92 = 91; omega)
          · exact congrArg Prod.snd q
        subst hi
        exact va_ti hx hb hE.2.2.1 hS h.1 rfl hdg (hK _ _ (.inl _ :: r) _ _ _ _ h.2 hP hS hl (si_cs trivial (si_hd (si_hd hst))))
      | false =>
        rw [h92] at h
        obtain ⟨ha, h9⟩ := si_bif_e h
        clear h
        have h := h9
        clear h9
        have hq : (t, i) ∈ CL := si_arr_in hlv (by rw [ha]; rfl)
        obtain ⟨n, hn, hw⟩ := si_ws_at (ad := ad) (cI := cI) (cZ := cZ) (μ := μ) hq
        rw [si_ce_arr0 (q := (t, i)) ha] at hw
        exact va_iald hx hb hKK hP n 0 hw rfl h.1 hdg (hK _ _ (.inl _ :: r) _ _ _ _ h.2 hP hS hl (si_cs trivial (si_hd (si_hd hst))))
  | baload =>
    cases si_len1 hok
    obtain ⟨x, r, rfl, h9⟩ := si_pI_e h
    clear h
    have h := h9
    clear h9
    obtain ⟨t, i, r, rfl, h9⟩ := si_pR_e h
    clear h
    have h := h9
    clear h9
    have hlv := hst _ (List.mem_cons_of_mem _ List.mem_cons_self)
    obtain ⟨ha, h9⟩ := si_bif_e h
    clear h
    have h := h9
    clear h9
    have hq : (t, i) ∈ CL := si_arr_in hlv (by rw [ha, Bool.or_true])
    obtain ⟨n, hn, hw⟩ := si_ws_at (ad := ad) (cI := cI) (cZ := cZ) (μ := μ) hq
    rw [si_ce_arr1 (q := (t, i)) ha] at hw
    exact va_zald hx hb hKK hP n 1 hw rfl h.1 hdg (hK _ _ (.inl _ :: r) _ _ _ _ h.2 hP hS hl (si_cs trivial (si_hd (si_hd hst))))
  | iastore =>
    cases si_len1 hok
    obtain ⟨v, r, rfl, h9⟩ := si_pI_e h
    clear h
    have h := h9
    clear h9
    obtain ⟨x, r, rfl, h9⟩ := si_pI_e h
    clear h
    have h := h9
    clear h9
    obtain ⟨t, i, r, rfl, h9⟩ := si_pR_e h
    clear h
    have h := h9
    clear h9
    have hlv := hst _ (List.mem_cons_of_mem _ (List.mem_cons_of_mem _ List.mem_cons_self))
    obtain ⟨ha, h9⟩ := si_bif_e h
    clear h
    have h := h9
    clear h9
    have hq : (t, i) ∈ CL := si_arr_in hlv (by rw [ha]; rfl)
    obtain ⟨n, hn, hw⟩ := si_ws_at (ad := ad) (cI := cI) (cZ := cZ) (μ := μ) hq
    rw [si_ce_arr0 (q := (t, i)) ha] at hw
    exact va_iast hx hb hKK hP hD hS n 0 hw rfl h.1 hdg (fun H1 locs1 hP1 hD1 hS1 => hK _ _ r _ _ _ _ h.2 (by rw [si_ar_set (μ' := si_ms μ t i x.toNatClampNeg v) hcl hn ha (si_ms_same μ t i _ v) (fun q' hne => si_ms_ne μ _ v hne) rfl] at hP1; exact hP1) hS1 hl (si_hd (si_hd (si_hd hst))))
  | bastore =>
    cases si_len1 hok
    obtain ⟨v, r, rfl, h9⟩ := si_pI_e h
    clear h
    have h := h9
    clear h9
    obtain ⟨x, r, rfl, h9⟩ := si_pI_e h
    clear h
    have h := h9
    clear h9
    obtain ⟨t, i, r, rfl, h9⟩ := si_pR_e h
    clear h
    have h := h9
    clear h9
    have hlv := hst _ (List.mem_cons_of_mem _ (List.mem_cons_of_mem _ List.mem_cons_self))
    obtain ⟨ha, h01, h9⟩ := si_bif_e h
    clear h
    have h := h9
    clear h9
    have hq : (t, i) ∈ CL := si_arr_in hlv (by rw [ha, Bool.or_true])
    obtain ⟨n, hn, hw⟩ := si_ws_at (ad := ad) (cI := cI) (cZ := cZ) (μ := μ) hq
    rw [si_ce_arr1 (q := (t, i)) ha] at hw
    have hnv : vp_nar .boolean v = v := by rcases h01 with rfl | rfl <;> rfl
    exact va_zast hx hb hKK hP hD hS n 1 hw rfl h.1 hdg (fun H1 locs1 hP1 hD1 hS1 => hK _ _ r _ _ _ _ h.2 (by rw [hnv, si_br_set (μ' := si_ms μ t i x.toNatClampNeg v) hcl hn ha (si_ms_same μ t i _ v) (fun q' hne => si_ms_ne μ _ v hne) rfl] at hP1; exact hP1) hS1 hl (si_hd (si_hd (si_hd hst))))
  | arraylength =>
    cases si_len1 hok
    obtain ⟨t, i, r, rfl, h9⟩ := si_pR_e h
    clear h
    have h := h9
    clear h9
    have hlv := hst _ List.mem_cons_self
    cases h92 : Nat.beq t 92 with
    | true =>
      rw [h92] at h
      cases Nat.eq_of_beq_eq_true h92
      have hi : i = 0 := by
        rcases hlv with q | q | q | q
        · exact absurd (hcl.2.1 _ q) (by show ¬ 92 < 45; omega)
        · exact absurd q.1 (by show ¬ 92 = 90; omega)
        · exact absurd (congrArg Prod.fst q) (by show ¬ 92 = 91; omega)
        · exact congrArg Prod.snd q
      subst hi
      exact va_tlen hx hb hE.2.2.1 hS rfl hdg (hK _ _ (.inl _ :: r) _ _ _ _ h hP hS hl (si_cs trivial (si_hd hst)))
    | false =>
      rw [h92] at h
      obtain ⟨ha, h9⟩ := si_bif_e h
      clear h
      have h := h9
      clear h9
      have ha' : Nat.beq (si_arr t).1 0 = true ∨ Nat.beq (si_arr t).1 1 = true := by
        have := Nat.le_of_ble_eq_true ha
        match hh : (si_arr t).1, this with
        | 0, _ => exact Or.inl rfl
        | 1, _ => exact Or.inr rfl
      rcases ha' with ha | ha
      · have hq : (t, i) ∈ CL := si_arr_in hlv (by rw [ha]; rfl)
        obtain ⟨n, hn, hw⟩ := si_ws_at (ad := ad) (cI := cI) (cZ := cZ) (μ := μ) hq
        rw [si_ce_arr0 (q := (t, i)) ha] at hw
        exact va_alen (ty := .int) hx hb hKK hP n 0 hw rfl rfl hdg (hK _ _ (.inl _ :: r) _ _ _ _ h hP hS hl (si_cs trivial (si_hd hst)))
      · have hq : (t, i) ∈ CL := si_arr_in hlv (by rw [ha, Bool.or_true])
        obtain ⟨n, hn, hw⟩ := si_ws_at (ad := ad) (cI := cI) (cZ := cZ) (μ := μ) hq
        rw [si_ce_arr1 (q := (t, i)) ha] at hw
        exact va_alen (ty := .boolean) hx hb hKK hP n 1 hw rfl rfl hdg (hK _ _ (.inl _ :: r) _ _ _ _ h hP hS hl (si_cs trivial (si_hd hst)))
  | invokevirtual idx =>
    obtain ⟨rfl, hv⟩ := si_len hok
    have hml2 := si_ml_any hv
    cases ha0 : Nat.beq a 0 with
    | true =>
      dsimp only [si_ex] at h
      rw [ha0] at h
      cases Nat.eq_of_beq_eq_true ha0
      obtain ⟨as, r, has, rfl, h9⟩ := si_take_e _ _ _ h
      clear h
      have h := h9
      clear h9
      rw [List.append_nil] at h
      obtain ⟨t, i, r, rfl, h9⟩ := si_pR_e h
      clear h
      have h := h9
      clear h9
      obtain ⟨hg, h9⟩ := si_bif_e h
      clear h
      have h := h9
      clear h9
      obtain ⟨ht, hg⟩ := si_len hg
      simp only [Bool.and_eq_true] at hg
      obtain ⟨hg1, hg2, hg3⟩ := hg
      have hV := si_ML_V hml2
      have hJ := si_JV_A hV
      obtain ⟨m1, m2, m3, m4, m5, m6⟩ := si_mck_e hJ
      have hlas : ∀ v ∈ as, si_lV CL v := fun v hv => hst v (List.mem_append_left _ (List.mem_reverse.mpr hv))
      have hlr : ∀ v ∈ (.inr (.inr (t, i)) : si_AV) :: r, si_lV CL v := fun v hv => hst v (List.mem_append_right _ hv)
      have hq : (t, i) ∈ CL := by
        rcases hlr _ List.mem_cons_self with q | q | q | q
        · exact q
        · exact absurd q.1 (by show ¬ t = 90; omega)
        · exact absurd (congrArg Prod.fst q) (by show ¬ t = 91; omega)
        · exact absurd (congrArg Prod.fst q) (by show ¬ t = 92; omega)
      obtain ⟨n, hn, hw⟩ := si_ws_at (ad := ad) (cI := cI) (cZ := cZ) (μ := μ) hq
      rw [si_ce_obj (q := (t, i)) (by show t < 8; omega)] at hw
      have hM := hC b _ μ _ h (si_cs (hlr _ List.mem_cons_self) hlas) hJ (Nat.le_of_ble_eq_true hg2) (fun e u hu => by
        rw [e, Bool.false_or] at hg3
        rcases List.mem_cons.mp hu with rfl | hu
        · rfl
        · have := List.all_eq_true.mp hg3 u hu
          simpa using this) H.size
      have hrun := va_runV (e := e) (below := below) (meth := meth) (C := si_R (si_mO b)) (As := as.map (si_cv ad)) (rest := r.map (si_cv ad)) (b := ad t i) (g := F0 m pc ls ((as.reverse ++ .inr (.inr (t, i)) :: r).map (si_cv ad))) (locs := locs) (cells := cells) (slots := slots) ⟨hx, hb, hml, hown, hts⟩ hM (cwV (si_mN b) hts (si_goodV hml2) (si_cdc_eq b) rfl rfl m1 ⟨si_rmF hRf, si_rmL hRl m3⟩) ⟨si_blind, by
          have := va_recv hKK hP (si_cls_at t (by omega)) hw
          rw [ht] at this
          rw [ht]
          exact this, fun U hU hW => si_pre_ok (as := .inr (.inr (t, i)) :: as) hU hW hP hD hS hA hKK hE⟩ rfl (by rw [List.length_map, has]) hl.1 (by
          show (as.reverse ++ .inr (.inr (t, i)) :: r).map (si_cv ad) = _
          rw [List.map_append, List.map_reverse]; rfl) (lv_room (by rw [si_w8_cat]; exact Nat.le_of_ble_eq_true hg1)) hdg ⟨hRc, hRs⟩
      exact si_after hA hD hS hl (si_hd hlr) m6 hK hrun
    | false =>
      dsimp only [si_ex] at h
      rw [ha0] at h
      cases ha5 : Nat.beq a 5 with
      | true =>
        rw [ha5] at h
        cases Nat.eq_of_beq_eq_true ha5
        obtain ⟨t, i, r, rfl, h9⟩ := si_pR_e h
        clear h
        have h := h9
        clear h9
        obtain ⟨hg, h9⟩ := si_bif_e h
        clear h
        have h := h9
        clear h9
        obtain ⟨ht, hg⟩ := si_len hg
        cases ht
        have hb0 : b = 0 := si_ML_5 hml2
        subst hb0
        have hi : i < 12 := si_str_in hcl (hst _ List.mem_cons_self)
        exact hSL hi hml2 hdg hl.1 (by rw [si_w8_cat]; exact Nat.le_of_ble_eq_true hg) hS (fun locs' hS' => hK _ _ (.inl _ :: r) _ _ _ _ h hP hS' hl (si_cs trivial (si_hd hst)))
      | false =>
        rw [ha5] at h
        obtain ⟨ha6, h9⟩ := si_bif_e h
        clear h
        have h := h9
        clear h9
        cases Nat.eq_of_beq_eq_true ha6
        obtain ⟨x, r, rfl, h9⟩ := si_pI_e h
        clear h
        have h := h9
        clear h9
        obtain ⟨t, i, r, rfl, h9⟩ := si_pR_e h
        clear h
        have h := h9
        clear h9
        obtain ⟨hg, hin, h9⟩ := si_bif_e h
        clear h
        have h := h9
        clear h9
        obtain ⟨ht, hg⟩ := si_len hg
        cases ht
        have hb0 : b = 0 := si_ML_5' hml2
        subst hb0
        have hi : i < 12 := si_str_in hcl (hst _ (List.mem_cons_of_mem _ List.mem_cons_self))
        exact hSC hi hml2 hdg hl.1 (by rw [si_w8_cat]; exact Nat.le_of_ble_eq_true hg) hin hS (fun locs' hS' => hK _ _ (.inl _ :: r) _ _ _ _ h hP hS' hl (si_cs trivial (si_hd (si_hd hst))))
  | invokestatic idx =>
    obtain ⟨rfl, hv⟩ := si_len hok
    rw [Bool.and_eq_true] at hv
    have hml2 := si_ml_any hv.2
    cases ha0 : Nat.beq a 1 with
    | true =>
      dsimp only [si_ex] at h
      rw [ha0] at h
      cases Nat.eq_of_beq_eq_true ha0
      have ho : si_mO b = si_mO j := by
        have := hv.1
        simp only [show Nat.beq 1 1 = true from rfl, Bool.not_true, Bool.false_or] at this
        exact Nat.eq_of_beq_eq_true this
      obtain ⟨as, r, has, rfl, h9⟩ := si_take_e _ _ _ h
      clear h
      have h := h9
      clear h9
      rw [List.append_nil] at h
      obtain ⟨hg, h9⟩ := si_bif_e h
      clear h
      have h := h9
      clear h9
      simp only [Bool.and_eq_true] at hg
      obtain ⟨hg1, hg2, hg3⟩ := hg
      have hV := si_ML_S hml2
      have hJ := si_JS_A hV
      obtain ⟨m1, m2, m3, m4, m5, m6⟩ := si_mck_e hJ
      have hlas : ∀ v ∈ as, si_lV CL v := fun v hv => hst v (List.mem_append_left _ (List.mem_reverse.mpr hv))
      have hlr : ∀ v ∈ r, si_lV CL v := fun v hv => hst v (List.mem_append_right _ hv)
      have hM := hC b _ μ _ h hlas hJ (Nat.le_of_ble_eq_true hg2) (fun e u hu => by
        rw [e, Bool.false_or] at hg3
        have := List.all_eq_true.mp hg3 u hu
        simpa using this) H.size
      rw [ho] at m1
      have hrun := va_runS (e := e) (below := below) (meth := meth) (As := as.map (si_cv ad)) (rest := r.map (si_cv ad)) (g := F0 m pc ls ((as.reverse ++ r).map (si_cv ad))) (locs := locs) (cells := cells) (slots := slots) ⟨hx, hb, hml, hown, hts⟩ hM (cwS (si_mN b) hts (si_goodS hml2 ho) (si_cdc_eq b) rfl rfl m1 ⟨si_rmF hRf, si_rmL hRl m3⟩) ⟨si_blind, fun U hU hW => si_pre_ok (as := as) hU hW hP hD hS hA hKK hE⟩ rfl (by rw [List.length_map, has]) hl.1 (by
          show (as.reverse ++ r).map (si_cv ad) = _
          rw [List.map_append, List.map_reverse]) (lv_room (by rw [si_w8_cat]; exact Nat.le_of_ble_eq_true hg1)) hdg ⟨hRc, hRs⟩
      exact si_after hA hD hS hl hlr m6 hK hrun
    | false =>
      dsimp only [si_ex] at h
      rw [ha0] at h
      cases ha2 : Nat.beq a 2 with
      | true =>
        rw [ha2] at h
        cases Nat.eq_of_beq_eq_true ha2
        obtain ⟨y, r, rfl, h9⟩ := si_pI_e h
        clear h
        have h := h9
        clear h9
        obtain ⟨x, r, rfl, h9⟩ := si_pI_e h
        clear h
        have h := h9
        clear h9
        obtain ⟨hg, h9⟩ := si_bif_e h
        clear h
        have h := h9
        clear h9
        have hlk : (Cond.methodLink (si_R (si_mO j)) idx Lib.Math.max.name) ∈ si_tb := si_ml_ok hml2
        exact va_mmax hx hb (hml.trans hl.1.symm) hown (hts _ hlk) (hts _ si_x_mxs) (hts _ si_x_mi) (hts _ si_x_mxc) (by omega) (by rw [si_w8_cat]; have := Nat.le_of_ble_eq_true hg; omega) hRc hRs hdg (hK _ _ (.inl _ :: r) _ _ _ _ h hP hS hl (si_cs trivial (si_hd (si_hd hst))))
      | false =>
        rw [ha2] at h
        cases ha3 : Nat.beq a 3 with
        | true =>
          rw [ha3] at h
          cases Nat.eq_of_beq_eq_true ha3
          obtain ⟨y, r, rfl, h9⟩ := si_pI_e h
          clear h
          have h := h9
          clear h9
          obtain ⟨x, r, rfl, h9⟩ := si_pI_e h
          clear h
          have h := h9
          clear h9
          obtain ⟨hg, h9⟩ := si_bif_e h
          clear h
          have h := h9
          clear h9
          have hlk : (Cond.methodLink (si_R (si_mO j)) idx Lib.Math.min.name) ∈ si_tb := si_ml_ok hml2
          exact va_mmin hx hb (hml.trans hl.1.symm) hown (hts _ hlk) (hts _ si_x_mns) (hts _ si_x_mi) (hts _ si_x_mnc) (by omega) (by rw [si_w8_cat]; have := Nat.le_of_ble_eq_true hg; omega) hRc hRs hdg (hK _ _ (.inl _ :: r) _ _ _ _ h hP hS hl (si_cs trivial (si_hd (si_hd hst))))
        | false =>
          rw [ha3] at h
          obtain ⟨ha4, h9⟩ := si_bif_e h
          clear h
          have h := h9
          clear h9
          cases Nat.eq_of_beq_eq_true ha4
          obtain ⟨nn, r, rfl, h9⟩ := si_pI_e h
          clear h
          have h := h9
          clear h9
          obtain ⟨dp, r, rfl, h9⟩ := si_pI_e h
          clear h
          have h := h9
          clear h9
          obtain ⟨t, i, r, rfl, h9⟩ := si_pR_e h
          clear h
          have h := h9
          clear h9
          obtain ⟨sp, r, rfl, h9⟩ := si_pI_e h
          clear h
          have h := h9
          clear h9
          obtain ⟨t0, i0, r, rfl, h9⟩ := si_pR_e h
          clear h
          have h := h9
          clear h9
          obtain ⟨hg, hcnd, h9⟩ := si_bif_e h
          clear h
          have h := h9
          clear h9
          simp only [Bool.and_eq_true] at hg
          obtain ⟨hg1, hg2, hg3⟩ := hg
          obtain ⟨c1, c2, c3, c4, c5⟩ := hcnd
          have hq : (t, i) ∈ CL := si_arr_in (hst _ (by simp)) (by rw [hg1]; rfl)
          have hq0 : (t0, i0) ∈ CL := si_arr_in (hst _ (by simp)) (by rw [hg2]; rfl)
          obtain ⟨n, hn, hw⟩ := si_ws_at (ad := ad) (cI := cI) (cZ := cZ) (μ := μ) hq
          rw [si_ce_arr0 (q := (t, i)) hg1] at hw
          obtain ⟨n0, hn0, hw0⟩ := si_ws_at (ad := ad) (cI := cI) (cZ := cZ) (μ := μ) hq0
          rw [si_ce_arr0 (q := (t0, i0)) hg2] at hw0
          have hlk : (Cond.methodLink (si_R (si_mO j)) idx arraycopyName) ∈ si_tb := si_ml_ok hml2
          have hnf : nativeFrameWords "java/lang/System" "arraycopy" 5 = 7 := by decide +kernel
          exact va_copyi (ty := .int) hx hb (hml.trans hl.1.symm) hown (hts _ hlk) (hts _ si_x_acn) (hts _ si_x_acs) (hts _ si_x_si) hKK hP hD hS n0 n 0 0 hw0 hw rfl rfl rfl c1 c2 c3 c4 c5 (fun _ _ => rfl) (by omega) (by rw [si_w8_cat, hnf]; have := Nat.le_of_ble_eq_true hg3; omega) hdg (fun H1 locs1 hP1 hD1 hS1 => hK _ _ r _ _ _ _ h (by rw [si_ar_set (μ' := si_mc μ t0 i0 sp.toNatClampNeg t i dp.toNatClampNeg nn.toNatClampNeg) hcl hn hg1 (si_mc_same μ _ _ _ _ _ _ _) (fun q' hne => si_mc_ne μ hne) rfl] at hP1; exact hP1) hS1 hl (si_hd (si_hd (si_hd (si_hd (si_hd hst))))))
  | ireturn =>
    cases si_len1 hok
    match st, h with
    | [.inl x], h =>
      cases h1 : Nat.beq (si_mT j) 1 with
      | true =>
        dsimp only [si_ex] at h
        rw [h1] at h
        exact hQ pc ls (some (.inl x)) μ H locs ⟨hdg, Or.inl (Nat.eq_of_beq_eq_true h1)⟩ h hP hS
      | false =>
        dsimp only [si_ex] at h
        rw [h1] at h
        obtain ⟨h2, h3, h9⟩ := si_bif_e h
        clear h
        have h := h9
        clear h9
        exact hQ pc ls (some (.inl x)) μ H locs ⟨hdg, Or.inr ⟨Nat.eq_of_beq_eq_true h2, h3⟩⟩ h hP hS
  | lreturn =>
    cases si_len1 hok
    match st, h with
    | [.inr (.inl x)], h =>
      obtain ⟨h2, h9⟩ := si_bif_e h
      clear h
      have h := h9
      clear h9
      exact hQ pc ls (some (.inr (.inl x))) μ H locs ⟨hdg, Nat.eq_of_beq_eq_true h2⟩ h hP hS
  | return_ =>
    cases si_len1 hok
    match st, h with
    | [], h =>
      obtain ⟨h2, h9⟩ := si_bif_e h
      clear h
      have h := h9
      clear h9
      exact hQ pc ls none μ H locs ⟨hdg, Nat.eq_of_beq_eq_true h2⟩ h hP hS
  | _ => exact h.elim
