theorem di_def_all (a L : Nat) : di_okE2 L (.inr (a, di_def a)) = true := by
  unfold di_okE2 di_def
  dsimp only
  refine List.all_eq_true.mpr fun v hv => ?_
  obtain ⟨k, -, rfl⟩ := List.mem_map.mp hv
  split <;> rfl
theorem di_JI_a : di_JI.all (fun b => !Nat.beq b 235) = true := by decide +kernel
theorem di_mY_si {b : Nat} (h : b ∈ di_JI) : di_mY b = si_mY b := by
  have h1 := List.all_eq_true.mp di_JI_a b h
  have h2 : Nat.beq b 235 = false := by simpa using h1
  unfold di_mY
  rw [h2]
  rfl
theorem di_mO_si {b : Nat} (h : b ∈ di_JI) : di_mO b = si_mO b := by
  have h1 := List.all_eq_true.mp di_JI_a b h
  have h2 : Nat.beq b 235 = false := by simpa using h1
  unfold di_mO
  rw [h2]
  rfl
theorem di_R_si {o : Nat} (h : o < 8) : di_R o = si_R o := by
  have h2 : Nat.beq o 9 = false := by
    cases h1 : Nat.beq o 9 with
    | false => rfl
    | true => have := Nat.eq_of_beq_eq_true h1; omega
  unfold di_R
  rw [h2]
  rfl
theorem di_ml7_a : di_ML.all (fun q => !Nat.beq q.2.2.1 7 || Nat.beq q.2.2.2 235) = true := by decide +kernel
theorem di_isI_7 {o idx b : Nat} (h : (o, idx, 7, b) ∈ di_ML) : b = 235 := by
  have h1 := List.all_eq_true.mp di_ml7_a _ h
  exact Nat.eq_of_beq_eq_true (by simpa using h1)
set_option maxHeartbeats 8000000 in
set_option maxRecDepth 20000 in
/-- THE MAKING MACHINE IS THE MACHINE -/
theorem di_sound {l : Launch} {D : va_G} {cI cZ : ClassId} : ∀ (n d j pc : Nat) (lv : si_Lv) (st : List si_AV) (wd : List di_E) (rr : di_Re), di_run n d j pc lv st wd = some rr → di_PP l D cI cZ d j pc lv st wd rr := by
  intro n
  induction n with
  | zero => intro d j pc lv st wd rr h; cases h
  | succ n ih =>
  intro d j pc lv st wd rr h p e R s m args below meth c H locs cells slots A QQ ls ad X hP hD hS hl hc hs hQ
  have X2 := X
  obtain ⟨hx, hb, hml, hown, hts, hRf, hRl, hKK, hA, hin, hE⟩ := X2
  have h : di_st (di_run n) d j pc lv st wd = some rr := h
  unfold di_st at h
  cases hstop : (Nat.beq j 234 && Nat.beq pc 16) with
  | true =>
    rw [hstop] at h
    rw [Bool.and_eq_true] at hstop
    match st, h with
    | [], h =>
      cases h
      exact hQ ad H locs ls ⟨fun _ _ => rfl, rfl⟩ (Or.inr (Nat.eq_of_beq_eq_true hstop.1)) hP hD hS hl
  | false =>
  rw [hstop] at h
  have go : ∀ (pc' : Nat) (lv' : si_Lv) (st' : List si_AV) (wd' : List di_E) (H' : Heap) (locs' : List Loc) (ls' : Array Slot), di_run n d j pc' lv' st' wd' = some rr → wd'.length = wd.length → va_P D si_cls (di_ws ad cI cZ wd') H' → va_D A (di_ws ad cI cZ wd') → va_S A s.heap H' locs' → si_lo ad di_CLs false ls' (di_mL j) lv' → W p l e R s m args below meth c H' locs' cells slots QQ (F0 m pc' ls' (st'.map (si_cv ad))) := by
    intro pc' lv' st' wd' H' locs' ls' h' hlen hP' hD' hS' hl'
    exact ih d j pc' lv' st' wd' rr h' p e R s m args below meth c H' locs' cells slots A QQ ls' ad X hP' hD' hS' hl' hc hs (fun ad2 H2 locs2 ls2 hx2 => hQ ad2 H2 locs2 ls2 (by rw [hlen] at hx2; exact hx2))
  cases hcode : di_code j pc with
  | none => rw [hcode] at h; cases h
  | some ent =>
  obtain ⟨hj, hdg, hok⟩ := di_ck_all hcode
  obtain ⟨ins, len, v, a, b, tg⟩ := ent
  rw [hcode] at h
  have hloc : ∀ {i : Nat} {v : si_AV}, si_nth lv i = some v → ls[i]? = some (.val (si_cv ad v)) := fun h => (hl.2.2.2 _ _ h).1
  cases ins with
  | iconst n1 =>
    obtain ⟨rfl, hv⟩ := si_len hok
    exact lv_iconst hx hb hdg (of_decide_eq_true hv) (go _ _ (.inl v :: st) _ _ _ _ h rfl hP hD hS hl)
  | bipush n1 =>
    obtain ⟨rfl, hv⟩ := si_len hok
    exact lv_bipush hx hb hdg (of_decide_eq_true hv) (go _ _ (.inl v :: st) _ _ _ _ h rfl hP hD hS hl)
  | sipush n1 =>
    obtain ⟨rfl, hv⟩ := si_len hok
    exact lv_sipush hx hb hdg (of_decide_eq_true hv) (go _ _ (.inl v :: st) _ _ _ _ h rfl hP hD hS hl)
  | iload i1 =>
    cases si_len1 hok
    obtain ⟨x, hi, h1⟩ := di_lI_e h
    exact lv_iload hx hb hdg (hloc hi) (go _ _ (.inl x :: st) _ _ _ _ h1 rfl hP hD hS hl)
  | iload_n i1 =>
    cases si_len1 hok
    obtain ⟨x, hi, h1⟩ := di_lI_e h
    exact lv_iload_n hx hb hdg rfl (hloc hi) (go _ _ (.inl x :: st) _ _ _ _ h1 rfl hP hD hS hl)
  | aload_n i1 =>
    cases si_len1 hok
    obtain ⟨x, y, hi, h1⟩ := di_lR_e h
    exact lv_aload_n hx hb hdg rfl (hloc hi) (go _ _ (.inr (.inr (x, y)) :: st) _ _ _ _ h1 rfl hP hD hS hl)
  | istore_n i1 =>
    cases si_len1 hok
    obtain ⟨x, r, rfl, h1⟩ := di_pI_e h
    obtain ⟨hi, h2⟩ := di_bif_e h1
    exact lv_istore_n hx hb hdg rfl (si_lo_has hl) (Nat.le_of_ble_eq_true hi) rfl (fun ls' h' => go _ _ r _ _ _ _ h2 rfl hP hD hS (si_lo_sto (v := .inl x) hl trivial rfl h'))
  | astore_n i1 =>
    cases si_len1 hok
    obtain ⟨tt, q, r, rfl, h1⟩ := di_pR_e h
    obtain ⟨hi, h2⟩ := di_bif_e h1
    rw [Bool.and_eq_true] at hi
    exact lv_astore_n hx hb hdg rfl (si_lo_has hl) (Nat.le_of_ble_eq_true hi.1) rfl (fun ls' h' => go _ _ r _ _ _ _ h2 rfl hP hD hS (si_lo_sto (v := .inr (.inr (tt, q))) hl (di_lV (Nat.le_refl _) hi.2) rfl h'))
  | iinc i1 n1 =>
    obtain ⟨rfl, hv⟩ := si_len hok
    obtain ⟨x, hi, h1⟩ := di_lI_e h
    obtain ⟨hi2, h2⟩ := di_bif_e h1
    obtain ⟨k, hk⟩ := List.getElem?_of_mem (si_fl_mem (q := (i1, Value.int x)).mpr ⟨_, hi, rfl⟩)
    exact lv_iinc (v := x + v) hx hb hdg (si_lo_has hl) hk (by rw [of_decide_eq_true hv]) (Nat.le_of_ble_eq_true hi2) rfl (fun ls' h' => go _ _ st _ _ _ _ h2 rfl hP hD hS (si_lo_sto (v := .inl (x + v)) hl trivial rfl h'))
  | iadd =>
    cases si_len1 hok
    obtain ⟨y, r, rfl, h1⟩ := di_pI_e h
    obtain ⟨x, r, rfl, h2⟩ := di_pI_e h1
    exact lv_iadd hx hb hdg (go _ _ (.inl (x + y) :: r) _ _ _ _ h2 rfl hP hD hS hl)
  | dup =>
    cases si_len1 hok
    dsimp only [cond] at h
    obtain ⟨u, r, rfl, hu, h1⟩ := di_p1_e h
    have hcat : (si_cv ad u).category = 1 := by
      match u, hu with
      | .inl _, _ => rfl
      | .inr (.inr (_, _)), _ => rfl
    exact lv_dup hx hb hdg hcat (go _ _ (u :: u :: r) _ _ _ _ h1 rfl hP hD hS hl)
  | goto off =>
    obtain ⟨rfl, hv⟩ := si_len hok
    exact lv_goto hx hb hdg (of_decide_eq_true hv) (go _ _ st _ _ _ _ h rfl hP hD hS hl)
  | if_icmp cnd off =>
    obtain ⟨rfl, hv⟩ := si_len hok
    cases cnd with
    | ge =>
      obtain ⟨y, r, rfl, h1⟩ := di_pI_e h
      obtain ⟨x, r, rfl, h2⟩ := di_pI_e h1
      refine lv_icmp_ge hx hb hdg (of_decide_eq_true hv) (fun q => ?_) (fun q => ?_)
      · rw [if_pos q] at h2
        exact go _ _ r _ _ _ _ h2 rfl hP hD hS hl
      · rw [if_neg q] at h2
        exact go _ _ r _ _ _ _ h2 rfl hP hD hS hl
    | _ => cases h
  | getfield idx =>
    obtain ⟨rfl, hv⟩ := si_len hok
    simp only [Bool.and_eq_true] at hv
    obtain ⟨g1, g2, g3⟩ := hv
    have g1 : a < 8 := Nat.le_of_ble_eq_true g1
    have g2 : b < si_N a := Nat.le_of_ble_eq_true g2
    obtain ⟨tt, q, r, rfl, h1⟩ := di_pR_e h
    obtain ⟨cc, fs, hw, h2⟩ := di_obj_e h1
    obtain ⟨hg, h3⟩ := di_bif_e h2
    obtain ⟨ht, hg2⟩ := si_len hg
    have ha := Nat.eq_of_beq_eq_true hg2
    subst ht
    subst ha
    cases hf : fs[b]? with
    | none => rw [hf] at h3; cases h3
    | some ou =>
      rw [hf] at h3
      match ou, hf, h3 with
      | some u, hf, h3 =>
        have hlk := hts _ (di_fl_ok (di_any_f g3))
        exact va_get (C := si_R cc) (T := si_T cc) (N := si_N cc) (v := si_cv ad u) hx hb hts (si_inws cc g1) hown hKK hP q (di_ws_at hw) (si_cls_at cc g1) b g2 hlk (fun _ h9 => h9) (by rw [List.getElem?_map, hf]; rfl) hdg (go _ _ (u :: r) _ _ _ _ h3 rfl hP hD hS hl)
  | putfield idx =>
    obtain ⟨rfl, hv⟩ := si_len hok
    simp only [Bool.and_eq_true] at hv
    obtain ⟨g1, g2, g0, g3⟩ := hv
    have g1 : a < 8 := Nat.le_of_ble_eq_true g1
    have g2 : b < si_N a := Nat.le_of_ble_eq_true g2
    dsimp only [cond] at h
    obtain ⟨u, r, rfl, hu, h1⟩ := di_p1_e h
    obtain ⟨tt, q, r, rfl, h2⟩ := di_pR_e h1
    obtain ⟨cc, fs, hw, h3⟩ := di_obj_e h2
    obtain ⟨hg, h4⟩ := di_bif_e h3
    simp only [Bool.and_eq_true] at hg
    obtain ⟨k1, k2, k3, k4⟩ := hg
    have ht := Nat.eq_of_beq_eq_true k1
    have ha := Nat.eq_of_beq_eq_true k2
    subst ht
    subst ha
    have hlk := hts _ (di_fl_ok (di_any_f g3))
    have hpd := si_tyok cc g1 b g2
    have hql : q < wd.length := (List.getElem?_eq_some_iff.mp hw).1
    have hfit : narrow (si_ty cc b) (si_cv ad u) = si_cv ad u ∧ fits (si_ty cc b) (si_cv ad u) = true := by
      match u, hu, k4 with
      | .inl x, _, k4 => exact di_fit_i k4
      | .inr (.inr (_, _)), _, k4 => exact di_fit_r k4
    have hset : ∀ (H1 : Heap), va_P D si_cls ((di_ws ad cI cZ wd).set q (ad 0 q, .inr (cc, (fs.map (di_fc ad)).set b (si_cv ad u)))) H1 → va_P D si_cls (di_ws ad cI cZ (wd.set q (.inr (cc, fs.set b (some u))))) H1 := by
      intro H1 hP1
      rw [← di_ws_set hql]
      show va_P D si_cls ((di_ws ad cI cZ wd).set q (ad 0 q, .inr (cc, (fs.set b (some u)).map (di_fc ad)))) H1
      rw [List.map_set]
      exact hP1
    have hsetD : va_D A ((di_ws ad cI cZ wd).set q (ad 0 q, .inr (cc, (fs.map (di_fc ad)).set b (si_cv ad u)))) → va_D A (di_ws ad cI cZ (wd.set q (.inr (cc, fs.set b (some u))))) := by
      intro hD1
      rw [← di_ws_set hql]
      show va_D A ((di_ws ad cI cZ wd).set q (ad 0 q, .inr (cc, (fs.set b (some u)).map (di_fc ad))))
      rw [List.map_set]
      exact hD1
    cases hfin : (si_T cc b).2.2.2 with
    | true =>
      rw [hfin] at g0
      simp only [Bool.not_true, Bool.false_or, Bool.and_eq_true] at g0
      exact va_putF (C := si_R cc) (T := si_T cc) (N := si_N cc) (ty := si_ty cc b) (v := si_cv ad u) hx hb hts (si_inws cc g1) (si_ty cc) (si_tyok cc g1) (si_nmok cc g1) hown hKK hP hD hS q (di_ws_at hw) (si_cls_at cc g1) b g2 hlk (fun _ h9 => h9) hfin (hin g0.1) (of_decide_eq_true g0.2) hpd hfit.1 hfit.2 (by rw [List.length_map]; exact Nat.le_of_ble_eq_true k3) hdg (fun H1 locs1 hP1 hD1 hS1 => go _ _ r _ _ _ _ h4 List.length_set (hset H1 hP1) (hsetD hD1) hS1 hl)
    | false =>
      exact va_put (C := si_R cc) (T := si_T cc) (N := si_N cc) (ty := si_ty cc b) (v := si_cv ad u) hx hb hts (si_inws cc g1) (si_ty cc) (si_tyok cc g1) (si_nmok cc g1) hown hKK hP hD hS q (di_ws_at hw) (si_cls_at cc g1) b g2 hlk (fun _ h9 => h9) hfin hpd hfit.1 hfit.2 (by rw [List.length_map]; exact Nat.le_of_ble_eq_true k3) hdg (fun H1 locs1 hP1 hD1 hS1 => go _ _ r _ _ _ _ h4 List.length_set (hset H1 hP1) (hsetD hD1) hS1 hl)
  | iastore =>
    cases si_len1 hok
    obtain ⟨x, r, rfl, h1⟩ := di_pI_e h
    obtain ⟨ii, r, rfl, h2⟩ := di_pI_e h1
    obtain ⟨tt, q, r, rfl, h3⟩ := di_pR_e h2
    obtain ⟨k, n1, ff, hw, h4⟩ := di_arr_e h3
    obtain ⟨hg, h5⟩ := di_bif_e h4
    simp only [Bool.and_eq_true, decide_eq_true_eq] at hg
    obtain ⟨k1, k2, k3, k4⟩ := hg
    have ht := Nat.eq_of_beq_eq_true k1
    have hk := Nat.eq_of_beq_eq_true k2
    subst ht
    subst hk
    have hql : q < wd.length := (List.getElem?_eq_some_iff.mp hw).1
    have hvin : vp_in ii n1 := by
      rintro (e1 | e1)
      · exact k3 e1
      · have := Nat.le_of_ble_eq_true k4
        omega
    refine va_iast hx hb hKK hP hD hS q 0 (di_ws_at hw) rfl hvin hdg (fun H1 locs1 hP1 hD1 hS1 => go _ _ r _ _ _ _ h5 List.length_set ?_ ?_ hS1 hl)
    · rw [← di_ws_set hql]
      exact hP1
    · rw [← di_ws_set hql]
      exact hD1
  | arraylength =>
    cases si_len1 hok
    obtain ⟨tt, q, r, rfl, h3⟩ := di_pR_e h
    obtain ⟨k, n1, ff, hw, h4⟩ := di_arr_e h3
    obtain ⟨hg, h5⟩ := di_bif_e h4
    obtain ⟨ht, hk⟩ := si_len hg
    have hk := Nat.eq_of_beq_eq_true hk
    subst ht
    subst hk
    exact va_alen (ty := .int) hx hb hKK hP q 0 (di_ws_at hw) rfl rfl hdg (go _ _ (.inl _ :: r) _ _ _ _ h5 rfl hP hD hS hl)
  | newarray aty =>
    obtain ⟨rfl, hv⟩ := si_len hok
    have hty := of_decide_eq_true hv
    obtain ⟨x, r, rfl, h1⟩ := di_pI_e h
    obtain ⟨hg, h2⟩ := di_bif_e h1
    simp only [Bool.and_eq_true, decide_eq_true_eq] at hg
    obtain ⟨k1, k2, k3, k4⟩ := hg
    obtain ⟨o1, o2, o3, o4⟩ := di_okA_e k1
    obtain ⟨r0, e1, e2⟩ := di_cnt_e h2
    subst e2
    have k3 := Nat.le_of_ble_eq_true k3
    have k4 := Nat.le_of_ble_eq_true k4
    have ihr := ih _ _ _ _ _ _ _ e1
    have hcls : ∃ (ty : FieldType) (cX : ClassId), newarray.typeOf aty = ty ∧ (Cond.arrayClass (newarray.typeOf aty)).before args s = true ∧ (bif Nat.beq a 0 then cI else cZ) = cX ∧ (∀ cA : ClassId, vp_cell cA (x.toNatClampNeg, .inl (fun _ => 0)) = arrV cA x.toNatClampNeg (fun _ => defaultValue ty)) ∧ x.toNatClampNeg * componentBytes ty ≤ 536870912 ∧ (∀ cA : ClassId, va_RA s cA ty → cA = cX) := by
      match a, k4, hty with
      | 0, _, hty =>
        have hty : newarray.typeOf aty = .int := hty
        refine ⟨.int, cI, hty, by rw [hty]; exact hts _ di_x_ai, rfl, fun _ => rfl, ?_, fun cA hRA => ?_⟩
        · show x.toNatClampNeg * 4 ≤ 536870912
          omega
        · have h5 : s.vm.findClass ("[" ++ FieldType.int.toString) = some cI := (hKK.2 0 (cI, .int) rfl).2
          have h6 : s.vm.findClass ("[" ++ FieldType.int.toString) = some cA := hRA
          rw [h5] at h6
          exact (Option.some.inj h6).symm
      | 1, _, hty =>
        have hty : newarray.typeOf aty = .boolean := hty
        refine ⟨.boolean, cZ, hty, by rw [hty]; exact hts _ di_x_ab, rfl, fun _ => rfl, ?_, fun cA hRA => ?_⟩
        · show x.toNatClampNeg * 1 ≤ 536870912
          omega
        · have h5 : s.vm.findClass ("[" ++ FieldType.boolean.toString) = some cZ := (hKK.2 1 (cZ, .boolean) rfl).2
          have h6 : s.vm.findClass ("[" ++ FieldType.boolean.toString) = some cA := hRA
          rw [h5] at h6
          exact (Option.some.inj h6).symm
    obtain ⟨ty, cX, t1, t2, t3, t4, t5, t6⟩ := hcls
    dsimp only at hc hs hQ
    refine va_newa hx hb t2 t1 hKK hP hD hS hA t4 k2 rfl t5 (by omega) (by omega) hdg (fun q cA H1 hK1 hP1 hD1 hS1 => ?_)
    have hcA : cA = cX := t6 cA ((hK1.2 2 (cA, ty) rfl).2)
    have hext : di_ext wd.length ad (fun t i => if t = 0 ∧ i = wd.length then q else ad t i) := ⟨fun i hi => by
      have : ¬ (0 = 0 ∧ i = wd.length) := fun e => by omega
      simp [this, Nat.ne_of_lt hi], by simp⟩
    have hws : di_ws (fun t i => if t = 0 ∧ i = wd.length then q else ad t i) cI cZ (wd ++ [.inl (a, x.toNatClampNeg, fun _ => 0)]) = di_ws ad cI cZ wd ++ [(q, .inl (cA, (x.toNatClampNeg, .inl (fun _ => 0))))] := by
      rw [di_ws_app (q := q) hext o4 (by simp), hcA, ← t3]
      rfl
    have hst : (.ref q :: r.map (si_cv ad)) = ((.inr (.inr (0, wd.length)) :: r : List si_AV)).map (si_cv (fun t i => if t = 0 ∧ i = wd.length then q else ad t i)) := by
      rw [List.map_cons, di_map_ext hext o3]
      simp [si_cv]
    rw [hst]
    refine ihr p e R s m args below meth c H1 locs (cells + 1) (slots + x.toNatClampNeg) A QQ ls _ X (by rw [hws]; exact hP1) (by rw [hws]; exact hD1) hS1 (di_lo_ext hext o2 hl) (by omega) (by omega) ?_
    intro ad2 H2 locs2 ls2 hx2 hdc hP2 hD2 hS2 hl2
    rw [Nat.add_assoc, Nat.add_assoc]
    exact hQ ad2 H2 locs2 ls2 (hext.trans hx2 (by simp)) hdc hP2 hD2 hS2 hl2
  | new idx =>
    obtain ⟨rfl, hv⟩ := si_len hok
    simp only [Bool.and_eq_true] at hv
    obtain ⟨g1, g3⟩ := hv
    have g1 : a < 8 := Nat.le_of_ble_eq_true g1
    obtain ⟨k1, h2⟩ := di_bif_e h
    obtain ⟨o1, o2, o3, o4⟩ := di_okA_e k1
    obtain ⟨r0, e1, e2⟩ := di_cnt_e h2
    subst e2
    have ihr := ih _ _ _ _ _ _ _ e1
    have g8 : a ∈ di_8 := by
      match a, g1 with
      | 0, _ => decide
      | 1, _ => decide
      | 2, _ => decide
      | 3, _ => decide
      | 4, _ => decide
      | 5, _ => decide
      | 6, _ => decide
      | 7, _ => decide
    have hlk := hts _ (di_cl_ok (di_any_c g3))
    dsimp only at hc hs hQ
    refine va_new (C := si_R a) (T := si_T a) (N := si_N a) (fs := (di_def a).map (di_fc ad)) hx hb hts (si_inws a g1) (si_ty a) (si_tyok a g1) hown hlk (hts _ (di_it_ok g8)) (hts _ (di_ii_ok g8)) hKK hP hD hS hA (si_cls_at a g1) (di_def_ok g1 ad) (by omega) (by omega) hdg (fun q H1 hP1 hD1 hS1 => ?_)
    have hext : di_ext wd.length ad (fun t i => if t = 0 ∧ i = wd.length then q else ad t i) := ⟨fun i hi => by
      have : ¬ (0 = 0 ∧ i = wd.length) := fun e => by omega
      simp [this, Nat.ne_of_lt hi], by simp⟩
    have hws : di_ws (fun t i => if t = 0 ∧ i = wd.length then q else ad t i) cI cZ (wd ++ [.inr (a, di_def a)]) = di_ws ad cI cZ wd ++ [(q, .inr (a, (di_def a).map (di_fc ad)))] := by
      rw [di_ws_app (q := q) hext o4 (by simp)]
      congr 3
      exact di_cell_ext (L := wd.length) hext (di_def_all a _)
    have hst : (.ref q :: st.map (si_cv ad)) = ((.inr (.inr (0, wd.length)) :: st : List si_AV)).map (si_cv (fun t i => if t = 0 ∧ i = wd.length then q else ad t i)) := by
      rw [List.map_cons, di_map_ext hext o3]
      simp [si_cv]
    rw [hst]
    refine ihr p e R s m args below meth c H1 locs (cells + 1) (slots + si_N a) A QQ ls _ X (by rw [hws]; exact hP1) (by rw [hws]; exact hD1) hS1 (di_lo_ext hext o2 hl) (by omega) (by omega) ?_
    intro ad2 H2 locs2 ls2 hx2 hdc hP2 hD2 hS2 hl2
    rw [Nat.add_assoc, Nat.add_assoc]
    exact hQ ad2 H2 locs2 ls2 (hext.trans hx2 (by simp)) hdc hP2 hD2 hS2 hl2
  | invokespecial idx =>
    obtain ⟨rfl, hv⟩ := si_len hok
    have hml2 := di_any_m hv
    cases ha9 : Nat.beq a 9 with
    | true =>
      dsimp only at h
      rw [ha9] at h
      cases Nat.eq_of_beq_eq_true ha9
      obtain ⟨tt, q, r, rfl, h1⟩ := di_pR_e h
      obtain ⟨hg, h2⟩ := di_bif_e h1
      have hlk : (Cond.methodLink (di_R (di_mO j)) idx objectInit) ∈ si_tb := (di_ml_ok hml2).2 rfl
      refine W.objInit hx hb hown (hts _ hlk) (hts _ di_x_oi) (hts _ di_x_oc) rfl (hl.1.trans hml.symm) rfl hdg (by omega) ?_ (go _ _ r _ _ _ _ h2 rfl hP hD hS hl)
      have h8 := Nat.le_of_ble_eq_true hg
      have e8 := lv_room (m := m) (pc := pc) (ls := ls) (rest := []) (st := r.map (si_cv ad)) (by rw [si_w8_cat]; exact h8)
      have e9 : 2 * (F0 m pc ls (.ref (ad tt q) :: r.map (si_cv ad))).monitorRoom + ((r.map (si_cv ad)).map fun v => v.category).sum ≤ 8 := e8
      exact Nat.le_trans (Nat.add_le_add_right e9 12) (by omega)
    | false =>
      dsimp only at h
      rw [ha9] at h
      obtain ⟨as, r, has, rfl, h1⟩ := di_take_e _ _ _ h
      rw [List.append_nil] at h1
      obtain ⟨tt, q, r, rfl, h2⟩ := di_pR_e h1
      obtain ⟨hg, h3⟩ := di_bif_e h2
      simp only [Bool.and_eq_true] at hg
      obtain ⟨k1, k2, k3, k4, k5⟩ := hg
      obtain ⟨o1, o2, o3, o4⟩ := di_okA_e k5
      obtain ⟨hJ, hrest⟩ := di_jc_e hml2 ha9
      have ha12 : a = 1 ∨ a = 2 := by
        rw [Bool.or_eq_true] at k1
        rcases k1 with k1 | k1
        · exact Or.inl (Nat.eq_of_beq_eq_true k1)
        · exact Or.inr (Nat.eq_of_beq_eq_true k1)
      have hI : b ∈ di_JI ∧ di_isI b = true := by
        rcases hrest with e1 | ⟨e1, e2 | e2⟩
        · omega
        · omega
        · exact ⟨e1, e2.2⟩
      obtain ⟨m1, m2, m3, m4, m5⟩ := di_mck_e hJ
      have hok3 : ∀ u ∈ (.inr (.inr (tt, q)) : si_AV) :: (as ++ r), di_okV wd.length u = true := fun u hu => List.all_eq_true.mp o3 u hu
      have hlas : ∀ u ∈ (.inr (.inr (tt, q)) : si_AV) :: as, si_lV di_CLs u := fun u hu => di_lV (Nat.le_of_lt o1) (hok3 u (by
        rcases List.mem_cons.mp hu with rfl | hu
        · exact List.mem_cons_self
        · exact List.mem_cons_of_mem _ (List.mem_append_left _ hu)))
      have hcat : ∀ u ∈ (.inr (.inr (tt, q)) : si_AV) :: as, si_c2 u = false := fun u hu => by
        rcases List.mem_cons.mp hu with rfl | hu
        · rfl
        · have := List.all_eq_true.mp k4 u hu
          simpa using this
      have hr3 : r.all (di_okV wd.length) = true := List.all_eq_true.mpr fun u hu => hok3 u (List.mem_cons_of_mem _ (List.mem_append_right _ hu))
      have hb234 : b ≠ 234 := fun e => by rw [e] at hJ; exact absurd hJ (by decide)
      match d, X, hRf, hRl, h3, ih with
      | d' + 1, X, hRf, hRl, h, ih =>
        obtain ⟨r1, r2, e1, e2, e3⟩ := di_bind_e h
        obtain ⟨hle, e2⟩ := di_bif_e e2
        subst e3
        have ih1 := ih _ _ _ _ _ _ _ e1
        have ih2 := ih _ _ _ _ _ _ _ e2
        have hM := di_met ih1 hlas hJ hb234 (Nat.le_of_ble_eq_true k3) hcat ad H.size
        have hini : (Cond.initialized (di_mY b).cls).before args s = true := hts _ (di_in_ok hJ)
        have hname : (di_mY b).name = "<init>" := m5 hI.2
        have himc : (Cond.instanceMethod (di_mY b)).before args s = true := by
          have := hts _ (di_im_ok hI.1)
          unfold si_imc at this
          have e9 : di_mY b = si_mY b := di_mY_si hI.1
          rw [e9]
          exact this
        have hstk : (as.reverse ++ .inr (.inr (tt, q)) :: r).map (si_cv ad) = (as.map (si_cv ad)).reverse ++ .ref (ad tt q) :: r.map (si_cv ad) := by
          rw [List.map_append, List.map_reverse]; rfl
        dsimp only at hc hs hQ
        rcases ha12 with rfl | rfl
        · have hlk : (Cond.methodLink (di_R (di_mO j)) idx (di_mY b)).before args s = true := hts _ ((di_ml_ok hml2).2 rfl)
          have hrun := va_runI (e := e) (below := below) (meth := meth) (As := as.map (si_cv ad)) (rest := r.map (si_cv ad)) (b := ad tt q) (g := F0 m pc ls ((as.reverse ++ .inr (.inr (tt, q)) :: r).map (si_cv ad))) (locs := locs) (cells := cells) (slots := slots) ⟨hx, hb, hml, hown, hts⟩ hM (cwI (di_mN b) hts (di_good hJ) (di_cdc_eq b) rfl rfl hini hlk himc hname m1 ⟨di_rmF hRf, di_rmL hRl m3⟩) ⟨di_blind, fun U hU hW => di_pre_ok (as := .inr (.inr (tt, q)) :: as) hU hW hP hD hKK hE⟩ rfl (by rw [List.length_map, has]) hl.1 hstk (lv_room (by rw [si_w8_cat]; exact Nat.le_of_ble_eq_true k2)) hdg ⟨by omega, by omega⟩
          exact di_after X hD hS hl o2 hr3 (Nat.le_of_ble_eq_true hle) ih2 hc hs hQ hrun
        · have hnw : va_Nw (di_mlc (di_mO j, idx, 2, b)) s := hE _ hml2 rfl
          rw [di_mlc_nest (q := (di_mO j, idx, 2, b)) rfl] at hnw
          have hrun := va_runIN (e := e) (below := below) (meth := meth) (As := as.map (si_cv ad)) (rest := r.map (si_cv ad)) (b := ad tt q) (g := F0 m pc ls ((as.reverse ++ .inr (.inr (tt, q)) :: r).map (si_cv ad))) (locs := locs) (cells := cells) (slots := slots) ⟨hx, hb, hml, hown, hts⟩ hM ⟨va_cnB (di_mN b) hts (di_good hJ) (di_cdc_eq b) rfl rfl hnw hini m1 ⟨di_rmF hRf, di_rmL hRl m3⟩, hname, himc⟩ ⟨di_blind, fun U hU hW => di_pre_ok (as := .inr (.inr (tt, q)) :: as) hU hW hP hD hKK hE⟩ rfl (by rw [List.length_map, has]) hl.1 hstk (lv_room (by rw [si_w8_cat]; exact Nat.le_of_ble_eq_true k2)) hdg ⟨by omega, by omega⟩
          exact di_after X hD hS hl o2 hr3 (Nat.le_of_ble_eq_true hle) ih2 hc hs hQ hrun
  | invokevirtual idx =>
    obtain ⟨rfl, hv⟩ := si_len hok
    have hml2 := di_any_m hv
    dsimp only at h
    obtain ⟨as, r, has, rfl, h1⟩ := di_take_e _ _ _ h
    rw [List.append_nil] at h1
    obtain ⟨tt, q, r, rfl, h2⟩ := di_pR_e h1
    obtain ⟨cc, fs, hw, h2b⟩ := di_obj_e h2
    obtain ⟨hg, h3⟩ := di_bif_e h2b
    simp only [Bool.and_eq_true] at hg
    obtain ⟨k0, kt, kc, k2, k3, k4, k5⟩ := hg
    obtain ⟨o1, o2, o3, o4⟩ := di_okA_e k5
    cases Nat.eq_of_beq_eq_true k0
    cases Nat.eq_of_beq_eq_true kt
    have kc := Nat.eq_of_beq_eq_true kc
    obtain ⟨hJ, hrest⟩ := di_jc_e hml2 rfl
    have hI : b ∈ di_JI ∧ b ∈ di_JV ∧ si_mO b < 8 := by
      rcases hrest with e1 | ⟨e1, e2 | e2⟩
      · omega
      · exact ⟨e1, e2.2⟩
      · cases e2.1
    obtain ⟨m1, m2, m3, m4, m5⟩ := di_mck_e hJ
    have hok3 : ∀ u ∈ (.inr (.inr (0, q)) : si_AV) :: (as ++ r), di_okV wd.length u = true := fun u hu => List.all_eq_true.mp o3 u hu
    have hlas : ∀ u ∈ (.inr (.inr (0, q)) : si_AV) :: as, si_lV di_CLs u := fun u hu => di_lV (Nat.le_of_lt o1) (hok3 u (by
      rcases List.mem_cons.mp hu with rfl | hu
      · exact List.mem_cons_self
      · exact List.mem_cons_of_mem _ (List.mem_append_left _ hu)))
    have hcat : ∀ u ∈ (.inr (.inr (0, q)) : si_AV) :: as, si_c2 u = false := fun u hu => by
      rcases List.mem_cons.mp hu with rfl | hu
      · rfl
      · have := List.all_eq_true.mp k4 u hu
        simpa using this
    have hr3 : r.all (di_okV wd.length) = true := List.all_eq_true.mpr fun u hu => hok3 u (List.mem_cons_of_mem _ (List.mem_append_right _ hu))
    have hb234 : b ≠ 234 := fun e => by rw [e] at hJ; exact absurd hJ (by decide)
    have e9 : di_mY b = si_mY b := di_mY_si hI.1
    have e10 : di_mO b = si_mO b := di_mO_si hI.1
    match d, X, hRf, hRl, h3, ih with
    | d' + 1, X, hRf, hRl, h, ih =>
      obtain ⟨r1, r2, e1, e2, e3⟩ := di_bind_e h
      obtain ⟨hle, e2⟩ := di_bif_e e2
      subst e3
      have ih1 := ih _ _ _ _ _ _ _ e1
      have ih2 := ih _ _ _ _ _ _ _ e2
      have hM := di_met ih1 hlas hJ hb234 (Nat.le_of_ble_eq_true k3) hcat ad H.size
      have hstk : (as.reverse ++ .inr (.inr (0, q)) :: r).map (si_cv ad) = (as.map (si_cv ad)).reverse ++ .ref (ad 0 q) :: r.map (si_cv ad) := by
        rw [List.map_append, List.map_reverse]; rfl
      dsimp only at hc hs hQ
      have hgd : GoodIn si_tb (wsV (di_R (di_mO j)) idx (si_R (si_mO b)) (di_mY b) (di_cdc b :: si_tb)) := by
        have w1 : Cond.methodLink (di_R (di_mO j)) idx (di_mY b) ∈ si_tb := (di_ml_ok hml2).2 rfl
        have w2 : Cond.instanceMethod (si_mY b) ∈ si_tb := di_im_ok hI.1
        have w3 : Cond.selects (si_R (si_mO b)) (si_mY b) (si_mY b) ∈ si_tb := di_sl_ok hI.2.1
        have w4 : Cond.initialized (di_mY b).cls ∈ si_tb := di_in_ok hJ
        rw [m4, e10, di_R_si hI.2.2] at w4
        rw [e9] at w1 ⊢
        intro w hw
        unfold wsV at hw
        rcases List.mem_append.mp hw with hw | hw
        · simp only [List.mem_cons, List.not_mem_nil, or_false] at hw
          rcases hw with rfl | rfl | rfl | rfl
          · exact ⟨w1, si_gd w1⟩
          · exact ⟨w2, si_gd w2⟩
          · exact ⟨w3, si_gd w3⟩
          · exact ⟨w4, si_gd w4⟩
        · exact di_good hJ w hw
      have hcls : (di_mY b).cls = si_R (si_mO b) := by rw [m4, e10, di_R_si hI.2.2]
      have hccb : cc = si_mO b := by rw [kc, e10]
      have hrun := va_runV (e := e) (below := below) (meth := meth) (C := si_R (si_mO b)) (As := as.map (si_cv ad)) (rest := r.map (si_cv ad)) (b := ad 0 q) (g := F0 m pc ls ((as.reverse ++ .inr (.inr (0, q)) :: r).map (si_cv ad))) (locs := locs) (cells := cells) (slots := slots) ⟨hx, hb, hml, hown, hts⟩ hM (cwV (di_mN b) hts hgd (di_cdc_eq b) rfl rfl ⟨hcls, m1⟩ ⟨di_rmF hRf, di_rmL hRl m3⟩) ⟨di_blind, by
          have := va_recv hKK hP (si_cls_at cc (by omega)) (di_ws_at hw)
          rw [hccb] at this
          exact this, fun U hU hW => di_pre_ok (as := .inr (.inr (0, q)) :: as) hU hW hP hD hKK hE⟩ rfl (by rw [List.length_map, has]) hl.1 hstk (lv_room (by rw [si_w8_cat]; exact Nat.le_of_ble_eq_true k2)) hdg ⟨by omega, by omega⟩
      exact di_after X hD hS hl o2 hr3 (Nat.le_of_ble_eq_true hle) ih2 hc hs hQ hrun
  | invokestatic idx =>
    obtain ⟨rfl, hv⟩ := si_len hok
    have hml2 := di_any_m hv
    dsimp only at h
    obtain ⟨as, r, has, rfl, h1⟩ := di_take_e _ _ _ h
    rw [List.append_nil] at h1
    obtain ⟨hg, h3⟩ := di_bif_e h1
    simp only [Bool.and_eq_true] at hg
    obtain ⟨k0, k2, k3, k4, k5⟩ := hg
    obtain ⟨o1, o2, o3, o4⟩ := di_okA_e k5
    cases Nat.eq_of_beq_eq_true k0
    obtain ⟨hJ, hrest⟩ := di_jc_e hml2 rfl
    have hb235 : b = 235 := by
      rcases hrest with e1 | ⟨e1, e2 | e2⟩
      · exact e1.2
      · omega
      · exact absurd e2.2 (by
          have := di_isI_7 hml2
          rw [this]
          decide)
    obtain ⟨m1, m2, m3, m4, m5⟩ := di_mck_e hJ
    have hok3 : ∀ u ∈ as ++ r, di_okV wd.length u = true := fun u hu => List.all_eq_true.mp o3 u hu
    have hlas : ∀ u ∈ as, si_lV di_CLs u := fun u hu => di_lV (Nat.le_of_lt o1) (hok3 u (List.mem_append_left _ hu))
    have hcat : ∀ u ∈ as, si_c2 u = false := fun u hu => by
      have := List.all_eq_true.mp k4 u hu
      simpa using this
    have hr3 : r.all (di_okV wd.length) = true := List.all_eq_true.mpr fun u hu => hok3 u (List.mem_append_right _ hu)
    have hb234 : b ≠ 234 := by omega
    match d, X, hRf, hRl, h3, ih with
    | d' + 1, X, hRf, hRl, h, ih =>
      obtain ⟨r1, r2, e1, e2, e3⟩ := di_bind_e h
      obtain ⟨hle, e2⟩ := di_bif_e e2
      subst e3
      have ih1 := ih _ _ _ _ _ _ _ e1
      have ih2 := ih _ _ _ _ _ _ _ e2
      have hM := di_met ih1 hlas hJ hb234 (Nat.le_of_ble_eq_true k3) hcat ad H.size
      have hstk : (as.reverse ++ r).map (si_cv ad) = (as.map (si_cv ad)).reverse ++ r.map (si_cv ad) := by
        rw [List.map_append, List.map_reverse]
      dsimp only at hc hs hQ
      have hgd : GoodIn si_tb (va_wsS (di_R (di_mO j)) idx (di_mY b) (di_cdc b :: si_tb)) := by
        have w1 : Cond.methodLink (di_R (di_mO j)) idx (di_mY b) ∈ si_tb := (di_ml_ok hml2).2 rfl
        have w2 : Cond.static (di_mY b) ∈ si_tb := by rw [hb235]; exact di_x_fs
        have w4 : Cond.initialized (di_mY b).cls ∈ si_tb := di_in_ok hJ
        intro w hw
        unfold va_wsS at hw
        rcases List.mem_append.mp hw with hw | hw
        · simp only [List.mem_cons, List.not_mem_nil, or_false] at hw
          rcases hw with rfl | rfl | rfl
          · exact ⟨w1, si_gd w1⟩
          · exact ⟨w2, si_gd w2⟩
          · exact ⟨w4, si_gd w4⟩
        · exact di_good hJ w hw
      have hrun := va_runS (e := e) (below := below) (meth := meth) (As := as.map (si_cv ad)) (rest := r.map (si_cv ad)) (g := F0 m pc ls ((as.reverse ++ r).map (si_cv ad))) (locs := locs) (cells := cells) (slots := slots) ⟨hx, hb, hml, hown, hts⟩ hM (va_cwS (di_mN b) hts hgd (di_cdc_eq b) rfl rfl m1 ⟨di_rmF hRf, di_rmL hRl m3⟩) ⟨di_blind, fun U hU hW => di_pre_ok (as := as) hU hW hP hD hKK hE⟩ rfl (by rw [List.length_map, has]) hl.1 hstk (lv_room (by rw [si_w8_cat]; exact Nat.le_of_ble_eq_true k2)) hdg ⟨by omega, by omega⟩
      exact di_after X hD hS hl o2 hr3 (Nat.le_of_ble_eq_true hle) ih2 hc hs hQ hrun
  | return_ =>
    cases si_len1 hok
    match st, h with
    | [], h =>
      cases h
      exact hQ ad H locs ls ⟨fun _ _ => rfl, rfl⟩ (Or.inl hdg) hP hD hS hl
  | _ => cases h
