/-! THE CLAIM OUT OF ONE WALK OF THE LAW'S BODY. Your part is whole_start (and what it stands on); all else here is the same for every law, but numbers. -/
def R_law : String := "FourYearsForAStripLaw"
def lw_P (b : Addr) (xs : List Int32) (args : Array Value) (s : State) : Prop := args = #[.ref b] ∧ s.IntsAt b xs ∧ xs.length ≤ 3072 ∧ (Jvm.Cond.and given_1 narrow_1).before args s = true
def lw_Q (_ : Array Value) (s : State) (o : Outcome) (t : State) : Prop := o = .returned (some (.int 1)) ∧ Framed s o t [] 600000 7302250
def lw_Z (below : List Frame) (a : Array Value) (s : State) : State → Prop := fun t => ∃ o, t.status = .running ∧ Ended t below o ∧ lw_Q a s o t
/-- the law's own end, with 1 on the stack, nothing written that was there before, its room as the claim has it -/
theorem lw_ret {p : Program} {l : Launch} {e : Env} {s : State} {m : MethodId} {below : List Frame} {meth : Method} {c : Code} {b : Nat} (hx : p.tables.exec = Jvm.exec) (hb : c.code = code) (hr : meth.sig.returnType = ret) (hlocks : meth.locks = false) {pc : Nat} {H : Heap} {ls : Array Slot} (hdg : decode code pc = .ok (.ireturn, 1)) : W p l e room_1 s m #[Value.ref b] below meth c H [] 600000 7302250 (lw_Z below #[Value.ref b] s) (F0 m pc ls [.int 1]) := by
  intro T hT X
  obtain ⟨fs, hret, hrun, hended, hW, hframe⟩ := X.leave (v := some (.int 1)) (hlocks := hlocks) (fun h => by rw [hr] at h; cases h)
  have hmeth' : T.vm.method? m = some meth := X.method'
  refine ⟨T.setFrames fs, ?_, .returned (some (.int 1)), hrun, hended, rfl, ⟨_, rfl⟩, hW, hframe⟩
  jvm_step X.here [X.here.top, hx, hb, hdg, hmeth', hr, ret, narrow_b1]
  (try refine ⟨rfl, ?_⟩); (try refine ⟨rfl, ?_⟩)
  first | (intro acts; rw [hret _ acts rfl rfl rfl]) | rw [hret _ _ rfl rfl rfl]
  exact Steps.refl _
/-- what holds at the law's entry: the machine, the code, the tables' words (any of lw_tbl by 'hts w (by decide +kernel)'), the script of L ints xs at the cell b, what the Statement gives of the start (any of its parts by flat_of_before) -/
def lw_At (p : Program) (s : State) (m : MethodId) (meth : Method) (c : Code) (b L : Nat) (xs : Nat → Int32) : Prop :=
  p.tables.exec = Jvm.exec ∧ c.code = code ∧ meth.sig.returnType = ret ∧ c.maxLocals = 4 ∧ s.vm.findClass R_law = some m.cls ∧ (∀ w ∈ lw_tbl, w.before #[Value.ref b] s = true) ∧ va_X b L xs s s.heap ∧ b < s.heap.size ∧ meth.locks = false ∧ (Jvm.Cond.and given_1 narrow_1).before #[Value.ref b] s = true
theorem st_hex : ∀ i, i < 12 → (Cond.exactly (.string "FourYearsForAStrip$Tape" (si_sx i)) "java/lang/String") ∈ flatC (Jvm.Cond.and given_1 narrow_1) := by decide +kernel
theorem st_hco : ∀ i, i < 12 → (Cond.eq (.field (.string "FourYearsForAStrip$Tape" (si_sx i)) "java/lang/String" "coder" "B") (.int 0)) ∈ flatC (Jvm.Cond.and given_1 narrow_1) := by decide +kernel
theorem st_har : ∀ i, i < 12 → (Cond.arrayOf (.field (.string "FourYearsForAStrip$Tape" (si_sx i)) "java/lang/String" "value" "[B") .byte) ∈ flatC (Jvm.Cond.and given_1 narrow_1) := by decide +kernel
theorem st_hle : ∀ i, i < 12 → (Cond.eq (.length (.field (.string "FourYearsForAStrip$Tape" (si_sx i)) "java/lang/String" "value" "[B")) (.int (Int32.ofNat (si_sl.getD i 0)))) ∈ flatC (Jvm.Cond.and given_1 narrow_1) := by decide +kernel
theorem st_hel : ∀ i, i < 12 → ∀ j, j < si_sl.getD i 0 → (Cond.eq (.elem (.field (.string "FourYearsForAStrip$Tape" (si_sx i)) "java/lang/String" "value" "[B") (.int (Int32.ofNat j))) (.int ((si_sb.getD i []).getD j 0))) ∈ flatC (Jvm.Cond.and given_1 narrow_1) := by decide +kernel
theorem st_hne : ∀ i, i < 12 → ∀ j, j < 12 → i ≠ j → ((Cond.not (Cond.eq (.string "FourYearsForAStrip$Tape" (si_sx i)) (.string "FourYearsForAStrip$Tape" (si_sx j)))) ∈ flatC (Jvm.Cond.and given_1 narrow_1) ∨ (Cond.not (Cond.eq (.string "FourYearsForAStrip$Tape" (si_sx j)) (.string "FourYearsForAStrip$Tape" (si_sx i)))) ∈ flatC (Jvm.Cond.and given_1 narrow_1)) := by decide +kernel
theorem st_sl : ∀ i, i < 12 → si_sl.getD i 0 < 2 ^ 31 := by decide +kernel
def st_sxi : List Nat := [486, 539, 540, 541, 542, 543, 548, 549, 550, 551, 552, 553]
theorem st_srf : (List.range 12).all (fun i => decide (lw_tbl[st_sxi.getD i 0]? = some (Cond.stringRef RX5 (si_sx i) (si_stx i)))) = true := by decide +kernel
theorem st_Uar : (Cond.arrayOf (.static "FourYearsForAStrip" "UNDER" "[I") .int) ∈ flatC (Jvm.Cond.and given_1 narrow_1) := by decide +kernel
theorem st_Ule : (Cond.eq (.length (.static "FourYearsForAStrip" "UNDER" "[I")) (.int (Int32.ofNat 6))) ∈ flatC (Jvm.Cond.and given_1 narrow_1) := by decide +kernel
theorem st_Uel : ∀ j, j < 6 → (Cond.eq (.elem (.static "FourYearsForAStrip" "UNDER" "[I") (.int (Int32.ofNat j))) (.int (si_under j))) ∈ flatC (Jvm.Cond.and given_1 narrow_1) := by decide +kernel
theorem st_Cst : (Cond.eq (.static "java/lang/String" "COMPACT_STRINGS" "Z") (.int 1)) ∈ flatC (Jvm.Cond.and given_1 narrow_1) := by decide +kernel
theorem st_Fr : (Cond.isRef (.static "jdk/internal/util/Preconditions" "SIOOBE_FORMATTER" "Ljava/util/function/BiFunction;")) ∈ flatC (Jvm.Cond.and given_1 narrow_1) := by decide +kernel
theorem st_LF : (Cond.laysStatic "jdk/internal/util/Preconditions" "SIOOBE_FORMATTER" "Ljava/util/function/BiFunction;") ∈ lw_tbl := List.mem_of_getElem? (i := 516) (by decide +kernel)
theorem st_IF : (Cond.initialized "jdk/internal/util/Preconditions") ∈ lw_tbl := List.mem_of_getElem? (i := 126) (by decide +kernel)
theorem st_LU : (Cond.laysStatic "FourYearsForAStrip" "UNDER" "[I") ∈ lw_tbl := List.mem_of_getElem? (i := 880) (by decide +kernel)
theorem st_LC : (Cond.laysStatic "java/lang/String" "COMPACT_STRINGS" "Z") ∈ lw_tbl := List.mem_of_getElem? (i := 500) (by decide +kernel)
theorem st_I6 : (Cond.initialized "FourYearsForAStrip") ∈ lw_tbl := List.mem_of_getElem? (i := 114) (by decide +kernel)
theorem st_IS : (Cond.initialized "java/lang/String") ∈ lw_tbl := List.mem_of_getElem? (i := 124) (by decide +kernel)
set_option maxHeartbeats 4000000 in
/-- the texts and the statics, as the Statement gives them -/
theorem st_env {p : Program} {s : State} {m : MethodId} {meth : Method} {c : Code} {b L : Nat} {xs : Nat → Int32} (C0 : lw_At p s m meth c b L xs) : ∃ (adK adV : Nat → Nat) (tU : Nat), ∀ ad : Nat → Nat → Nat, si_env (di_ad ad adK tU b) adV (L, xs) (fun q : Nat => s.heap.size ≤ q) s := by
  obtain ⟨hx, hb, hr, hml, hown, hts, hX, hbl, hlocks, hgv⟩ := C0
  have hs := flat_of_before _ hgv
  have hA : ∀ a : Nat, a < s.heap.size → ¬ (fun q : Nat => s.heap.size ≤ q) a := fun a h => Nat.not_le.mpr h
  obtain ⟨adK, adV, hvk, hev⟩ := vk_Sof (args := #[Value.ref b]) (s := s) (N := 12) (tm := fun i => .string "FourYearsForAStrip$Tape" (si_sx i)) (len := si_sl) (byt := si_sb) (A := fun q : Nat => s.heap.size ≤ q) st_sl (fun i hi => hs _ (st_hex i hi)) (fun i hi => hs _ (st_hco i hi)) (fun i hi => hs _ (st_har i hi)) (fun i hi => hs _ (st_hle i hi)) (fun i hi j hj => hs _ (st_hel i hi j hj)) (fun i j hi hj hij => (st_hne i hi j hj hij).elim (fun h => Or.inl (hs _ h)) (fun h => Or.inr (hs _ h))) hA
  obtain ⟨tU, htU, hTU⟩ := va_Tof (args := #[Value.ref b]) (s := s) (tm := .static "FourYearsForAStrip" "UNDER" "[I") (ty := .int) (N := 6) (f := fun j => .int (si_under j)) (A := fun q : Nat => s.heap.size ≤ q) (by decide) (hs _ st_Uar) (va_eqt (hs _ st_Ule)) (fun j hj => va_eqt (hs _ (st_Uel j hj))) hA
  refine ⟨adK, adV, tU, fun ad => ⟨?_, ?_, ?_, ?_, ?_, ?_, ?_, ?_⟩⟩
  · exact va_Zof (hts _ st_LU) (hts _ st_I6) htU hA
  · exact hTU
  · obtain ⟨scr, h1, h2, h3, h4, h5⟩ := hX
    exact ⟨scr, h1, h2, h3, (by rw [h4]; try exact Nat.le_refl _), (by rw [h4]; try rfl), h5, hA b hbl⟩
  · exact va_Zof (hts _ st_LC) (hts _ st_IS) (va_eqt (hs _ st_Cst)) hA
  · exact hvk
  · intro k hk
    have h1 := List.all_eq_true.mp st_srf k (List.mem_range.mpr hk)
    exact vk_R.of (hts _ (List.mem_of_getElem? (of_decide_eq_true h1))) (hev k hk)
  · intro q hq hn
    have h1 := hts _ (si_fl_ok hq).1
    rw [si_flc_nest hn] at h1 ⊢
    exact va_Nw.of rfl h1
  · exact va_Zqof (hts _ st_LF) (hts _ st_IF) (hs _ st_Fr) hA
theorem st_arr {s : State} {args : Array Value} {ty : FieldType} (hp : (match ty with | .object _ => false | .array _ => false | _ => true) = true) (h : (Cond.arrayClass ty).before args s = true) : ∃ cA : ClassId, ArrOfT s cA ty ∧ va_RA s cA ty := by
  obtain ⟨cA, kA, comp, h1, h2, h3⟩ := Cond.arrayClass_spec h
  refine ⟨cA, fun n z => ⟨fun k h => (by cases h), kA, h2, comp, h3⟩, ?_⟩
  cases ty <;> first | exact h1 | cases hp
theorem st_kn {s : State} {args : Array Value} (hts : ∀ w ∈ si_tb, w.before args s = true) : ∀ k : Nat, ∃ q : ClassId × (Nat → Nat), k < 8 → u_Kn s (si_R k) (si_T k) (si_N k) q.1 q.2 := by
  intro k
  by_cases hk : k < 8
  · have g8 : k ∈ di_8 := by
      match k, hk with
      | 0, _ => decide
      | 1, _ => decide
      | 2, _ => decide
      | 3, _ => decide
      | 4, _ => decide
      | 5, _ => decide
      | 6, _ => decide
      | 7, _ => decide
    obtain ⟨c0, i0, h0⟩ := u_known (C := si_R k) (T := si_T k) (N := si_N k) (n := si_N k) hts (si_inws k hk) (hts _ (di_it_ok g8))
    exact ⟨(c0, i0), fun _ => h0⟩
  · exact ⟨(0, fun _ => 0), fun h => absurd h hk⟩
/-- what is left of the claim when all that is the machine's is done: the law's loop, over the light machine -/
def st_Main : Prop := ∀ sc : si_Sc, sc.1 ≤ 3072 → si_W sc 100 234 16 [some (.inr (.inr (92, 0))), some (.inr (.inr (6, 0))), some (.inr (.inr (7, 0))), none] [] mu_0 (fun r _ => r = some (.inl 1))
def st_Str : Prop := ∀ (l : Launch) (D : va_G) (ad : Nat → Nat → Nat) (adV : Nat → Nat) (cI cZ : ClassId) (sc : si_Sc), si_SLp l D ad adV cI cZ sc
set_option maxHeartbeats 8000000 in
set_option maxRecDepth 50000 in
theorem st_whole (hM : st_Main) (hStr : st_Str) {p : Program} {e : Env} {s : State} {m : MethodId} {below : List Frame} {meth : Method} {c : Code} (l : Launch) {b L : Nat} {xs : Nat → Int32} (hL : L ≤ 3072) (C0 : lw_At p s m meth c b L xs) : W p l e room_1 s m #[Value.ref b] below meth c s.heap [] 0 0 (lw_Z below #[Value.ref b] s) (entryFrame m ([Value.ref b] : List Value).toArray 4) := by
  obtain ⟨adK, adV, tU, hE⟩ := st_env C0
  obtain ⟨hx, hb, hr, hml, hown, hts0, hX, hbl, hlocks, hgv⟩ := C0
  have hts : ∀ w ∈ si_tb, w.before #[Value.ref b] s = true := fun w hw => hts0 w (si_tbl hw)
  have hA : ∀ q : Nat, s.heap.size ≤ q → (fun q : Nat => s.heap.size ≤ q) q := fun _ h => h
  obtain ⟨kn, hkn⟩ := Classical.axiomOfChoice (st_kn hts)
  obtain ⟨cI, hI1, hI2⟩ := st_arr (ty := .int) rfl (hts _ di_x_ai)
  obtain ⟨cZ, hZ1, hZ2⟩ := st_arr (ty := .boolean) rfl (hts _ di_x_ab)
  have hK : va_K (fun k => (kn k).1, fun k => (kn k).2) si_cls (si_tys cI cZ) s := by
    refine ⟨fun k q hq => ?_, fun k q hq => ?_⟩
    · have hk : k < 8 := (List.getElem?_eq_some_iff.mp hq).1
      rw [si_cls_at k hk] at hq
      cases hq
      exact hkn k hk
    · match k, hq with
      | 0, hq => cases hq; exact ⟨hI1, hI2⟩
      | 1, hq => cases hq; exact ⟨hZ1, hZ2⟩
      | k + 2, hq => simp [si_tys] at hq
  have hP : va_P (fun k => (kn k).1, fun k => (kn k).2) si_cls (di_ws (fun _ _ => b) cI cZ []) s.heap := fun k q h => by simp [di_ws] at h
  have hD : va_D (fun q : Nat => s.heap.size ≤ q) (di_ws (fun _ _ => b) cI cZ []) := ⟨fun i j p q h => by simp [di_ws] at h, fun k q h => by simp [di_ws] at h⟩
  have hdE : di_env s := fun q hq hn => by
    have h1 := hts0 _ (di_ml_ok hq).1
    rw [di_mlc_nest hn] at h1 ⊢
    exact va_Nw.of rfl h1
  have hown2 : s.vm.findClass (di_R (di_mO 234)) = some m.cls := hown
  have hcode : c.code = di_mB 234 := hb
  rw [lg_entry_eq]
  have hrun := di_sound (l := l) (D := (fun k => (kn k).1, fun k => (kn k).2)) (cI := cI) (cZ := cZ) 3000 6 234 0 _ _ _ _ di_all_e
  have hlo : si_lo (fun _ _ => b) di_CLs false ((lg_sl (([.inr (.inr (92, 0))] : List si_AV).map (si_cv (fun _ _ => b))) ++ List.replicate (4 - (lg_sl (([.inr (.inr (92, 0))] : List si_AV).map (si_cv (fun _ _ => b)))).length) Slot.unset).toArray) 4 (si_pad 4 (si_enL [.inr (.inr (92, 0))])) := si_lo_entry (fun v hv => by
    rcases List.mem_cons.mp hv with rfl | hv
    · exact Or.inr (Or.inr (Or.inr rfl))
    · cases hv) (by decide) (fun _ v hv => by
    rcases List.mem_cons.mp hv with rfl | hv
    · rfl
    · cases hv)
  refine hrun p e room_1 s m #[Value.ref b] below meth c s.heap [] 0 0 (fun q : Nat => s.heap.size ≤ q) _ _ (fun _ _ => b) ⟨hx, hcode, hml, hown2, hts, by decide, by decide, hK, hA, (fun h => by cases h), hdE⟩ hP hD va_S.rf hlo (by decide) (by decide) ?_
  intro ad H1 locs1 ls1 hext _ hP1 hD1 hS1 hl1
  have h92 : ad 92 0 = b := hext.2
  have hconv := di_conv (ad := ad) (adK := adK) (tU := tU) (b := b) (cI := cI) (cZ := cZ)
  dsimp only at hP1 hD1 hl1 ⊢
  rw [hconv] at hP1 hD1
  have hs2 := si_sound (l := l) (D := (fun k => (kn k).1, fun k => (kn k).2)) (ad := di_ad ad adK tU b) (adV := adV) (cI := cI) (cZ := cZ) di_CA_ok (hStr l _ _ _ _ _ _) (hM (L, xs) hL)
  have hlo2 : si_lo (di_ad ad adK tU b) di_CA (si_mJ 234) ls1 (si_mL 234) [some (.inr (.inr (92, 0))), some (.inr (.inr (6, 0))), some (.inr (.inr (7, 0))), none] := by
    have hJ : si_mJ 234 = false := by decide +kernel
    have hmL : si_mL 234 = 4 := by decide +kernel
    rw [hJ, hmL]
    have hmLd : di_mL 234 = 4 := by decide +kernel
    rw [hmLd] at hl1
    refine ⟨hl1.1, hl1.2.1, rfl, fun i v hi => ?_⟩
    match i, hi with
    | 0, hi =>
      cases hi
      refine ⟨?_, Or.inr (Or.inr (Or.inr rfl)), fun _ => rfl⟩
      have h1 := (hl1.2.2.2 0 (.inr (.inr (92, 0))) rfl).1
      rw [h1]
      show some (Slot.val (Value.ref (ad 92 0))) = some (Slot.val (Value.ref b))
      rw [h92]
    | 1, hi =>
      cases hi
      refine ⟨?_, Or.inl (by decide), fun _ => rfl⟩
      have h1 := (hl1.2.2.2 1 (.inr (.inr (0, 0))) rfl).1
      rw [h1]
      have e6 : di_ix 6 0 = 0 := by decide
      show some (Slot.val (Value.ref (ad 0 0))) = some (Slot.val (Value.ref (ad 0 (di_ix 6 0))))
      rw [e6]
    | 2, hi =>
      cases hi
      refine ⟨?_, Or.inl (by decide), fun _ => rfl⟩
      have h1 := (hl1.2.2.2 2 (.inr (.inr (0, 46))) rfl).1
      rw [h1]
      have e7 : di_ix 7 0 = 46 := by decide
      show some (Slot.val (Value.ref (ad 0 46))) = some (Slot.val (Value.ref (ad 0 (di_ix 7 0))))
      rw [e7]
    | 3, hi => cases hi
    | k + 4, hi => cases hi
  have hown3 : s.vm.findClass (si_R (si_mO 234)) = some m.cls := hown
  have hcode3 : c.code = si_mB 234 := hb
  have hml3 : c.maxLocals = si_mL 234 := hml
  refine hs2 p e room_1 s m #[Value.ref b] below meth c H1 locs1 _ _ (fun q : Nat => s.heap.size ≤ q) _ ls1 ⟨hx, hcode3, hml3, hown3, hts, by decide, by decide, by decide, by decide, hK, hA, hE ad⟩ hP1 hD1 hS1 hlo2 (fun _ h => by cases h) ?_
  intro pc' ls' r μ' H' locs' hrt hq hP' hS'
  subst hq
  have hdg : decode code pc' = .ok (.ireturn, 1) := hrt.1
  refine va_forget (fun q hq => hS'.2.2 q hq) ?_
  refine W.widen (k := 600000) (n := 7302250) (by decide) (by decide) ?_
  exact lw_ret hx hb hr hlocks hdg
theorem st_Str_ok : st_Str := fun l D ad adV cI cZ sc => sr_all l D ad adV cI cZ sc
