theorem sr_len_l : (Cond.methodLink RX5 96 yJ0_length_8abf5) ∈ si_tb := si_at (i := 491) (by decide +kernel)
theorem sr_len_i : (Cond.instanceMethod yJ0_length_8abf5) ∈ si_tb := si_at (i := 492) (by decide +kernel)
theorem sr_len_s : (Cond.selects RJ0 yJ0_length_8abf5 yJ0_length_8abf5) ∈ si_tb := si_at (i := 493) (by decide +kernel)
theorem sr_len_c : (Cond.code yJ0_length_8abf5 cJ0_length_8abf5 1 (some .int)) ∈ si_tb := si_at (i := 494) (by decide +kernel)
theorem sr_cod_l : (Cond.methodLink RJ0 335 yJ0_coder_7d493) ∈ si_tb := si_at (i := 495) (by decide +kernel)
theorem sr_cod_i : (Cond.instanceMethod yJ0_coder_7d493) ∈ si_tb := si_at (i := 496) (by decide +kernel)
theorem sr_cod_s : (Cond.selects RJ0 yJ0_coder_7d493 yJ0_coder_7d493) ∈ si_tb := si_at (i := 497) (by decide +kernel)
theorem sr_cod_c : (Cond.code yJ0_coder_7d493 cJ0_coder_7d493 1 (some .byte)) ∈ si_tb := si_at (i := 498) (by decide +kernel)
theorem sr_f38 : (Cond.fieldLink RJ0 38 RJ0 "COMPACT_STRINGS" "Z") ∈ si_tb := si_at (i := 499) (by decide +kernel)
theorem sr_chr_i : (Cond.instanceMethod yJ0_charAt_5068e) ∈ si_tb := si_at (i := 502) (by decide +kernel)
theorem sr_chr_s : (Cond.selects RJ0 yJ0_charAt_5068e yJ0_charAt_5068e) ∈ si_tb := si_at (i := 503) (by decide +kernel)
theorem sr_chr_c : (Cond.code yJ0_charAt_5068e cJ0_charAt_5068e 2 (some .char)) ∈ si_tb := si_at (i := 504) (by decide +kernel)
theorem sr_lat_l : (Cond.methodLink RJ0 492 yJ0_isLatin1_aae02) ∈ si_tb := si_at (i := 505) (by decide +kernel)
theorem sr_lat_i : (Cond.instanceMethod yJ0_isLatin1_aae02) ∈ si_tb := si_at (i := 506) (by decide +kernel)
theorem sr_lat_s : (Cond.selects RJ0 yJ0_isLatin1_aae02 yJ0_isLatin1_aae02) ∈ si_tb := si_at (i := 507) (by decide +kernel)
theorem sr_lat_c : (Cond.code yJ0_isLatin1_aae02 cJ0_isLatin1_aae02 1 (some .boolean)) ∈ si_tb := si_at (i := 508) (by decide +kernel)
theorem sr_l1_l : (Cond.methodLink RJ0 495 yJ1_charAt_3b067) ∈ si_tb := si_at (i := 509) (by decide +kernel)
theorem sr_l1_s : (Cond.static yJ1_charAt_3b067) ∈ si_tb := si_at (i := 510) (by decide +kernel)
theorem sr_l1_c : (Cond.code yJ1_charAt_3b067 cJ1_charAt_3b067 2 (some .char)) ∈ si_tb := si_at (i := 511) (by decide +kernel)
theorem sr_ck_l : (Cond.methodLink RJ1 9 yJ0_checkIndex_df160) ∈ si_tb := si_at (i := 512) (by decide +kernel)
theorem sr_ck_s : (Cond.static yJ0_checkIndex_df160) ∈ si_tb := si_at (i := 513) (by decide +kernel)
theorem sr_ck_c : (Cond.code yJ0_checkIndex_df160 cJ0_checkIndex_df160 2 none) ∈ si_tb := si_at (i := 514) (by decide +kernel)
theorem sr_f53 : (Cond.fieldLink RJ0 1053 RJ3 "SIOOBE_FORMATTER" "Ljava/util/function/BiFunction;") ∈ si_tb := si_at (i := 515) (by decide +kernel)
theorem sr_pr_l : (Cond.methodLink RJ0 1059 yJ3_checkIndex_8e157) ∈ si_tb := si_at (i := 517) (by decide +kernel)
theorem sr_pr_s : (Cond.static yJ3_checkIndex_8e157) ∈ si_tb := si_at (i := 518) (by decide +kernel)
theorem sr_pr_c : (Cond.code yJ3_checkIndex_8e157 cJ3_checkIndex_8e157 3 (some .int)) ∈ si_tb := si_at (i := 519) (by decide +kernel)
theorem sr_f9 : (Cond.fieldLink RJ0 9 RJ0 "value" "[B") ∈ si_tb := si_at (i := 1494) (by decide +kernel)
theorem sr_f15 : (Cond.fieldLink RJ0 15 RJ0 "coder" "B") ∈ si_tb := si_at (i := 1495) (by decide +kernel)
theorem sr_in0 : (Cond.initialized RJ0) ∈ si_tb := si_at (i := 124) (by decide +kernel)
theorem sr_in1 : (Cond.initialized RJ1) ∈ si_tb := si_at (i := 125) (by decide +kernel)
theorem sr_in3 : (Cond.initialized RJ3) ∈ si_tb := si_at (i := 126) (by decide +kernel)
def sr_F (adK adV : Nat → Nat) (U : State) : Prop := vk_S 12 si_sl si_sb adK adV (fun _ => False) U U.heap ∧ va_Z RJ0 "COMPACT_STRINGS" "Z" (.int 1) (fun _ => False) U U.heap ∧ va_Zq RJ3 "SIOOBE_FORMATTER" "Ljava/util/function/BiFunction;" (fun _ => False) U U.heap
theorem sr_F_call {adK adV : Nat → Nat} {U : State} {g : JFrame} {mk : MethodId} {a : Array Value} (h : sr_F adK adV U) : sr_F adK adV (U.calling g mk a) := ⟨vk_S.moved (u := U) (U := U.calling g mk a) (Vm.Alike.refl U.vm) h.1, va_Z.moved (u := U) (U := U.calling g mk a) (Vm.Alike.refl U.vm) h.2.1, va_Zq.moved (u := U) (U := U.calling g mk a) (Vm.Alike.refl U.vm) h.2.2⟩
theorem sr_F_to {adK adV : Nat → Nat} {s U : State} (h : sr_F adK adV s) (hU : U.heap = s.heap) (hW : s.WarmedH U.vm) : sr_F adK adV U := by
  refine ⟨?_, ?_, ?_⟩
  · rw [hU]; exact vk_S.moved hW.alike h.1
  · rw [hU]; exact va_Z.moved hW.alike h.2.1
  · rw [hU]; exact va_Zq.moved hW.alike h.2.2
def sr_P (adK adV : Nat → Nat) (H0 : Heap) (vs : List Value) : Array Value → State → Prop := va_Pc vs (fun U => U.heap = H0 ∧ sr_F adK adV U)
def sr_Q (post : Int32 → Prop) (H0 : Heap) : Array Value → State → Outcome → State → Prop := va_Qi (S := Unit) (fun r _ => post r) (fun _ t => t.heap = H0) (fun _ => False)
def sr_V (H0 : Heap) : Array Value → State → Outcome → State → Prop := va_Qv (S := Unit) (fun _ => True) (fun _ t => t.heap = H0) (fun _ => False)
def sr_rm (k : Nat) : Room := { frames := k, cells := 0, slots := 0, locals := 200 * k }
theorem sr_blind {adK adV : Nat → Nat} {H0 : Heap} {vs : List Value} : FrameBlind (sr_P adK adV H0 vs) := fun a U g mk q => ⟨q.1, q.2.1, sr_F_call q.2.2⟩
theorem sr_S {A : Nat → Prop} {s : State} : va_S A s.heap s.heap [] := va_S.rf
theorem sr_gV {own C : String} {idx : Nat} {y : MethodName} {cb : ByteArray} {n : Nat} {ret : Option FieldType} (h1 : (Cond.methodLink own idx y) ∈ si_tb) (h2 : (Cond.instanceMethod y) ∈ si_tb) (h3 : (Cond.selects C y y) ∈ si_tb) (h4 : (Cond.initialized C) ∈ si_tb) (h5 : (Cond.code y cb n ret) ∈ si_tb) : GoodIn si_tb (wsV own idx C y (Cond.code y cb n ret :: si_tb)) := by
  intro w hw
  unfold wsV at hw
  rcases List.mem_append.mp hw with hw | hw
  · simp only [List.mem_cons, List.not_mem_nil, or_false] at hw
    rcases hw with rfl | rfl | rfl | rfl
    · exact ⟨h1, si_gd h1⟩
    · exact ⟨h2, si_gd h2⟩
    · exact ⟨h3, si_gd h3⟩
    · exact ⟨h4, si_gd h4⟩
  · rcases List.mem_cons.mp hw with rfl | hw
    · exact ⟨h5, si_gd h5⟩
    · exact ⟨hw, si_gd hw⟩
theorem sr_gS {own : String} {idx : Nat} {y : MethodName} {cb : ByteArray} {n : Nat} {ret : Option FieldType} (h1 : (Cond.methodLink own idx y) ∈ si_tb) (h2 : (Cond.static y) ∈ si_tb) (h4 : (Cond.initialized y.cls) ∈ si_tb) (h5 : (Cond.code y cb n ret) ∈ si_tb) : GoodIn si_tb (va_wsS own idx y (Cond.code y cb n ret :: si_tb)) := by
  intro w hw
  unfold va_wsS at hw
  rcases List.mem_append.mp hw with hw | hw
  · simp only [List.mem_cons, List.not_mem_nil, or_false] at hw
    rcases hw with rfl | rfl | rfl
    · exact ⟨h1, si_gd h1⟩
    · exact ⟨h2, si_gd h2⟩
    · exact ⟨h4, si_gd h4⟩
  · rcases List.mem_cons.mp hw with rfl | hw
    · exact ⟨h5, si_gd h5⟩
    · exact ⟨hw, si_gd hw⟩

set_option maxHeartbeats 4000000 in
set_option maxRecDepth 50000 in
theorem sr_coder (l : Launch) (adK adV : Nat → Nat) (H0 : Heap) {i : Nat} (hi : i < 12) : Met l yJ0_coder_7d493 (Cond.code yJ0_coder_7d493 cJ0_coder_7d493 1 (some .byte) :: si_tb) (sr_rm 0) (sr_P adK adV H0 [.ref (adK i)]) (sr_Q (fun r => r = 0) H0) 0 0 (fun _ => False) := by
  refine Met.ofW (cc := cJ0_coder_7d493) (maxL := 1) (ret := (some .byte)) (by decide) rfl ?_
  intro p e s m args below meth c s₁ B hml hv
  obtain ⟨rfl, hH0, hF⟩ := hv
  have hx := B.exec
  have hb := B.bytes
  have hr := B.returns
  have hts1 := atoms_spec (ws := Cond.code yJ0_coder_7d493 cJ0_coder_7d493 1 (some .byte) :: si_tb) B.pre
  have hts : ∀ w ∈ si_tb, w.before ([Value.ref (adK i)]).toArray s = true := fun w hw => hts1 w (List.mem_cons_of_mem _ hw)
  have hown : s.vm.findClass RJ0 = some m.cls := findClass_of_methodNamed B.named
  have hlocks := B.notSynchronized
  subst hH0
  have hl := lv_entry ([Value.ref (adK i)]) (n := 1) (Nat.le_of_ble_eq_true rfl)
  rw [lg_entry_eq]
  generalize (lg_sl ([Value.ref (adK i)]) ++ List.replicate (1 - (lg_sl ([Value.ref (adK i)])).length) Slot.unset).toArray = ls at hl ⊢
  have hl : lv_has ls 1 [(0, .ref (adK i))] := hl
  refine va_gets hx hb hF.2.1 sr_S hown (hts _ sr_f38) (fun _ h9 => h9) (show decode cJ0_coder_7d493 0 = .ok (.getstatic 38, 3) by decide +kernel) ?_
  refine lv_if_eq (tgt := 13) hx hb (show decode cJ0_coder_7d493 3 = .ok (.ifCond .eq 10, 3) by decide +kernel) (by decide) (fun c1 => absurd c1 (by decide)) (fun c1 => ?_)
  refine lv_aload_n hx hb (show decode cJ0_coder_7d493 6 = .ok (.aload_n 0, 1) by decide +kernel) rfl (lv_at hl 0 rfl) ?_
  refine vk_getf hx hb (hF.1.1 i hi).2.1 sr_S hown (hts _ sr_f15) (fun _ h9 => h9) (show decode cJ0_coder_7d493 7 = .ok (.getfield 15, 3) by decide +kernel) ?_
  refine lv_goto (tgt := 14) hx hb (show decode cJ0_coder_7d493 10 = .ok (.goto 4, 3) by decide +kernel) (by decide) ?_
  exact W.zret hx hb hr rfl (fun t ht hW => ⟨⟨0, (), rfl, rfl, ht⟩, sr_S.F ht⟩) (fun _ h => by cases h) (show decode cJ0_coder_7d493 14 = .ok (.ireturn, 1) by decide +kernel)
set_option maxHeartbeats 4000000 in
set_option maxRecDepth 50000 in
theorem sr_lat (l : Launch) (adK adV : Nat → Nat) (H0 : Heap) {i : Nat} (hi : i < 12) : Met l yJ0_isLatin1_aae02 (Cond.code yJ0_isLatin1_aae02 cJ0_isLatin1_aae02 1 (some .boolean) :: si_tb) (sr_rm 0) (sr_P adK adV H0 [.ref (adK i)]) (sr_Q (fun r => r = 1) H0) 0 0 (fun _ => False) := by
  refine Met.ofW (cc := cJ0_isLatin1_aae02) (maxL := 1) (ret := (some .boolean)) (by decide) rfl ?_
  intro p e s m args below meth c s₁ B hml hv
  obtain ⟨rfl, hH0, hF⟩ := hv
  have hx := B.exec
  have hb := B.bytes
  have hr := B.returns
  have hts1 := atoms_spec (ws := Cond.code yJ0_isLatin1_aae02 cJ0_isLatin1_aae02 1 (some .boolean) :: si_tb) B.pre
  have hts : ∀ w ∈ si_tb, w.before ([Value.ref (adK i)]).toArray s = true := fun w hw => hts1 w (List.mem_cons_of_mem _ hw)
  have hown : s.vm.findClass RJ0 = some m.cls := findClass_of_methodNamed B.named
  have hlocks := B.notSynchronized
  subst hH0
  have hl := lv_entry ([Value.ref (adK i)]) (n := 1) (Nat.le_of_ble_eq_true rfl)
  rw [lg_entry_eq]
  generalize (lg_sl ([Value.ref (adK i)]) ++ List.replicate (1 - (lg_sl ([Value.ref (adK i)])).length) Slot.unset).toArray = ls at hl ⊢
  have hl : lv_has ls 1 [(0, .ref (adK i))] := hl
  refine va_gets hx hb hF.2.1 sr_S hown (hts _ sr_f38) (fun _ h9 => h9) (show decode cJ0_isLatin1_aae02 0 = .ok (.getstatic 38, 3) by decide +kernel) ?_
  refine lv_if_eq (tgt := 17) hx hb (show decode cJ0_isLatin1_aae02 3 = .ok (.ifCond .eq 14, 3) by decide +kernel) (by decide) (fun c1 => absurd c1 (by decide)) (fun c1 => ?_)
  refine lv_aload_n hx hb (show decode cJ0_isLatin1_aae02 6 = .ok (.aload_n 0, 1) by decide +kernel) rfl (lv_at hl 0 rfl) ?_
  refine vk_getf hx hb (hF.1.1 i hi).2.1 sr_S hown (hts _ sr_f15) (fun _ h9 => h9) (show decode cJ0_isLatin1_aae02 7 = .ok (.getfield 15, 3) by decide +kernel) ?_
  refine lv_if_ne (tgt := 17) hx hb (show decode cJ0_isLatin1_aae02 10 = .ok (.ifCond .ne 7, 3) by decide +kernel) (by decide) (fun c1 => absurd rfl c1) (fun c1 => ?_)
  refine lv_iconst (v := 1) hx hb (show decode cJ0_isLatin1_aae02 13 = .ok (.iconst 1, 1) by decide +kernel) (by decide) ?_
  refine lv_goto (tgt := 18) hx hb (show decode cJ0_isLatin1_aae02 14 = .ok (.goto 4, 3) by decide +kernel) (by decide) ?_
  exact W.zret hx hb hr rfl (fun t ht hW => ⟨⟨1, (), rfl, rfl, ht⟩, sr_S.F ht⟩) (fun _ h => by cases h) (show decode cJ0_isLatin1_aae02 18 = .ok (.ireturn, 1) by decide +kernel)
set_option maxHeartbeats 4000000 in
set_option maxRecDepth 50000 in
theorem sr_prec (l : Launch) (adK adV : Nat → Nat) (H0 : Heap) {x n : Int32} {v : Value} (hv1 : v = .null ∨ ∃ z, v = .ref z) (h0 : ¬ x < 0) (hn : x < n) : Met l yJ3_checkIndex_8e157 (Cond.code yJ3_checkIndex_8e157 cJ3_checkIndex_8e157 3 (some .int) :: si_tb) (sr_rm 0) (sr_P adK adV H0 [.int x, .int n, v]) (sr_Q (fun r => r = x) H0) 0 0 (fun _ => False) := by
  have hcat : v.category = 1 := by rcases hv1 with rfl | ⟨z, rfl⟩ <;> rfl
  refine Met.ofW (cc := cJ3_checkIndex_8e157) (maxL := 3) (ret := (some .int)) (by decide) rfl ?_
  intro p e s m args below meth c s₁ B hml hv
  obtain ⟨rfl, hH0, hF⟩ := hv
  have hx := B.exec
  have hb := B.bytes
  have hr := B.returns
  have hts1 := atoms_spec (ws := Cond.code yJ3_checkIndex_8e157 cJ3_checkIndex_8e157 3 (some .int) :: si_tb) B.pre
  have hts : ∀ w ∈ si_tb, w.before ([Value.int x, .int n, v]).toArray s = true := fun w hw => hts1 w (List.mem_cons_of_mem _ hw)
  have hown : s.vm.findClass RJ3 = some m.cls := findClass_of_methodNamed B.named
  have hlocks := B.notSynchronized
  subst hH0
  have hl := lv_entry ([Value.int x, .int n, v]) (n := 3) (by rcases hv1 with rfl | ⟨z, rfl⟩ <;> exact Nat.le_of_ble_eq_true rfl)
  rw [lg_entry_eq]
  generalize (lg_sl ([Value.int x, .int n, v]) ++ List.replicate (3 - (lg_sl ([Value.int x, .int n, v])).length) Slot.unset).toArray = ls at hl ⊢
  have hl : lv_has ls 3 [(0, .int x), (1, .int n), (2, v)] := hl
  refine lv_iload_n hx hb (show decode cJ3_checkIndex_8e157 0 = .ok (.iload_n 0, 1) by decide +kernel) rfl (lv_at hl 0 rfl) ?_
  refine lv_if_lt (tgt := 9) hx hb (show decode cJ3_checkIndex_8e157 1 = .ok (.ifCond .lt 8, 3) by decide +kernel) (by decide) (fun c1 => absurd c1 h0) (fun c1 => ?_)
  refine lv_iload_n hx hb (show decode cJ3_checkIndex_8e157 4 = .ok (.iload_n 0, 1) by decide +kernel) rfl (lv_at hl 0 rfl) ?_
  refine lv_iload_n hx hb (show decode cJ3_checkIndex_8e157 5 = .ok (.iload_n 1, 1) by decide +kernel) rfl (lv_at hl 1 rfl) ?_
  refine lv_icmp_lt (tgt := 16) hx hb (show decode cJ3_checkIndex_8e157 6 = .ok (.if_icmp .lt 10, 3) by decide +kernel) (by decide) (fun c1 => ?_) (fun c1 => absurd hn c1)
  refine lv_iload_n hx hb (show decode cJ3_checkIndex_8e157 16 = .ok (.iload_n 0, 1) by decide +kernel) rfl (lv_at hl 0 rfl) ?_
  exact W.iret hx hb hr (fun t ht hW => ⟨⟨x, (), rfl, rfl, ht⟩, sr_S.F ht⟩) (fun _ h => by cases h) (show decode cJ3_checkIndex_8e157 17 = .ok (.ireturn, 1) by decide +kernel)
set_option maxHeartbeats 4000000 in
set_option maxRecDepth 50000 in
theorem sr_chk (l : Launch) (adK adV : Nat → Nat) (H0 : Heap) {x n : Int32} (h0 : ¬ x < 0) (hn : x < n) : Met l yJ0_checkIndex_df160 (Cond.code yJ0_checkIndex_df160 cJ0_checkIndex_df160 2 none :: si_tb) (sr_rm 1) (sr_P adK adV H0 [.int x, .int n]) (sr_V H0) 0 0 (fun _ => False) := by
  refine Met.ofW (cc := cJ0_checkIndex_df160) (maxL := 2) (ret := none) (by decide) rfl ?_
  intro p e s m args below meth c s₁ B hml hv
  obtain ⟨rfl, hH0, hF⟩ := hv
  have hx := B.exec
  have hb := B.bytes
  have hr := B.returns
  have hts1 := atoms_spec (ws := Cond.code yJ0_checkIndex_df160 cJ0_checkIndex_df160 2 none :: si_tb) B.pre
  have hts : ∀ w ∈ si_tb, w.before ([Value.int x, .int n]).toArray s = true := fun w hw => hts1 w (List.mem_cons_of_mem _ hw)
  have hown : s.vm.findClass RJ0 = some m.cls := findClass_of_methodNamed B.named
  have hlocks := B.notSynchronized
  subst hH0
  have hl := lv_entry ([Value.int x, .int n]) (n := 2) (Nat.le_of_ble_eq_true rfl)
  rw [lg_entry_eq]
  generalize (lg_sl ([Value.int x, .int n]) ++ List.replicate (2 - (lg_sl ([Value.int x, .int n])).length) Slot.unset).toArray = ls at hl ⊢
  have hl : lv_has ls 2 [(0, .int x), (1, .int n)] := hl
  refine lv_iload_n hx hb (show decode cJ0_checkIndex_df160 0 = .ok (.iload_n 0, 1) by decide +kernel) rfl (lv_at hl 0 rfl) ?_
  refine lv_iload_n hx hb (show decode cJ0_checkIndex_df160 1 = .ok (.iload_n 1, 1) by decide +kernel) rfl (lv_at hl 1 rfl) ?_
  have hZ : ∃ v : Value, (v = .null ∨ ∃ z, v = .ref z) ∧ va_Z RJ3 "SIOOBE_FORMATTER" "Ljava/util/function/BiFunction;" v (fun _ => False) s s.heap := by
    rcases hF.2.2 with h | ⟨z, h⟩
    · exact ⟨_, Or.inl rfl, h⟩
    · exact ⟨_, Or.inr ⟨z, rfl⟩, h⟩
  obtain ⟨v, hv1, hZ⟩ := hZ
  refine va_gets hx hb hZ sr_S hown (hts _ sr_f53) (fun _ h9 => h9) (show decode cJ0_checkIndex_df160 2 = .ok (.getstatic 1053, 3) by decide +kernel) ?_
  refine va_calli (va_runS (As := [.int x, .int n, v]) (rest := []) ⟨hx, hb, hml, hown, hts⟩ (sr_prec l adK adV s.heap hv1 h0 hn) (va_cwS 3 hts (sr_gS sr_pr_l sr_pr_s sr_in3 sr_pr_c) rfl rfl rfl (by decide +kernel) ⟨Nat.le_of_ble_eq_true rfl, Nat.le_of_ble_eq_true rfl⟩) ⟨sr_blind, fun U hU hW => ⟨rfl, hU, sr_F_to hF hU hW⟩⟩ rfl rfl hl.1 rfl (lv_room (Nat.le_of_ble_eq_true rfl)) (show decode cJ0_checkIndex_df160 5 = .ok (.invokestatic 1059, 3) by decide +kernel) ⟨Nat.zero_le _, Nat.zero_le _⟩) sr_S (fun q _ h => h) (fun q h => h) (fun r1 u t H1 locs ht hvm hw hB hz1 hk1 hS => ?_)
  have hH1 : H1 = s.heap := ht.symm.trans hB
  subst hH1
  refine lv_pop hx hb (show decode cJ0_checkIndex_df160 8 = .ok (.pop, 1) by decide +kernel) rfl ?_
  exact W.vret hx hb hr (fun t ht hW => ⟨⟨(), rfl, trivial, ht⟩, hS.F ht⟩) hS.2.2 (show decode cJ0_checkIndex_df160 9 = .ok (.return_, 1) by decide +kernel)
theorem sr_byte : ∀ i, i < 12 → ∀ k, k < si_sl.getD i 0 → ((((si_sb.getD i []).getD k 0) &&& 255).toUInt32 % 65536).toInt32 = (si_sb.getD i []).getD k 0 ∧ narrow .char (.int ((si_sb.getD i []).getD k 0)) = .int ((si_sb.getD i []).getD k 0) := by decide +kernel
theorem sr_in {x : Int32} {n : Nat} (h : vp_in x n) (hn : n < 2 ^ 31) : ¬ x < 0 ∧ x < Int32.ofNat n ∧ x.toNatClampNeg < n := by
  obtain ⟨j, hj, rfl⟩ := vp_in_of h hn
  exact ⟨nI_pos (by omega), nI_lt hj hn, by rw [nI_clamp (by omega)]; exact hj⟩
theorem sr_sl31 : ∀ i, i < 12 → si_sl.getD i 0 < 2 ^ 31 := by decide +kernel
set_option maxHeartbeats 4000000 in
set_option maxRecDepth 50000 in
theorem sr_l1 (l : Launch) (adK adV : Nat → Nat) (H0 : Heap) {i : Nat} (hi : i < 12) {x : Int32} (hxin : vp_in x (si_sl.getD i 0)) : Met l yJ1_charAt_3b067 (Cond.code yJ1_charAt_3b067 cJ1_charAt_3b067 2 (some .char) :: si_tb) (sr_rm 2) (sr_P adK adV H0 [.ref (adV i), .int x]) (sr_Q (fun r => r = (si_sb.getD i []).getD x.toNatClampNeg 0) H0) 0 0 (fun _ => False) := by
  obtain ⟨g1, g2, g3⟩ := sr_in hxin (sr_sl31 i hi)
  refine Met.ofW (cc := cJ1_charAt_3b067) (maxL := 2) (ret := (some .char)) (by decide) rfl ?_
  intro p e s m args below meth c s₁ B hml hv
  obtain ⟨rfl, hH0, hF⟩ := hv
  have hx := B.exec
  have hb := B.bytes
  have hr := B.returns
  have hts1 := atoms_spec (ws := Cond.code yJ1_charAt_3b067 cJ1_charAt_3b067 2 (some .char) :: si_tb) B.pre
  have hts : ∀ w ∈ si_tb, w.before ([Value.ref (adV i), .int x]).toArray s = true := fun w hw => hts1 w (List.mem_cons_of_mem _ hw)
  have hown : s.vm.findClass RJ1 = some m.cls := findClass_of_methodNamed B.named
  have hlocks := B.notSynchronized
  subst hH0
  have hl := lv_entry ([Value.ref (adV i), .int x]) (n := 2) (Nat.le_of_ble_eq_true rfl)
  rw [lg_entry_eq]
  generalize (lg_sl ([Value.ref (adV i), .int x]) ++ List.replicate (2 - (lg_sl ([Value.ref (adV i), .int x])).length) Slot.unset).toArray = ls at hl ⊢
  have hl : lv_has ls 2 [(0, .ref (adV i)), (1, .int x)] := hl
  refine lv_iload_n hx hb (show decode cJ1_charAt_3b067 0 = .ok (.iload_n 1, 1) by decide +kernel) rfl (lv_at hl 1 rfl) ?_
  refine lv_aload_n hx hb (show decode cJ1_charAt_3b067 1 = .ok (.aload_n 0, 1) by decide +kernel) rfl (lv_at hl 0 rfl) ?_
  refine va_tlen hx hb (hF.1.1 i hi).2.2.2 sr_S rfl (show decode cJ1_charAt_3b067 2 = .ok (.arraylength, 1) by decide +kernel) ?_
  refine va_callv (va_runS (As := [.int x, .int (Int32.ofNat (si_sl.getD i 0))]) (rest := []) ⟨hx, hb, hml, hown, hts⟩ (sr_chk l adK adV s.heap g1 g2) (va_cwS 2 hts (sr_gS sr_ck_l sr_ck_s sr_in0 sr_ck_c) rfl rfl rfl (by decide +kernel) ⟨Nat.le_of_ble_eq_true rfl, Nat.le_of_ble_eq_true rfl⟩) ⟨sr_blind, fun U hU hW => ⟨rfl, hU, sr_F_to hF hU hW⟩⟩ rfl rfl hl.1 rfl (lv_room (Nat.le_of_ble_eq_true rfl)) (show decode cJ1_charAt_3b067 3 = .ok (.invokestatic 9, 3) by decide +kernel) ⟨Nat.zero_le _, Nat.zero_le _⟩) sr_S (fun q _ h => h) (fun q h => h) (fun u t H1 locs ht hvm hw hB hz1 hk1 hS => ?_)
  have hH1 : H1 = s.heap := ht.symm.trans hB
  subst hH1
  refine lv_aload_n hx hb (show decode cJ1_charAt_3b067 6 = .ok (.aload_n 0, 1) by decide +kernel) rfl (lv_at hl 0 rfl) ?_
  refine lv_iload_n hx hb (show decode cJ1_charAt_3b067 7 = .ok (.iload_n 1, 1) by decide +kernel) rfl (lv_at hl 1 rfl) ?_
  refine va_tb hx hb (hF.1.1 i hi).2.2.2 hS hxin rfl (show decode cJ1_charAt_3b067 8 = .ok (.baload, 1) by decide +kernel) ?_
  refine lv_sipush (v := 255) hx hb (show decode cJ1_charAt_3b067 9 = .ok (.sipush 255, 3) by decide +kernel) (by decide) ?_
  refine lv_iand hx hb (show decode cJ1_charAt_3b067 12 = .ok (.iand, 1) by decide +kernel) ?_
  refine lv_i2c hx hb (show decode cJ1_charAt_3b067 13 = .ok (.i2c, 1) by decide +kernel) (sr_byte i hi _ g3).1 ?_
  exact W.zret hx hb hr (sr_byte i hi _ g3).2 (fun t ht hW => ⟨⟨_, (), rfl, rfl, ht⟩, hS.F ht⟩) hS.2.2 (show decode cJ1_charAt_3b067 14 = .ok (.ireturn, 1) by decide +kernel)
set_option maxHeartbeats 4000000 in
set_option maxRecDepth 50000 in
theorem sr_char (l : Launch) (adK adV : Nat → Nat) (H0 : Heap) {i : Nat} (hi : i < 12) {x : Int32} (hxin : vp_in x (si_sl.getD i 0)) : Met l yJ0_charAt_5068e (Cond.code yJ0_charAt_5068e cJ0_charAt_5068e 2 (some .char) :: si_tb) (sr_rm 3) (sr_P adK adV H0 [.ref (adK i), .int x]) (sr_Q (fun r => r = (si_sb.getD i []).getD x.toNatClampNeg 0) H0) 0 0 (fun _ => False) := by
  obtain ⟨g1, g2, g3⟩ := sr_in hxin (sr_sl31 i hi)
  refine Met.ofW (cc := cJ0_charAt_5068e) (maxL := 2) (ret := (some .char)) (by decide) rfl ?_
  intro p e s m args below meth c s₁ B hml hv
  obtain ⟨rfl, hH0, hF⟩ := hv
  have hx := B.exec
  have hb := B.bytes
  have hr := B.returns
  have hts1 := atoms_spec (ws := Cond.code yJ0_charAt_5068e cJ0_charAt_5068e 2 (some .char) :: si_tb) B.pre
  have hts : ∀ w ∈ si_tb, w.before ([Value.ref (adK i), .int x]).toArray s = true := fun w hw => hts1 w (List.mem_cons_of_mem _ hw)
  have hown : s.vm.findClass RJ0 = some m.cls := findClass_of_methodNamed B.named
  have hlocks := B.notSynchronized
  subst hH0
  have hl := lv_entry ([Value.ref (adK i), .int x]) (n := 2) (Nat.le_of_ble_eq_true rfl)
  rw [lg_entry_eq]
  generalize (lg_sl ([Value.ref (adK i), .int x]) ++ List.replicate (2 - (lg_sl ([Value.ref (adK i), .int x])).length) Slot.unset).toArray = ls at hl ⊢
  have hl : lv_has ls 2 [(0, .ref (adK i)), (1, .int x)] := hl
  refine lv_aload_n hx hb (show decode cJ0_charAt_5068e 0 = .ok (.aload_n 0, 1) by decide +kernel) rfl (lv_at hl 0 rfl) ?_
  refine va_calli (va_runV (C := RJ0) (As := []) (rest := []) (b := adK i) ⟨hx, hb, hml, hown, hts⟩ (sr_lat l adK adV s.heap hi) (cwV 0 hts (sr_gV sr_lat_l sr_lat_i sr_lat_s sr_in0 sr_lat_c) rfl rfl rfl (by decide +kernel) ⟨Nat.le_of_ble_eq_true rfl, Nat.le_of_ble_eq_true rfl⟩) ⟨sr_blind, vk_recv hF.1 hi sr_S, fun U hU hW => ⟨rfl, hU, sr_F_to hF hU hW⟩⟩ rfl rfl hl.1 rfl (lv_room (Nat.le_of_ble_eq_true rfl)) (show decode cJ0_charAt_5068e 1 = .ok (.invokevirtual 492, 3) by decide +kernel) ⟨Nat.zero_le _, Nat.zero_le _⟩) sr_S (fun q _ h => h) (fun q h => h) (fun r1 u t H1 locs ht hvm hw hB hz1 hk1 hS => ?_)
  have hH1 : H1 = s.heap := ht.symm.trans hB
  subst hH1
  dsimp only at hw
  subst hw
  refine lv_if_eq (tgt := 16) hx hb (show decode cJ0_charAt_5068e 4 = .ok (.ifCond .eq 12, 3) by decide +kernel) (by decide) (fun c1 => absurd c1 (by decide)) (fun c1 => ?_)
  refine lv_aload_n hx hb (show decode cJ0_charAt_5068e 7 = .ok (.aload_n 0, 1) by decide +kernel) rfl (lv_at hl 0 rfl) ?_
  refine vk_getf hx hb (hF.1.1 i hi).2.2.1 hS hown (hts _ sr_f9) (fun _ h9 => h9) (show decode cJ0_charAt_5068e 8 = .ok (.getfield 9, 3) by decide +kernel) ?_
  refine lv_iload_n hx hb (show decode cJ0_charAt_5068e 11 = .ok (.iload_n 1, 1) by decide +kernel) rfl (lv_at hl 1 rfl) ?_
  refine va_calli (va_runS (As := [.ref (adV i), .int x]) (rest := []) ⟨hx, hb, hml, hown, hts⟩ (sr_l1 l adK adV s.heap hi hxin) (va_cwS 2 hts (sr_gS sr_l1_l sr_l1_s sr_in1 sr_l1_c) rfl rfl rfl (by decide +kernel) ⟨Nat.le_of_ble_eq_true rfl, Nat.le_of_ble_eq_true rfl⟩) ⟨sr_blind, fun U hU hW => ⟨rfl, hU, sr_F_to hF hU hW⟩⟩ rfl rfl hl.1 rfl (lv_room (Nat.le_of_ble_eq_true rfl)) (show decode cJ0_charAt_5068e 12 = .ok (.invokestatic 495, 3) by decide +kernel) ⟨Nat.zero_le _, Nat.zero_le _⟩) hS (fun q _ h => h) (fun q h => h) (fun r2 u2 t2 H2 locs2 ht2 hvm2 hw2 hB2 hz2 hk2 hS2 => ?_)
  have hH2 : H2 = s.heap := ht2.symm.trans hB2
  subst hH2
  dsimp only at hw2
  subst hw2
  exact W.zret hx hb hr (sr_byte i hi _ g3).2 (fun t ht hW => ⟨⟨_, (), rfl, rfl, ht⟩, hS2.F ht⟩) hS2.2.2 (show decode cJ0_charAt_5068e 15 = .ok (.ireturn, 1) by decide +kernel)
set_option maxHeartbeats 4000000 in
set_option maxRecDepth 50000 in
theorem sr_len (l : Launch) (adK adV : Nat → Nat) (H0 : Heap) {i : Nat} (hi : i < 12) : Met l yJ0_length_8abf5 (Cond.code yJ0_length_8abf5 cJ0_length_8abf5 1 (some .int) :: si_tb) (sr_rm 1) (sr_P adK adV H0 [.ref (adK i)]) (sr_Q (fun r => r = nI (si_sl.getD i 0)) H0) 0 0 (fun _ => False) := by
  refine Met.ofW (cc := cJ0_length_8abf5) (maxL := 1) (ret := (some .int)) (by decide) rfl ?_
  intro p e s m args below meth c s₁ B hml hv
  obtain ⟨rfl, hH0, hF⟩ := hv
  have hx := B.exec
  have hb := B.bytes
  have hr := B.returns
  have hts1 := atoms_spec (ws := Cond.code yJ0_length_8abf5 cJ0_length_8abf5 1 (some .int) :: si_tb) B.pre
  have hts : ∀ w ∈ si_tb, w.before ([Value.ref (adK i)]).toArray s = true := fun w hw => hts1 w (List.mem_cons_of_mem _ hw)
  have hown : s.vm.findClass RJ0 = some m.cls := findClass_of_methodNamed B.named
  have hlocks := B.notSynchronized
  subst hH0
  have hl := lv_entry ([Value.ref (adK i)]) (n := 1) (Nat.le_of_ble_eq_true rfl)
  rw [lg_entry_eq]
  generalize (lg_sl ([Value.ref (adK i)]) ++ List.replicate (1 - (lg_sl ([Value.ref (adK i)])).length) Slot.unset).toArray = ls at hl ⊢
  have hl : lv_has ls 1 [(0, .ref (adK i))] := hl
  refine lv_aload_n hx hb (show decode cJ0_length_8abf5 0 = .ok (.aload_n 0, 1) by decide +kernel) rfl (lv_at hl 0 rfl) ?_
  refine vk_getf hx hb (hF.1.1 i hi).2.2.1 sr_S hown (hts _ sr_f9) (fun _ h9 => h9) (show decode cJ0_length_8abf5 1 = .ok (.getfield 9, 3) by decide +kernel) ?_
  refine va_tlen hx hb (hF.1.1 i hi).2.2.2 sr_S rfl (show decode cJ0_length_8abf5 4 = .ok (.arraylength, 1) by decide +kernel) ?_
  refine lv_aload_n hx hb (show decode cJ0_length_8abf5 5 = .ok (.aload_n 0, 1) by decide +kernel) rfl (lv_at hl 0 rfl) ?_
  refine va_calli (va_runV (C := RJ0) (As := []) (rest := [.int (Int32.ofNat (si_sl.getD i 0))]) (b := adK i) ⟨hx, hb, hml, hown, hts⟩ (sr_coder l adK adV s.heap hi) (cwV 0 hts (sr_gV sr_cod_l sr_cod_i sr_cod_s sr_in0 sr_cod_c) rfl rfl rfl (by decide +kernel) ⟨Nat.le_of_ble_eq_true rfl, Nat.le_of_ble_eq_true rfl⟩) ⟨sr_blind, vk_recv hF.1 hi sr_S, fun U hU hW => ⟨rfl, hU, sr_F_to hF hU hW⟩⟩ rfl rfl hl.1 rfl (lv_room (Nat.le_of_ble_eq_true rfl)) (show decode cJ0_length_8abf5 6 = .ok (.invokevirtual 335, 3) by decide +kernel) ⟨Nat.zero_le _, Nat.zero_le _⟩) sr_S (fun q _ h => h) (fun q h => h) (fun r1 u t H1 locs ht hvm hw hB hz1 hk1 hS => ?_)
  have hH1 : H1 = s.heap := ht.symm.trans hB
  subst hH1
  dsimp only at hw
  subst hw
  refine lv_ishr hx hb (show decode cJ0_length_8abf5 9 = .ok (.ishr, 1) by decide +kernel) ?_
  exact W.iret hx hb hr (fun t ht hW => ⟨⟨_, (), rfl, sb_shr0 _, ht⟩, hS.F ht⟩) hS.2.2 (show decode cJ0_length_8abf5 10 = .ok (.ireturn, 1) by decide +kernel)
theorem sr_rmF {k d : Nat} {R : Room} (hk : k ≤ 3) (h : d + 4 ≤ R.frames) : (sr_rm k).frames + 1 ≤ R.frames := by
  unfold sr_rm
  dsimp only
  omega
set_option maxRecDepth 20000 in
theorem sr_rmL {k d n : Nat} {R : Room} (hk : k ≤ 3) (hn : n ≤ 100) (h : 200 * (d + 4) ≤ R.locals) : 8 + (n + 11) + (sr_rm k).locals ≤ R.locals := by
  unfold sr_rm
  dsimp only
  have h1 : 200 * k ≤ 600 := by omega
  omega
theorem sr_Fof {ad : Nat → Nat → Nat} {adV : Nat → Nat} {sc : si_Sc} {A : Nat → Prop} {s : State} {H : Heap} {locs : List Loc} (hE : si_env ad adV sc A s) (hS : va_S A s.heap H locs) {U : State} (hU : U.heap = H) (hW : s.WarmedH U.vm) : sr_F (ad 90) adV U := by
  subst hU
  have h := si_env_to (B := fun _ => False) hE hS (fun _ h => h.elim) hW
  exact ⟨h.2.2.2.2.1, h.2.2.2.1, h.2.2.2.2.2.2.2⟩
set_option maxHeartbeats 4000000 in
set_option maxRecDepth 50000 in
/-- the class' own texts: length() and charAt() -/
theorem sr_all (l : Launch) (D : va_G) (ad : Nat → Nat → Nat) (adV : Nat → Nat) (cI cZ : ClassId) (sc : si_Sc) : si_SLp l D ad adV cI cZ sc := by
  intro p e R s m args below meth c cells slots d j A QQ X
  obtain ⟨hx, hb, hml, hown, hts, hRf, hRl, hRc, hRs, hKK, hA, hE⟩ := X
  refine ⟨?_, ?_⟩
  · intro H locs pc i index ls rest hi hml2 hdg hls hrest hS hk
    have hlk : (Cond.methodLink (si_R (si_mO j)) index yJ0_length_8abf5) ∈ si_tb := si_ml_ok hml2
    have hrun := va_runV (e := e) (below := below) (meth := meth) (C := RJ0) (As := []) (rest := rest) (b := ad 90 i) (g := F0 m pc ls (.ref (ad 90 i) :: rest)) (locs := locs) (cells := cells) (slots := slots) ⟨hx, hb, hml, hown, hts⟩ (sr_len l (ad 90) adV H hi) (cwV 0 hts (sr_gV hlk sr_len_i sr_len_s sr_in0 sr_len_c) rfl rfl rfl (by decide +kernel) ⟨sr_rmF (by decide) hRf, sr_rmL (by decide) (by decide) hRl⟩) ⟨sr_blind, vk_recv hE.2.2.2.2.1 hi hS, fun U hU hW => ⟨rfl, hU, sr_Fof hE hS hU hW⟩⟩ rfl rfl hls rfl (lv_room hrest) hdg ⟨hRc, hRs⟩
    refine va_calli hrun hS (fun q _ h => h.elim) (fun q h => h.elim) (fun r1 u t H1 locs1 ht hvm hw hB hz1 hk1 hS1 => ?_)
    have hH1 : H1 = H := ht.symm.trans hB
    subst hH1
    dsimp only at hw
    subst hw
    exact hk _ hS1
  · intro H locs pc i index x ls rest hi hml2 hdg hls hrest hin hS hk
    have hlk : (Cond.methodLink (si_R (si_mO j)) index yJ0_charAt_5068e) ∈ si_tb := si_ml_ok hml2
    have hrun := va_runV (e := e) (below := below) (meth := meth) (C := RJ0) (As := [.int x]) (rest := rest) (b := ad 90 i) (g := F0 m pc ls (.int x :: .ref (ad 90 i) :: rest)) (locs := locs) (cells := cells) (slots := slots) ⟨hx, hb, hml, hown, hts⟩ (sr_char l (ad 90) adV H hi hin) (cwV 1 hts (sr_gV hlk sr_chr_i sr_chr_s sr_in0 sr_chr_c) rfl rfl rfl (by decide +kernel) ⟨sr_rmF (by decide) hRf, sr_rmL (by decide) (by decide) hRl⟩) ⟨sr_blind, vk_recv hE.2.2.2.2.1 hi hS, fun U hU hW => ⟨rfl, hU, sr_Fof hE hS hU hW⟩⟩ rfl rfl hls rfl (lv_room hrest) hdg ⟨hRc, hRs⟩
    refine va_calli hrun hS (fun q _ h => h.elim) (fun q h => h.elim) (fun r1 u t H1 locs1 ht hvm hw hB hz1 hk1 hS1 => ?_)
    have hH1 : H1 = H := ht.symm.trans hB
    subst hH1
    dsimp only at hw
    subst hw
    exact hk _ hS1
