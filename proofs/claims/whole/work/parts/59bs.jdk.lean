/-! ===== the JDK's own: String.coder, length, isLatin1, charAt over a constant ===== -/
def jA : Nat → Prop := fun _ => False
def js (A : Nat → Prop) (q v : Nat) (bs : List Int32) (U : State) (H : Heap) : Prop :=
  va_O "java/lang/String" q A U H ∧ va_OF "java/lang/String" "coder" "B" (.int 0) q A U H ∧ va_OF "java/lang/String" "value" "[B" (.ref v) q A U H ∧ va_T .byte v bs.length (fun i => .int (bs.getD i 0)) A U H ∧ va_Z "java/lang/String" "COMPACT_STRINGS" "Z" (.int 1) A U H ∧ va_Zq "jdk/internal/util/Preconditions" "SIOOBE_FORMATTER" "Ljava/util/function/BiFunction;" A U H
theorem js.moved {A : Nat → Prop} {q v : Nat} {bs : List Int32} {u U : State} {H : Heap} (hvm : u.vm.Alike U.vm) (h : js A q v bs u H) : js A q v bs U H :=
  ⟨va_O.moved hvm h.1, va_OF.moved hvm h.2.1, va_OF.moved hvm h.2.2.1, va_T.moved hvm h.2.2.2.1, va_Z.moved hvm h.2.2.2.2.1, va_Zq.moved hvm h.2.2.2.2.2⟩
theorem js.kept {A : Nat → Prop} {q v : Nat} {bs : List Int32} {U : State} {H H1 : Heap} (h : js A q v bs U H) (hq : ∀ a : Nat, a < H.size → ¬ A a → H1[a]? = H[a]?) : js A q v bs U H1 :=
  ⟨va_O.kept h.1 hq, va_OF.kept h.2.1 hq, va_OF.kept h.2.2.1 hq, va_T.kept h.2.2.2.1 hq, va_Z.kept h.2.2.2.2.1 hq, va_Zq.kept h.2.2.2.2.2 hq⟩
theorem js.narrow {A B : Nat → Prop} {q v : Nat} {bs : List Int32} {U : State} {H : Heap} (h : js A q v bs U H) (hAB : ∀ q, B q → A q) : js B q v bs U H :=
  ⟨va_O.narrow h.1 hAB, va_OF.narrow h.2.1 hAB, va_OF.narrow h.2.2.1 hAB, va_T.narrow h.2.2.2.1 hAB, va_Z.narrow h.2.2.2.2.1 hAB, va_Zq.narrow h.2.2.2.2.2 hAB⟩
abbrev jS : String := "java/lang/String"
def mS_coder : bl_MR := (⟨jS, "coder", "()B"⟩, prog_22_method_152_code, 1, some .byte, [])
def mS_length : bl_MR := (⟨jS, "length", "()I"⟩, prog_22_method_54_code, 1, some .int, [])
theorem js_blind {av : List Value} {q v : Nat} {bs : List Int32} : FrameBlind (va_Pc av (fun U => js jA q v bs U U.heap)) := fun a U g mk h => ⟨h.1, js.moved (u := U) (U := U.calling g mk a) (Vm.Alike.refl U.vm) h.2⟩
theorem cS_coder {l : Launch} {q v : Nat} {bs : List Int32} : Met l mS_coder.1 (bl_wsm mS_coder) { frames := 0, cells := 0, slots := 0, locals := 0 } (va_Pc [.ref q] (fun U => js jA q v bs U U.heap)) (va_Qi (fun (r : Int32) (_ : Unit) => r = 0) (fun _ _ => True) jA) 0 0 jA := by
  refine Met.ofW (cc := mS_coder.2.1) (maxL := 1) (ret := some .byte) (by decide) (bl_wsm_eq rfl) ?_
  intro p e s m args below meth c s₁ B hml hv
  obtain ⟨rfl, h1, h2, h3, h4, h5, h6⟩ := hv
  have hx := B.exec
  have hb := B.bytes
  have hr := B.returns
  have hts := atoms_spec (ws := bl_wsm mS_coder) B.pre
  have hg : ∀ w ∈ bl_gw, w.before _ s = true := fun w hw => hts w (bl_gw_tl w hw)
  have hown : s.vm.findClass jS = some m.cls := findClass_of_methodNamed B.named
  have hlocks := B.notSynchronized
  have hS : va_S jA s.heap s.heap [] := va_S.rf
  have hl := lv_entry ([.ref q]) (n := 1) (Nat.le_of_ble_eq_true rfl)
  rw [lg_entry_eq]
  generalize (lg_sl ([.ref q]) ++ List.replicate (1 - (lg_sl ([.ref q])).length) Slot.unset).toArray = ls at hl ⊢
  have hl : lv_has ls 1 [(0, .ref q)] := hl
  refine va_gets hx hb h5 hS hown (hg (.fieldLink jS 38 jS "COMPACT_STRINGS" "Z") (by decide +kernel)) (fun _ h9 => h9) (show decode mS_coder.2.1 0 = .ok (.getstatic 38, 3) by decide +kernel) ?_
  refine lv_if_eq (tgt := 13) hx hb (show decode mS_coder.2.1 3 = .ok (.ifCond .eq 10, 3) by decide +kernel) rfl (fun h => absurd h (by decide)) (fun _ => ?_)
  refine lv_aload_n hx hb (show decode mS_coder.2.1 6 = .ok (.aload_n 0, 1) by decide +kernel) rfl (lv_at hl 0 rfl) ?_
  refine vk_getf hx hb h2 hS hown (hg (.fieldLink jS 15 jS "coder" "B") (by decide +kernel)) (fun _ h9 => h9) (show decode mS_coder.2.1 7 = .ok (.getfield 15, 3) by decide +kernel) ?_
  refine lv_goto (tgt := 14) hx hb (show decode mS_coder.2.1 10 = .ok (.goto 4, 3) by decide +kernel) rfl ?_
  exact W.zret (ty := .byte) hx hb hr (by decide) (fun t ht hW => ⟨⟨0, (), rfl, rfl, trivial⟩, hS.F ht⟩) (fun q hq => absurd hq List.not_mem_nil) (show decode mS_coder.2.1 14 = .ok (.ireturn, 1) by decide +kernel)
theorem cS_length {l : Launch} {q v : Nat} {bs : List Int32} (hbs : bs.length < 2 ^ 31) : Met l mS_length.1 (bl_wsm mS_length) { frames := 1, cells := 0, slots := 0, locals := 20 } (va_Pc [.ref q] (fun U => js jA q v bs U U.heap)) (va_Qi (fun (r : Int32) (_ : Unit) => r = Int32.ofNat bs.length) (fun _ _ => True) jA) 0 0 jA := by
  refine Met.ofW (cc := mS_length.2.1) (maxL := 1) (ret := some .int) (by decide) (bl_wsm_eq rfl) ?_
  intro p e s m args below meth c s₁ B hml hv
  obtain ⟨rfl, hj⟩ := hv
  obtain ⟨h1, h2, h3, h4, h5, h6⟩ := id hj
  have hx := B.exec
  have hb := B.bytes
  have hr := B.returns
  have hts := atoms_spec (ws := bl_wsm mS_length) B.pre
  have hg : ∀ w ∈ bl_gw, w.before #[Value.ref q] s = true := fun w hw => hts w (bl_gw_tl w hw)
  have hown : s.vm.findClass jS = some m.cls := findClass_of_methodNamed B.named
  have hlocks := B.notSynchronized
  have hS : va_S jA s.heap s.heap [] := va_S.rf
  have hl := lv_entry ([.ref q]) (n := 1) (Nat.le_of_ble_eq_true rfl)
  rw [lg_entry_eq]
  generalize (lg_sl ([.ref q]) ++ List.replicate (1 - (lg_sl ([.ref q])).length) Slot.unset).toArray = ls at hl ⊢
  have hl : lv_has ls 1 [(0, .ref q)] := hl
  refine lv_aload_n hx hb (show decode mS_length.2.1 0 = .ok (.aload_n 0, 1) by decide +kernel) rfl (lv_at hl 0 rfl) ?_
  refine vk_getf hx hb h3 hS hown (hg (.fieldLink jS 9 jS "value" "[B") (by decide +kernel)) (fun _ h9 => h9) (show decode mS_length.2.1 1 = .ok (.getfield 9, 3) by decide +kernel) ?_
  refine va_tlen hx hb h4 hS rfl (show decode mS_length.2.1 4 = .ok (.arraylength, 1) by decide +kernel) ?_
  refine lv_aload_n hx hb (show decode mS_length.2.1 5 = .ok (.aload_n 0, 1) by decide +kernel) rfl (lv_at hl 0 rfl) ?_
  refine va_calli (va_runV (C := jS) (n := 0) (As := []) (rest := [.int (Int32.ofNat bs.length)]) ⟨hx, hb, hml, hown, hg⟩ (cS_coder (q := q) (v := v) (bs := bs)) (cwV 0 hg (bl_good (pre := [.methodLink jS 335 mS_coder.1, .instanceMethod mS_coder.1, .selects jS mS_coder.1 mS_coder.1, .initialized jS]) (by decide +kernel) (by decide +kernel)) (bl_wsm_eq rfl) rfl rfl ⟨rfl, by decide, by decide, by decide +kernel⟩ ⟨Nat.le_of_ble_eq_true rfl, Nat.le_of_ble_eq_true rfl⟩) ⟨js_blind, va_Orecv h1 hS, fun U hU hW => ⟨rfl, (show js jA q v bs U U.heap by rw [hU]; exact js.moved hW.alike hj)⟩⟩ rfl rfl hl.1 rfl (lv_room (Nat.le_of_ble_eq_true rfl)) (show decode mS_length.2.1 6 = .ok (.invokevirtual 335, 3) by decide +kernel) ⟨Nat.le_of_ble_eq_true rfl, Nat.le_of_ble_eq_true rfl⟩) hS (fun _ _ h => h) (fun _ h => h) (fun r u t H1 locs1 ht hvm hr0 hB hz hk hS1 => ?_)
  subst hr0
  refine lv_ishr hx hb (show decode mS_length.2.1 9 = .ok (.ishr, 1) by decide +kernel) ?_
  refine lv_topi (fun r er => ?_)
  have er2 : r = Int32.ofNat bs.length := by
    rw [er, show ((0 : Int32) &&& 31) = 0 from by decide]
    first | exact Int32.shiftRight_zero | simp
  subst er2
  exact W.iret hx hb hr (fun t ht hW => ⟨⟨_, (), rfl, rfl, trivial⟩, hS1.F ht⟩) (fun q hq => (hS1.2.2 q hq)) (show decode mS_length.2.1 10 = .ok (.ireturn, 1) by decide +kernel)
