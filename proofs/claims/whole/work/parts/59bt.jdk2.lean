/-! ===== the JDK's own: isLatin1, checkIndex, charAt ===== -/
def mS_lat : bl_MR := (⟨jS, "isLatin1", "()Z"⟩, prog_22_method_154_code, 1, some .boolean, [])
def mP_chk : bl_MR := (⟨"jdk/internal/util/Preconditions", "checkIndex", "(IILjava/util/function/BiFunction;)I"⟩, prog_29_method_11_code, 3, some .int, [])
def mS_chk : bl_MR := (⟨jS, "checkIndex", "(II)V"⟩, prog_22_method_155_code, 2, none, [])
def mL1_at : bl_MR := (⟨"java/lang/StringLatin1", "charAt", "([BI)C"⟩, prog_23_method_2_code, 2, some .char, [])
def mS_at : bl_MR := (⟨jS, "charAt", "(I)C"⟩, prog_22_method_56_code, 2, some .char, [])
theorem cS_lat {l : Launch} {q v : Nat} {bs : List Int32} : Met l mS_lat.1 (bl_wsm mS_lat) { frames := 0, cells := 0, slots := 0, locals := 0 } (va_Pc [.ref q] (fun U => js jA q v bs U U.heap)) (va_Qi (fun (r : Int32) (_ : Unit) => r = 1) (fun _ _ => True) jA) 0 0 jA := by
  refine Met.ofW (cc := mS_lat.2.1) (maxL := 1) (ret := some .boolean) (by decide) (bl_wsm_eq rfl) ?_
  intro p e s m args below meth c s₁ B hml hv
  obtain ⟨rfl, h1, h2, h3, h4, h5, h6⟩ := hv
  have hx := B.exec
  have hb := B.bytes
  have hr := B.returns
  have hts := atoms_spec (ws := bl_wsm mS_lat) B.pre
  have hg : ∀ w ∈ bl_gw, w.before _ s = true := fun w hw => hts w (bl_gw_tl w hw)
  have hown : s.vm.findClass mS_lat.1.cls = some m.cls := findClass_of_methodNamed B.named
  have hlocks := B.notSynchronized
  have hS : va_S jA s.heap s.heap [] := va_S.rf
  have hl := lv_entry ([.ref q]) (n := 1) (Nat.le_of_ble_eq_true rfl)
  rw [lg_entry_eq]
  generalize (lg_sl ([.ref q]) ++ List.replicate (1 - (lg_sl ([.ref q])).length) Slot.unset).toArray = ls at hl ⊢
  have hl : lv_has ls 1 [(0, .ref q)] := hl
  refine va_gets hx hb h5 hS hown (hg (.fieldLink jS 38 jS "COMPACT_STRINGS" "Z") (by decide +kernel)) (fun _ h9 => h9) (show decode mS_lat.2.1 0 = .ok (.getstatic 38, 3) by decide +kernel) ?_
  refine lv_if_eq (tgt := 17) hx hb (show decode mS_lat.2.1 3 = .ok (.ifCond .eq 14, 3) by decide +kernel) rfl (fun h => absurd h (by decide)) (fun _ => ?_)
  refine lv_aload_n hx hb (show decode mS_lat.2.1 6 = .ok (.aload_n 0, 1) by decide +kernel) rfl (lv_at hl 0 rfl) ?_
  refine vk_getf hx hb h2 hS hown (hg (.fieldLink jS 15 jS "coder" "B") (by decide +kernel)) (fun _ h9 => h9) (show decode mS_lat.2.1 7 = .ok (.getfield 15, 3) by decide +kernel) ?_
  refine lv_if_ne (tgt := 17) hx hb (show decode mS_lat.2.1 10 = .ok (.ifCond .ne 7, 3) by decide +kernel) rfl (fun h => absurd rfl h) (fun _ => ?_)
  refine lv_iconst (v := 1) hx hb (show decode mS_lat.2.1 13 = .ok (.iconst 1, 1) by decide +kernel) rfl ?_
  refine lv_goto (tgt := 18) hx hb (show decode mS_lat.2.1 14 = .ok (.goto 4, 3) by decide +kernel) rfl ?_
  exact W.zret (ty := .boolean) hx hb hr (by decide) (fun t ht hW => ⟨⟨1, (), rfl, rfl, trivial⟩, hS.F ht⟩) (fun q hq => absurd hq List.not_mem_nil) (show decode mS_lat.2.1 18 = .ok (.ireturn, 1) by decide +kernel)
theorem cP_chkN {l : Launch} {k n z : Nat} (hk : k < n) (hn : n < 2 ^ 31) : Met l mP_chk.1 (bl_wsm mP_chk) { frames := 0, cells := 0, slots := 0, locals := 0 } (va_Pc [.int (nI k), .int (nI n), .null] (fun _ => True)) (va_Qi (fun (r : Int32) (_ : Unit) => True) (fun _ _ => True) jA) 0 0 jA := by
  refine Met.ofW (cc := mP_chk.2.1) (maxL := 3) (ret := some .int) (by decide) (bl_wsm_eq rfl) ?_
  intro p e s m args below meth c s₁ B hml hv
  obtain ⟨rfl, -⟩ := hv
  have hx := B.exec
  have hb := B.bytes
  have hr := B.returns
  have hts := atoms_spec (ws := bl_wsm mP_chk) B.pre
  have hg : ∀ w ∈ bl_gw, w.before _ s = true := fun w hw => hts w (bl_gw_tl w hw)
  have hown : s.vm.findClass mP_chk.1.cls = some m.cls := findClass_of_methodNamed B.named
  have hlocks := B.notSynchronized
  have hS : va_S jA s.heap s.heap [] := va_S.rf
  have hl := lv_entry ([.int (nI k), .int (nI n), .null]) (n := 3) (Nat.le_of_ble_eq_true rfl)
  rw [lg_entry_eq]
  generalize (lg_sl ([.int (nI k), .int (nI n), .null]) ++ List.replicate (3 - (lg_sl ([.int (nI k), .int (nI n), .null])).length) Slot.unset).toArray = ls at hl ⊢
  have hl : lv_has ls 3 [(0, .int (nI k)), (1, .int (nI n)), (2, .null)] := hl
  refine lv_iload_n hx hb (show decode mP_chk.2.1 0 = .ok (.iload_n 0, 1) by decide +kernel) rfl (lv_at hl 0 rfl) ?_
  refine lv_if_lt (tgt := 9) hx hb (show decode mP_chk.2.1 1 = .ok (.ifCond .lt 8, 3) by decide +kernel) rfl (fun h => absurd h (nI_pos (by omega))) (fun _ => ?_)
  refine lv_iload_n hx hb (show decode mP_chk.2.1 4 = .ok (.iload_n 0, 1) by decide +kernel) rfl (lv_at hl 0 rfl) ?_
  refine lv_iload_n hx hb (show decode mP_chk.2.1 5 = .ok (.iload_n 1, 1) by decide +kernel) rfl (lv_at hl 1 rfl) ?_
  refine lv_icmp_lt (tgt := 16) hx hb (show decode mP_chk.2.1 6 = .ok (.if_icmp .lt 10, 3) by decide +kernel) rfl (fun _ => ?_) (fun h => absurd (nI_lt hk hn) h)
  refine lv_iload_n hx hb (show decode mP_chk.2.1 16 = .ok (.iload_n 0, 1) by decide +kernel) rfl (lv_at hl 0 rfl) ?_
  exact W.iret hx hb hr (fun t ht hW => ⟨⟨_, (), rfl, trivial, trivial⟩, hS.F ht⟩) (fun q hq => absurd hq List.not_mem_nil) (show decode mP_chk.2.1 17 = .ok (.ireturn, 1) by decide +kernel)
theorem cP_chkR {l : Launch} {k n z : Nat} (hk : k < n) (hn : n < 2 ^ 31) : Met l mP_chk.1 (bl_wsm mP_chk) { frames := 0, cells := 0, slots := 0, locals := 0 } (va_Pc [.int (nI k), .int (nI n), .ref z] (fun _ => True)) (va_Qi (fun (r : Int32) (_ : Unit) => True) (fun _ _ => True) jA) 0 0 jA := by
  refine Met.ofW (cc := mP_chk.2.1) (maxL := 3) (ret := some .int) (by decide) (bl_wsm_eq rfl) ?_
  intro p e s m args below meth c s₁ B hml hv
  obtain ⟨rfl, -⟩ := hv
  have hx := B.exec
  have hb := B.bytes
  have hr := B.returns
  have hts := atoms_spec (ws := bl_wsm mP_chk) B.pre
  have hg : ∀ w ∈ bl_gw, w.before _ s = true := fun w hw => hts w (bl_gw_tl w hw)
  have hown : s.vm.findClass mP_chk.1.cls = some m.cls := findClass_of_methodNamed B.named
  have hlocks := B.notSynchronized
  have hS : va_S jA s.heap s.heap [] := va_S.rf
  have hl := lv_entry ([.int (nI k), .int (nI n), .ref z]) (n := 3) (Nat.le_of_ble_eq_true rfl)
  rw [lg_entry_eq]
  generalize (lg_sl ([.int (nI k), .int (nI n), .ref z]) ++ List.replicate (3 - (lg_sl ([.int (nI k), .int (nI n), .ref z])).length) Slot.unset).toArray = ls at hl ⊢
  have hl : lv_has ls 3 [(0, .int (nI k)), (1, .int (nI n)), (2, .ref z)] := hl
  refine lv_iload_n hx hb (show decode mP_chk.2.1 0 = .ok (.iload_n 0, 1) by decide +kernel) rfl (lv_at hl 0 rfl) ?_
  refine lv_if_lt (tgt := 9) hx hb (show decode mP_chk.2.1 1 = .ok (.ifCond .lt 8, 3) by decide +kernel) rfl (fun h => absurd h (nI_pos (by omega))) (fun _ => ?_)
  refine lv_iload_n hx hb (show decode mP_chk.2.1 4 = .ok (.iload_n 0, 1) by decide +kernel) rfl (lv_at hl 0 rfl) ?_
  refine lv_iload_n hx hb (show decode mP_chk.2.1 5 = .ok (.iload_n 1, 1) by decide +kernel) rfl (lv_at hl 1 rfl) ?_
  refine lv_icmp_lt (tgt := 16) hx hb (show decode mP_chk.2.1 6 = .ok (.if_icmp .lt 10, 3) by decide +kernel) rfl (fun _ => ?_) (fun h => absurd (nI_lt hk hn) h)
  refine lv_iload_n hx hb (show decode mP_chk.2.1 16 = .ok (.iload_n 0, 1) by decide +kernel) rfl (lv_at hl 0 rfl) ?_
  exact W.iret hx hb hr (fun t ht hW => ⟨⟨_, (), rfl, trivial, trivial⟩, hS.F ht⟩) (fun q hq => absurd hq List.not_mem_nil) (show decode mP_chk.2.1 17 = .ok (.ireturn, 1) by decide +kernel)
theorem zq_blind {av : List Value} : FrameBlind (va_Pc av (fun U => va_Zq "jdk/internal/util/Preconditions" "SIOOBE_FORMATTER" "Ljava/util/function/BiFunction;" jA U U.heap)) := fun a U g mk h => ⟨h.1, va_Zq.moved (u := U) (U := U.calling g mk a) (Vm.Alike.refl U.vm) h.2⟩
theorem tr_blind {av : List Value} : FrameBlind (va_Pc av (fun _ => True)) := fun a U g mk h => ⟨h.1, trivial⟩
theorem cS_chk {l : Launch} {k n : Nat} (hk : k < n) (hn : n < 2 ^ 31) : Met l mS_chk.1 (bl_wsm mS_chk) { frames := 1, cells := 0, slots := 0, locals := 22 } (va_Pc [.int (nI k), .int (nI n)] (fun U => va_Zq "jdk/internal/util/Preconditions" "SIOOBE_FORMATTER" "Ljava/util/function/BiFunction;" jA U U.heap)) (va_Qv (fun (_ : Unit) => True) (fun _ _ => True) jA) 0 0 jA := by
  refine Met.ofW (cc := mS_chk.2.1) (maxL := 2) (ret := none) (by decide) (bl_wsm_eq rfl) ?_
  intro p e s m args below meth c s₁ B hml hv
  obtain ⟨rfl, h6⟩ := hv
  have hx := B.exec
  have hb := B.bytes
  have hr := B.returns
  have hts := atoms_spec (ws := bl_wsm mS_chk) B.pre
  have hg : ∀ w ∈ bl_gw, w.before _ s = true := fun w hw => hts w (bl_gw_tl w hw)
  have hown : s.vm.findClass mS_chk.1.cls = some m.cls := findClass_of_methodNamed B.named
  have hlocks := B.notSynchronized
  have hS : va_S jA s.heap s.heap [] := va_S.rf
  have hl := lv_entry ([.int (nI k), .int (nI n)]) (n := 2) (Nat.le_of_ble_eq_true rfl)
  rw [lg_entry_eq]
  generalize (lg_sl ([.int (nI k), .int (nI n)]) ++ List.replicate (2 - (lg_sl ([.int (nI k), .int (nI n)])).length) Slot.unset).toArray = ls at hl ⊢
  have hl : lv_has ls 2 [(0, .int (nI k)), (1, .int (nI n))] := hl
  refine lv_iload_n hx hb (show decode mS_chk.2.1 0 = .ok (.iload_n 0, 1) by decide +kernel) rfl (lv_at hl 0 rfl) ?_
  refine lv_iload_n hx hb (show decode mS_chk.2.1 1 = .ok (.iload_n 1, 1) by decide +kernel) rfl (lv_at hl 1 rfl) ?_
  have hG : GoodIn bl_gw (va_wsS jS 1059 mP_chk.1 (bl_wsm mP_chk)) := bl_good (pre := [.methodLink jS 1059 mP_chk.1, .static mP_chk.1, .initialized mP_chk.1.cls]) (by decide +kernel) (by decide +kernel)
  rcases h6 with h6 | ⟨z, h6⟩
  · refine va_gets hx hb h6 hS hown (hg (.fieldLink jS 1053 "jdk/internal/util/Preconditions" "SIOOBE_FORMATTER" "Ljava/util/function/BiFunction;") (by decide +kernel)) (fun _ h9 => h9) (show decode mS_chk.2.1 2 = .ok (.getstatic 1053, 3) by decide +kernel) ?_
    refine va_calli (va_runS (n := 3) (As := [.int (nI k), .int (nI n), .null]) (rest := []) ⟨hx, hb, hml, hown, hg⟩ (cP_chkN (z := 0) hk hn) (va_cwS 3 hg hG (bl_wsm_eq rfl) rfl rfl ⟨by decide, by decide, by decide +kernel⟩ ⟨Nat.le_of_ble_eq_true rfl, Nat.le_of_ble_eq_true rfl⟩) ⟨tr_blind, fun U hU hW => ⟨rfl, trivial⟩⟩ rfl rfl hl.1 rfl (lv_room (Nat.le_of_ble_eq_true rfl)) (show decode mS_chk.2.1 5 = .ok (.invokestatic 1059, 3) by decide +kernel) ⟨Nat.le_of_ble_eq_true rfl, Nat.le_of_ble_eq_true rfl⟩) hS (fun _ _ h => h) (fun _ h => h) (fun r u t H1 locs1 ht hvm hr0 hB hz hk1 hS1 => ?_)
    refine lv_pop hx hb (show decode mS_chk.2.1 8 = .ok (.pop, 1) by decide +kernel) rfl ?_
    exact W.vret hx hb hr (fun t ht hW => ⟨⟨(), rfl, trivial, trivial⟩, hS1.F ht⟩) (fun q hq => (hS1.2.2 q hq)) (show decode mS_chk.2.1 9 = .ok (.return_, 1) by decide +kernel)
  · refine va_gets hx hb h6 hS hown (hg (.fieldLink jS 1053 "jdk/internal/util/Preconditions" "SIOOBE_FORMATTER" "Ljava/util/function/BiFunction;") (by decide +kernel)) (fun _ h9 => h9) (show decode mS_chk.2.1 2 = .ok (.getstatic 1053, 3) by decide +kernel) ?_
    refine va_calli (va_runS (n := 3) (As := [.int (nI k), .int (nI n), .ref z]) (rest := []) ⟨hx, hb, hml, hown, hg⟩ (cP_chkR hk hn) (va_cwS 3 hg hG (bl_wsm_eq rfl) rfl rfl ⟨by decide, by decide, by decide +kernel⟩ ⟨Nat.le_of_ble_eq_true rfl, Nat.le_of_ble_eq_true rfl⟩) ⟨tr_blind, fun U hU hW => ⟨rfl, trivial⟩⟩ rfl rfl hl.1 rfl (lv_room (Nat.le_of_ble_eq_true rfl)) (show decode mS_chk.2.1 5 = .ok (.invokestatic 1059, 3) by decide +kernel) ⟨Nat.le_of_ble_eq_true rfl, Nat.le_of_ble_eq_true rfl⟩) hS (fun _ _ h => h) (fun _ h => h) (fun r u t H1 locs1 ht hvm hr0 hB hz hk1 hS1 => ?_)
    refine lv_pop hx hb (show decode mS_chk.2.1 8 = .ok (.pop, 1) by decide +kernel) rfl ?_
    exact W.vret hx hb hr (fun t ht hW => ⟨⟨(), rfl, trivial, trivial⟩, hS1.F ht⟩) (fun q hq => (hS1.2.2 q hq)) (show decode mS_chk.2.1 9 = .ok (.return_, 1) by decide +kernel)
theorem cL1_at {l : Launch} {q v k : Nat} {bs : List Int32} (hk : k < bs.length) (hn : bs.length < 2 ^ 31) (hbv : ((bs.getD k 0 &&& 255).toUInt32 % 65536).toInt32 = bs.getD k 0) (hnr : narrow .char (.int (bs.getD k 0)) = .int (bs.getD k 0)) : Met l mL1_at.1 (bl_wsm mL1_at) { frames := 2, cells := 0, slots := 0, locals := 43 } (va_Pc [.ref v, .int (nI k)] (fun U => js jA q v bs U U.heap)) (va_Qi (fun (r : Int32) (_ : Unit) => r = bs.getD k 0) (fun _ _ => True) jA) 0 0 jA := by
  refine Met.ofW (cc := mL1_at.2.1) (maxL := 2) (ret := some .char) (by decide) (bl_wsm_eq rfl) ?_
  intro p e s m args below meth c s₁ B hml hv
  obtain ⟨rfl, hj⟩ := hv
  obtain ⟨h1, h2, h3, h4, h5, h6⟩ := id hj
  have hx := B.exec
  have hb := B.bytes
  have hr := B.returns
  have hts := atoms_spec (ws := bl_wsm mL1_at) B.pre
  have hg : ∀ w ∈ bl_gw, w.before _ s = true := fun w hw => hts w (bl_gw_tl w hw)
  have hown : s.vm.findClass mL1_at.1.cls = some m.cls := findClass_of_methodNamed B.named
  have hlocks := B.notSynchronized
  have hS : va_S jA s.heap s.heap [] := va_S.rf
  have hl := lv_entry ([.ref v, .int (nI k)]) (n := 2) (Nat.le_of_ble_eq_true rfl)
  rw [lg_entry_eq]
  generalize (lg_sl ([.ref v, .int (nI k)]) ++ List.replicate (2 - (lg_sl ([.ref v, .int (nI k)])).length) Slot.unset).toArray = ls at hl ⊢
  have hl : lv_has ls 2 [(0, .ref v), (1, .int (nI k))] := hl
  refine lv_iload_n hx hb (show decode mL1_at.2.1 0 = .ok (.iload_n 1, 1) by decide +kernel) rfl (lv_at hl 1 rfl) ?_
  refine lv_aload_n hx hb (show decode mL1_at.2.1 1 = .ok (.aload_n 0, 1) by decide +kernel) rfl (lv_at hl 0 rfl) ?_
  refine va_tlen hx hb h4 hS rfl (show decode mL1_at.2.1 2 = .ok (.arraylength, 1) by decide +kernel) ?_
  have hG : GoodIn bl_gw (va_wsS "java/lang/StringLatin1" 9 mS_chk.1 (bl_wsm mS_chk)) := bl_good (pre := [.methodLink "java/lang/StringLatin1" 9 mS_chk.1, .static mS_chk.1, .initialized mS_chk.1.cls]) (by decide +kernel) (by decide +kernel)
  refine va_callv (va_runS (n := 2) (As := [.int (nI k), .int (nI bs.length)]) (rest := []) ⟨hx, hb, hml, hown, hg⟩ (cS_chk hk hn) (va_cwS 2 hg hG (bl_wsm_eq rfl) rfl rfl ⟨by decide, by decide, by decide +kernel⟩ ⟨Nat.le_of_ble_eq_true rfl, Nat.le_of_ble_eq_true rfl⟩) ⟨zq_blind, fun U hU hW => ⟨rfl, (show va_Zq _ _ _ jA U U.heap by rw [hU]; exact va_Zq.moved hW.alike h6)⟩⟩ rfl rfl hl.1 rfl (lv_room (Nat.le_of_ble_eq_true rfl)) (show decode mL1_at.2.1 3 = .ok (.invokestatic 9, 3) by decide +kernel) ⟨Nat.le_of_ble_eq_true rfl, Nat.le_of_ble_eq_true rfl⟩) hS (fun _ _ h => h) (fun _ h => h) (fun u t H1 locs1 ht hvm hr0 hB hz hk1 hS1 => ?_)
  refine lv_aload_n hx hb (show decode mL1_at.2.1 6 = .ok (.aload_n 0, 1) by decide +kernel) rfl (lv_at hl 0 rfl) ?_
  refine lv_iload_n hx hb (show decode mL1_at.2.1 7 = .ok (.iload_n 1, 1) by decide +kernel) rfl (lv_at hl 1 rfl) ?_
  refine va_tb (v := .int (bs.getD k 0)) hx hb h4 hS1 (vp_in_nI hk hn) (by rw [nI_clamp (by omega)]) (show decode mL1_at.2.1 8 = .ok (.baload, 1) by decide +kernel) ?_
  refine lv_sipush (v := 255) hx hb (show decode mL1_at.2.1 9 = .ok (.sipush 255, 3) by decide +kernel) (by decide) ?_
  refine lv_iand hx hb (show decode mL1_at.2.1 12 = .ok (.iand, 1) by decide +kernel) ?_
  refine lv_i2c (v := bs.getD k 0) hx hb (show decode mL1_at.2.1 13 = .ok (.i2c, 1) by decide +kernel) hbv ?_
  exact W.zret (ty := .char) hx hb hr hnr (fun t ht hW => ⟨⟨_, (), rfl, rfl, trivial⟩, hS1.F ht⟩) (fun q hq => (hS1.2.2 q hq)) (show decode mL1_at.2.1 14 = .ok (.ireturn, 1) by decide +kernel)
theorem cS_at {l : Launch} {q v k : Nat} {bs : List Int32} (hk : k < bs.length) (hn : bs.length < 2 ^ 31) (hbv : ((bs.getD k 0 &&& 255).toUInt32 % 65536).toInt32 = bs.getD k 0) (hnr : narrow .char (.int (bs.getD k 0)) = .int (bs.getD k 0)) : Met l mS_at.1 (bl_wsm mS_at) { frames := 3, cells := 0, slots := 0, locals := 64 } (va_Pc [.ref q, .int (nI k)] (fun U => js jA q v bs U U.heap)) (va_Qi (fun (r : Int32) (_ : Unit) => r = bs.getD k 0) (fun _ _ => True) jA) 0 0 jA := by
  refine Met.ofW (cc := mS_at.2.1) (maxL := 2) (ret := some .char) (by decide) (bl_wsm_eq rfl) ?_
  intro p e s m args below meth c s₁ B hml hv
  obtain ⟨rfl, hj⟩ := hv
  obtain ⟨h1, h2, h3, h4, h5, h6⟩ := id hj
  have hx := B.exec
  have hb := B.bytes
  have hr := B.returns
  have hts := atoms_spec (ws := bl_wsm mS_at) B.pre
  have hg : ∀ w ∈ bl_gw, w.before _ s = true := fun w hw => hts w (bl_gw_tl w hw)
  have hown : s.vm.findClass mS_at.1.cls = some m.cls := findClass_of_methodNamed B.named
  have hlocks := B.notSynchronized
  have hS : va_S jA s.heap s.heap [] := va_S.rf
  have hl := lv_entry ([.ref q, .int (nI k)]) (n := 2) (Nat.le_of_ble_eq_true rfl)
  rw [lg_entry_eq]
  generalize (lg_sl ([.ref q, .int (nI k)]) ++ List.replicate (2 - (lg_sl ([.ref q, .int (nI k)])).length) Slot.unset).toArray = ls at hl ⊢
  have hl : lv_has ls 2 [(0, .ref q), (1, .int (nI k))] := hl
  refine lv_aload_n hx hb (show decode mS_at.2.1 0 = .ok (.aload_n 0, 1) by decide +kernel) rfl (lv_at hl 0 rfl) ?_
  refine va_calli (va_runV (C := jS) (n := 0) (As := []) (rest := []) ⟨hx, hb, hml, hown, hg⟩ (cS_lat (q := q) (v := v) (bs := bs)) (cwV 0 hg (bl_good (pre := [.methodLink jS 492 mS_lat.1, .instanceMethod mS_lat.1, .selects jS mS_lat.1 mS_lat.1, .initialized jS]) (by decide +kernel) (by decide +kernel)) (bl_wsm_eq rfl) rfl rfl ⟨rfl, by decide, by decide, by decide +kernel⟩ ⟨Nat.le_of_ble_eq_true rfl, Nat.le_of_ble_eq_true rfl⟩) ⟨js_blind, va_Orecv h1 hS, fun U hU hW => ⟨rfl, (show js jA q v bs U U.heap by rw [hU]; exact js.moved hW.alike hj)⟩⟩ rfl rfl hl.1 rfl (lv_room (Nat.le_of_ble_eq_true rfl)) (show decode mS_at.2.1 1 = .ok (.invokevirtual 492, 3) by decide +kernel) ⟨Nat.le_of_ble_eq_true rfl, Nat.le_of_ble_eq_true rfl⟩) hS (fun _ _ h => h) (fun _ h => h) (fun r u t H1 locs1 ht hvm hr0 hB hz hk1 hS1 => ?_)
  subst hr0
  refine lv_if_eq (tgt := 16) hx hb (show decode mS_at.2.1 4 = .ok (.ifCond .eq 12, 3) by decide +kernel) rfl (fun h => absurd h (by decide)) (fun _ => ?_)
  refine lv_aload_n hx hb (show decode mS_at.2.1 7 = .ok (.aload_n 0, 1) by decide +kernel) rfl (lv_at hl 0 rfl) ?_
  refine vk_getf hx hb h3 hS1 hown (hg (.fieldLink jS 9 jS "value" "[B") (by decide +kernel)) (fun _ h9 => h9) (show decode mS_at.2.1 8 = .ok (.getfield 9, 3) by decide +kernel) ?_
  refine lv_iload_n hx hb (show decode mS_at.2.1 11 = .ok (.iload_n 1, 1) by decide +kernel) rfl (lv_at hl 1 rfl) ?_
  have hG : GoodIn bl_gw (va_wsS jS 495 mL1_at.1 (bl_wsm mL1_at)) := bl_good (pre := [.methodLink jS 495 mL1_at.1, .static mL1_at.1, .initialized mL1_at.1.cls]) (by decide +kernel) (by decide +kernel)
  have hj1 : js jA q v bs s H1 := hj.kept hk1
  refine va_calli (va_runS (n := 2) (As := [.ref v, .int (nI k)]) (rest := []) ⟨hx, hb, hml, hown, hg⟩ (cL1_at (q := q) hk hn hbv hnr) (va_cwS 2 hg hG (bl_wsm_eq rfl) rfl rfl ⟨by decide, by decide, by decide +kernel⟩ ⟨Nat.le_of_ble_eq_true rfl, Nat.le_of_ble_eq_true rfl⟩) ⟨js_blind, fun U hU hW => ⟨rfl, (show js jA q v bs U U.heap by rw [hU]; exact js.moved hW.alike hj1)⟩⟩ rfl rfl hl.1 rfl (lv_room (Nat.le_of_ble_eq_true rfl)) (show decode mS_at.2.1 12 = .ok (.invokestatic 495, 3) by decide +kernel) ⟨Nat.le_of_ble_eq_true rfl, Nat.le_of_ble_eq_true rfl⟩) hS1 (fun _ _ h => h) (fun _ h => h) (fun r u t2 H2 locs2 ht2 hvm2 hr2 hB2 hz2 hk2 hS2 => ?_)
  subst hr2
  exact W.zret (ty := .char) hx hb hr hnr (fun t ht hW => ⟨⟨_, (), rfl, rfl, trivial⟩, hS2.F ht⟩) (fun q hq => (hS2.2.2 q hq)) (show decode mS_at.2.1 15 = .ok (.ireturn, 1) by decide +kernel)
