section KVCT
variable {s : State} {D : va_G} {ci : Nat → Nat}
theorem kv_cls0 {cA : ClassId} (hK : va_K D vwCl (kv_tys ci ++ [(cA, .int)]) s) : cA = ci 0 := Option.some.inj ((hK.2 4 _ rfl).2.symm.trans (hK.2 0 _ rfl).2)
theorem kv_cls3 {cA : ClassId} (hK : va_K D vwCl (kv_tys ci ++ [(cA, .array .int)]) s) : cA = ci 3 := Option.some.inj ((hK.2 4 _ rfl).2.symm.trans (hK.2 3 _ rfl).2)
theorem kv_mid {X Y : va_W} {x : Nat × va_E} : ((X ++ [x]) ++ Y)[X.length]? = some x := by
  rw [List.getElem?_append_left (by rw [List.length_append]; exact Nat.lt_succ_self _)]
  exact kv_last
theorem kv_mid_set {X Y : va_W} {x y : Nat × va_E} : ((X ++ [x]) ++ Y).set X.length y = (X ++ [y]) ++ Y := by
  rw [List.set_append_left _ _ (by rw [List.length_append]; exact Nat.lt_succ_self _), kv_last_set]
end KVCT

set_option maxHeartbeats 4000000 in
set_option maxRecDepth 100000 in
theorem c_K_AC (l : Launch) (D : va_G) (ci : Nat → Nat) (w0 : va_W) (q : Nat) (sz : Nat) : Met l yJxa1e45_init_da8c8 wsJxa1e45_init_da8c8 ({ frames := 1, cells := 0, slots := 0, locals := 12 } : Room) (va_Pc [.ref q] (kv_pre D ci w0 sz)) (va_Qv (fun (_ : Unit) => True) (fun u t => kv_post D w0 sz w0 t) (va_A w0 sz)) 0 0 (va_A w0 sz) := by
  refine Met.ofW (cc := cJxa1e45_init_da8c8) (maxL := 1) (ret := none) (by decide) rfl ?_
  intro p en s m args below meth c s₁ B hml hv
  obtain ⟨hv0, hsz, hP, hK, hD0⟩ := hv
  have hx := B.exec
  have hb := B.bytes
  have hr := B.returns
  have hts := atoms_spec (ws := wsJxa1e45_init_da8c8) B.pre
  have hown : s.vm.findClass RJxa1e45 = some m.cls := findClass_of_methodNamed B.named
  have hlocks := B.notSynchronized
  subst hsz
  have hD := hD0.self (sz := s.heap.size)
  generalize hAe : va_A w0 s.heap.size = A at hD ⊢
  have hA : ∀ q : Nat, s.heap.size ≤ q → A q := fun q h => by rw [← hAe]; exact Or.inr h
  have hS : va_S A s.heap s.heap [] := va_S.rf
  have hP : va_P D vwCl w0 s.heap := hP
  refine W.eq (show entryFrame m args 1 = _ from by rw [hv0, lg_entry_eq]) ?_
  have hl := lv_entry ([.ref q]) (n := 1) (Nat.le_of_ble_eq_true rfl)
  generalize (lg_sl ([.ref q]) ++ List.replicate (1 - (lg_sl ([.ref q])).length) Slot.unset).toArray = ls at hl ⊢
  have hl : lv_has ls 1 [(0, .ref q)] := hl
  refine lv_aload_n hx hb dJxa1e45_init_da8c8_0 rfl (lv_at hl 0 rfl) ?_
  refine W.objInit hx hb hown (hts (.methodLink RJxa1e45 1 objectInit) (by decide +kernel)) (hts (.instanceMethod objectInit) (by decide +kernel)) (hts (.code objectInit ⟨#[0xb1]⟩ 1 none) (by decide +kernel)) rfl (by rw [hml]; exact hl.1) rfl dJxa1e45_init_da8c8_1 (Nat.le_of_ble_eq_true rfl) (Nat.le_of_ble_eq_true rfl) ?_
  refine W.eq (g2 := F0 m 4 ls []) rfl ?_
  exact W.vret hx hb hr (fun t ht hW => ⟨⟨(), rfl, trivial, ⟨by rw [ht]; exact hP, by rw [hAe]; exact hD⟩⟩, hS.F ht⟩) hS.2.2 dJxa1e45_init_da8c8_4

set_option maxHeartbeats 4000000 in
set_option maxRecDepth 100000 in
theorem c_K_AL (l : Launch) (D : va_G) (ci : Nat → Nat) (X : va_W) (q : Nat) (sz : Nat) : Met l yJxc12de_init_da8c8 wsJxc12de_init_da8c8 ({ frames := 2, cells := 0, slots := 0, locals := 32 } : Room) (va_Pc [.ref q] (kv_pre D ci (X ++ [((q, .inr (0, [.int 0, .null, .int 0])) : Nat × va_E)]) sz)) (va_Qv (fun (_ : Unit) => True) (fun u t => kv_post D (X ++ [((q, .inr (0, [.int 0, .null, .int 0])) : Nat × va_E)]) sz (X ++ [((q, .inr (0, [.int 0, .null, .int 0])) : Nat × va_E)]) t) (va_A (X ++ [((q, .inr (0, [.int 0, .null, .int 0])) : Nat × va_E)]) sz)) 0 0 (va_A (X ++ [((q, .inr (0, [.int 0, .null, .int 0])) : Nat × va_E)]) sz) := by
  refine Met.ofW (cc := cJxc12de_init_da8c8) (maxL := 1) (ret := none) (by decide) rfl ?_
  intro p en s m args below meth c s₁ B hml hv
  obtain ⟨hv0, hsz, hP, hK, hD0⟩ := hv
  have hx := B.exec
  have hb := B.bytes
  have hr := B.returns
  have hts := atoms_spec (ws := wsJxc12de_init_da8c8) B.pre
  have hown : s.vm.findClass RJxc12de = some m.cls := findClass_of_methodNamed B.named
  have hlocks := B.notSynchronized
  subst hsz
  have hD := hD0.self (sz := s.heap.size)
  generalize hAe : va_A (X ++ [((q, .inr (0, [.int 0, .null, .int 0])) : Nat × va_E)]) s.heap.size = A at hD ⊢
  have hA : ∀ q : Nat, s.heap.size ≤ q → A q := fun q h => by rw [← hAe]; exact Or.inr h
  have hS : va_S A s.heap s.heap [] := va_S.rf
  have hP : va_P D vwCl (X ++ [((q, .inr (0, [.int 0, .null, .int 0])) : Nat × va_E)]) s.heap := hP
  have hinRJx4a65c : ∀ w ∈ u_ws RJx4a65c TJx4a65c 3, w ∈ wsJxc12de_init_da8c8 := by decide +kernel
  refine W.eq (show entryFrame m args 1 = _ from by rw [hv0, lg_entry_eq]) ?_
  have hl := lv_entry ([.ref q]) (n := 1) (Nat.le_of_ble_eq_true rfl)
  generalize (lg_sl ([.ref q]) ++ List.replicate (1 - (lg_sl ([.ref q])).length) Slot.unset).toArray = ls at hl ⊢
  have hl : lv_has ls 1 [(0, .ref q)] := hl
  refine lv_aload_n hx hb dJxc12de_init_da8c8_0 rfl (lv_at hl 0 rfl) ?_
  refine kv_callv (va_runI (As := []) (rest := []) ⟨hx, hb, hml, hown, hts⟩ (c_K_AC l D ci (X ++ [((q, .inr (0, [.int 0, .null, .int 0])) : Nat × va_E)]) q s.heap.size) (cwI 0 hts gJxc12de_init_da8c8_Jxa1e45_init_da8c8 rfl rfl rfl (hts (.initialized RJxa1e45) (by decide +kernel)) (hts (.methodLink RJxc12de 1 yJxa1e45_init_da8c8) (by decide +kernel)) (hts (.instanceMethod yJxa1e45_init_da8c8) (by decide +kernel)) rfl (by decide +kernel) ⟨Nat.le_of_ble_eq_true rfl, Nat.le_of_ble_eq_true rfl⟩) (kv_preS hK hP hD) rfl rfl hl.1 rfl (lv_room (Nat.le_of_ble_eq_true rfl)) dJxc12de_init_da8c8_1 ⟨Nat.le_of_ble_eq_true rfl, Nat.le_of_ble_eq_true rfl⟩) hD hS hA (fun _ H locs _ hP hD hS => ?_)
  refine lv_aload_n hx hb dJxc12de_init_da8c8_4 rfl (lv_at hl 0 rfl) ?_
  refine lv_iconst (v := 0) hx hb dJxc12de_init_da8c8_5 (by decide) ?_
  refine va_put (D := D) (ci := 0) (v := .int 0) (ty := .int) (C := RJx4a65c) (T := TJx4a65c) (N := 3) hx hb hts hinRJx4a65c tyJx4a65c tyJx4a65c_ok nmJx4a65c hown hK hP hD hS X.length kv_last rfl 0 (by decide) (hts (.fieldLink RJxc12de 7 "java/util/AbstractList" "modCount" "I") (by decide +kernel)) (fun _ h9 => h9) rfl (by decide +kernel) rfl rfl (Nat.le_of_ble_eq_true rfl) dJxc12de_init_da8c8_6 (fun H locs hP hD hS => ?_)
  have hP : va_P D vwCl (X ++ [((q, .inr (0, [.int 0, .null, .int 0])) : Nat × va_E)]) H := by rw [kv_last_set] at hP; exact hP
  have hD : va_D A (X ++ [((q, .inr (0, [.int 0, .null, .int 0])) : Nat × va_E)]) := by rw [kv_last_set] at hD; exact hD
  exact W.vret hx hb hr (fun t ht hW => ⟨⟨(), rfl, trivial, ⟨by rw [ht]; exact hP, by rw [hAe]; exact hD⟩⟩, hS.F ht⟩) hS.2.2 dJxc12de_init_da8c8_9

set_option maxHeartbeats 4000000 in
set_option maxRecDepth 100000 in
theorem c_K_ArrayList (l : Launch) (D : va_G) (ci : Nat → Nat) (aS : Nat) (X : va_W) (q : Nat) (sz : Nat) : Met l yJx4a65c_init_da8c8 wsJx4a65c_init_da8c8 ({ frames := 3, cells := 0, slots := 0, locals := 52 } : Room) (va_Pc [.ref q] (kv_preL D ci aS (X ++ [((q, .inr (0, [.int 0, .null, .int 0])) : Nat × va_E)]) sz)) (va_Qv (fun (_ : Unit) => True) (fun u t => kv_post D (X ++ [((q, .inr (0, [.int 0, .null, .int 0])) : Nat × va_E)]) sz (X ++ [((q, .inr (0, [.int 0, .ref aS, .int 0])) : Nat × va_E)]) t) (va_A (X ++ [((q, .inr (0, [.int 0, .null, .int 0])) : Nat × va_E)]) sz)) 0 0 (va_A (X ++ [((q, .inr (0, [.int 0, .null, .int 0])) : Nat × va_E)]) sz) := by
  refine Met.ofW (cc := cJx4a65c_init_da8c8) (maxL := 1) (ret := none) (by decide) rfl ?_
  intro p en s m args below meth c s₁ B hml hv
  obtain ⟨hv0, ⟨hsz, hP, hK, hD0⟩, hT⟩ := hv
  have hx := B.exec
  have hb := B.bytes
  have hr := B.returns
  have hts := atoms_spec (ws := wsJx4a65c_init_da8c8) B.pre
  have hown : s.vm.findClass RJx4a65c = some m.cls := findClass_of_methodNamed B.named
  have hlocks := B.notSynchronized
  subst hsz
  have hD := hD0.self (sz := s.heap.size)
  generalize hAe : va_A (X ++ [((q, .inr (0, [.int 0, .null, .int 0])) : Nat × va_E)]) s.heap.size = A at hD hT ⊢
  have hA : ∀ q : Nat, s.heap.size ≤ q → A q := fun q h => by rw [← hAe]; exact Or.inr h
  have hS : va_S A s.heap s.heap [] := va_S.rf
  have hP : va_P D vwCl (X ++ [((q, .inr (0, [.int 0, .null, .int 0])) : Nat × va_E)]) s.heap := hP
  have hinRJx4a65c : ∀ w ∈ u_ws RJx4a65c TJx4a65c 3, w ∈ wsJx4a65c_init_da8c8 := by decide +kernel
  refine W.eq (show entryFrame m args 1 = _ from by rw [hv0, lg_entry_eq]) ?_
  have hl := lv_entry ([.ref q]) (n := 1) (Nat.le_of_ble_eq_true rfl)
  generalize (lg_sl ([.ref q]) ++ List.replicate (1 - (lg_sl ([.ref q])).length) Slot.unset).toArray = ls at hl ⊢
  have hl : lv_has ls 1 [(0, .ref q)] := hl
  refine lv_aload_n hx hb dJx4a65c_init_da8c8_0 rfl (lv_at hl 0 rfl) ?_
  refine kv_callv (va_runI (As := []) (rest := []) ⟨hx, hb, hml, hown, hts⟩ (c_K_AL l D ci X q s.heap.size) (cwI 0 hts gJx4a65c_init_da8c8_Jxc12de_init_da8c8 rfl rfl rfl (hts (.initialized RJxc12de) (by decide +kernel)) (hts (.methodLink RJx4a65c 1 yJxc12de_init_da8c8) (by decide +kernel)) (hts (.instanceMethod yJxc12de_init_da8c8) (by decide +kernel)) rfl (by decide +kernel) ⟨Nat.le_of_ble_eq_true rfl, Nat.le_of_ble_eq_true rfl⟩) (kv_preS hK hP hD) rfl rfl hl.1 rfl (lv_room (Nat.le_of_ble_eq_true rfl)) dJx4a65c_init_da8c8_1 ⟨Nat.le_of_ble_eq_true rfl, Nat.le_of_ble_eq_true rfl⟩) hD hS hA (fun _ H locs _ hP hD hS => ?_)
  refine lv_aload_n hx hb dJx4a65c_init_da8c8_4 rfl (lv_at hl 0 rfl) ?_
  refine va_gets hx hb hT.1 hS hown (hts (.fieldLink RJx4a65c 39 "java/util/ArrayList" "DEFAULTCAPACITY_EMPTY_ELEMENTDATA" "[Ljava/lang/Object;") (by decide +kernel)) (fun _ h9 => h9) dJx4a65c_init_da8c8_5 ?_
  refine va_put (D := D) (ci := 0) (v := .ref aS) (ty := (.array (.object "java/lang/Object"))) (C := RJx4a65c) (T := TJx4a65c) (N := 3) hx hb hts hinRJx4a65c tyJx4a65c tyJx4a65c_ok nmJx4a65c hown hK hP hD hS X.length kv_last rfl 1 (by decide) (hts (.fieldLink RJx4a65c 9 "java/util/ArrayList" "elementData" "[Ljava/lang/Object;") (by decide +kernel)) (fun _ h9 => h9) rfl (by decide +kernel) rfl rfl (Nat.le_of_ble_eq_true rfl) dJx4a65c_init_da8c8_8 (fun H locs hP hD hS => ?_)
  have hP : va_P D vwCl (X ++ [((q, .inr (0, [.int 0, .ref aS, .int 0])) : Nat × va_E)]) H := by rw [kv_last_set] at hP; exact hP
  have hD : va_D A (X ++ [((q, .inr (0, [.int 0, .ref aS, .int 0])) : Nat × va_E)]) := by rw [kv_last_set] at hD; exact hD
  exact W.vret hx hb hr (fun t ht hW => ⟨⟨(), rfl, trivial, ⟨by rw [ht]; exact hP, by rw [hAe]; exact hD⟩⟩, hS.F ht⟩) hS.2.2 dJx4a65c_init_da8c8_11

def kv_ad6 (a b c d e f : Nat) : Nat → Nat := fun i => match i with | 9 => a | 10 => b | 11 => c | 12 => d | 13 => e | _ => f

set_option maxHeartbeats 4000000 in
set_option maxRecDepth 100000 in
theorem c_K_Layings (l : Launch) (D : va_G) (ci : Nat → Nat) (X : va_W) (h : Nat) (sz : Nat) : Met l yX0_init wsX0_init ({ frames := 1, cells := 6, slots := 1040, locals := 12 } : Room) (va_Pc [.ref h] (kv_pre D ci (X ++ [((h, .inr (1, [.null, .null, .null, .int 0, .null, .null, .null])) : Nat × va_E)]) sz)) (va_Qv (fun (_ : Nat → Nat) => True) (fun u t => kv_post D (X ++ [((h, .inr (1, [.null, .null, .null, .int 0, .null, .null, .null])) : Nat × va_E)]) sz ((X ++ [((h, .inr (1, [.ref (u 9), .ref (u 10), .ref (u 11), .int 0, .ref (u 12), .ref (u 13), .ref (u 14)])) : Nat × va_E)]) ++ [((u 9, .inl (ci 0, 8, .inl (fun _ => 0))) : Nat × va_E), (u 10, .inl (ci 0, 8, .inl (fun _ => 0))), (u 11, .inl (ci 0, 256, .inl (fun _ => 0))), (u 12, .inl (ci 0, 256, .inl (fun _ => 0))), (u 13, .inl (ci 0, 256, .inl (fun _ => 0))), (u 14, .inl (ci 0, 256, .inl (fun _ => 0)))]) t) (va_A (X ++ [((h, .inr (1, [.null, .null, .null, .int 0, .null, .null, .null])) : Nat × va_E)]) sz)) 6 1040 (va_A (X ++ [((h, .inr (1, [.null, .null, .null, .int 0, .null, .null, .null])) : Nat × va_E)]) sz) := by
  refine Met.ofW (cc := cX0_init) (maxL := 1) (ret := none) (by decide) rfl ?_
  intro p en s m args below meth c s₁ B hml hv
  obtain ⟨hv0, hsz, hP, hK, hD0⟩ := hv
  have hx := B.exec
  have hb := B.bytes
  have hr := B.returns
  have hts := atoms_spec (ws := wsX0_init) B.pre
  have hown : s.vm.findClass RX0 = some m.cls := findClass_of_methodNamed B.named
  have hlocks := B.notSynchronized
  have hin : meth.name = "<init>" := (name_of_methodNamed B.named B.method).1
  subst hsz
  have hD := hD0.self (sz := s.heap.size)
  generalize hAe : va_A (X ++ [((h, .inr (1, [.null, .null, .null, .int 0, .null, .null, .null])) : Nat × va_E)]) s.heap.size = A at hD ⊢
  have hA : ∀ q : Nat, s.heap.size ≤ q → A q := fun q h => by rw [← hAe]; exact Or.inr h
  have hS : va_S A s.heap s.heap [] := va_S.rf
  have hP : va_P D vwCl (X ++ [((h, .inr (1, [.null, .null, .null, .int 0, .null, .null, .null])) : Nat × va_E)]) s.heap := hP
  have hinRX0 : ∀ w ∈ u_ws RX0 TX0 7, w ∈ wsX0_init := by decide +kernel
  refine W.eq (show entryFrame m args 1 = _ from by rw [hv0, lg_entry_eq]) ?_
  have hl := lv_entry ([.ref h]) (n := 1) (Nat.le_of_ble_eq_true rfl)
  generalize (lg_sl ([.ref h]) ++ List.replicate (1 - (lg_sl ([.ref h])).length) Slot.unset).toArray = ls at hl ⊢
  have hl : lv_has ls 1 [(0, .ref h)] := hl
  refine lv_aload_n hx hb dX0_init_0 rfl (lv_at hl 0 rfl) ?_
  refine W.objInit hx hb hown (hts (.methodLink RX0 3 objectInit) (by decide +kernel)) (hts (.instanceMethod objectInit) (by decide +kernel)) (hts (.code objectInit ⟨#[0xb1]⟩ 1 none) (by decide +kernel)) rfl (by rw [hml]; exact hl.1) rfl dX0_init_1 (Nat.le_of_ble_eq_true rfl) (Nat.le_of_ble_eq_true rfl) ?_
  refine W.eq (g2 := F0 m 4 ls []) rfl ?_
  have hP : va_P D vwCl ((X ++ [((h, .inr (1, [.null, .null, .null, .int 0, .null, .null, .null])) : Nat × va_E)]) ++ []) s.heap := by rw [List.append_nil]; exact hP
  have hD : va_D A ((X ++ [((h, .inr (1, [.null, .null, .null, .int 0, .null, .null, .null])) : Nat × va_E)]) ++ []) := by rw [List.append_nil]; exact hD
  refine lv_aload_n hx hb dX0_init_4 rfl (lv_at hl 0 rfl) ?_
  refine lv_bipush (v := 8) hx hb dX0_init_5 (by decide) ?_
  refine va_newa (atype := .int) (ty := .int) (a0 := (8, .inl (fun _ => 0))) (N' := 8) hx hb (hts (.arrayClass .int) (by decide +kernel)) rfl hK hP hD hS hA (fun _ => rfl) (by decide) (by decide) (by decide) (Nat.le_of_ble_eq_true rfl) (Nat.le_of_ble_eq_true rfl) dX0_init_7 (fun q9 cA H hK2 hP hD hS => ?_)
  obtain rfl := kv_cls0 hK2
  have hP : va_P D vwCl ((X ++ [((h, .inr (1, [.null, .null, .null, .int 0, .null, .null, .null])) : Nat × va_E)]) ++ [((q9, .inl (ci 0, 8, .inl (fun _ => 0))) : Nat × va_E)]) H := by rw [List.append_assoc (X ++ _)] at hP; exact hP
  have hD : va_D A ((X ++ [((h, .inr (1, [.null, .null, .null, .int 0, .null, .null, .null])) : Nat × va_E)]) ++ [((q9, .inl (ci 0, 8, .inl (fun _ => 0))) : Nat × va_E)]) := by rw [List.append_assoc (X ++ _)] at hD; exact hD
  refine va_putF (D := D) (ci := 1) (v := .ref q9) (ty := (.array .int)) (C := RX0) (T := TX0) (N := 7) hx hb hts hinRX0 tyX0 tyX0_ok nmX0 hown hK hP hD hS X.length kv_mid rfl 0 (by decide) (hts (.fieldLink RX0 9 "LicenceKeeper$Layings" "machineTakes" "[I") (by decide +kernel)) (fun _ h9 => h9) rfl hin rfl (by decide +kernel) rfl rfl (Nat.le_of_ble_eq_true rfl) dX0_init_9 (fun H locs hP hD hS => ?_)
  have hP : va_P D vwCl ((X ++ [((h, .inr (1, [.ref q9, .null, .null, .int 0, .null, .null, .null])) : Nat × va_E)]) ++ [((q9, .inl (ci 0, 8, .inl (fun _ => 0))) : Nat × va_E)]) H := by rw [kv_mid_set] at hP; exact hP
  have hD : va_D A ((X ++ [((h, .inr (1, [.ref q9, .null, .null, .int 0, .null, .null, .null])) : Nat × va_E)]) ++ [((q9, .inl (ci 0, 8, .inl (fun _ => 0))) : Nat × va_E)]) := by rw [kv_mid_set] at hD; exact hD
  refine lv_aload_n hx hb dX0_init_12 rfl (lv_at hl 0 rfl) ?_
  refine lv_bipush (v := 8) hx hb dX0_init_13 (by decide) ?_
  refine va_newa (atype := .int) (ty := .int) (a0 := (8, .inl (fun _ => 0))) (N' := 8) hx hb (hts (.arrayClass .int) (by decide +kernel)) rfl hK hP hD hS hA (fun _ => rfl) (by decide) (by decide) (by decide) (Nat.le_of_ble_eq_true rfl) (Nat.le_of_ble_eq_true rfl) dX0_init_15 (fun q10 cA H hK2 hP hD hS => ?_)
  obtain rfl := kv_cls0 hK2
  have hP : va_P D vwCl ((X ++ [((h, .inr (1, [.ref q9, .null, .null, .int 0, .null, .null, .null])) : Nat × va_E)]) ++ [((q9, .inl (ci 0, 8, .inl (fun _ => 0))) : Nat × va_E), (q10, .inl (ci 0, 8, .inl (fun _ => 0)))]) H := by rw [List.append_assoc (X ++ _)] at hP; exact hP
  have hD : va_D A ((X ++ [((h, .inr (1, [.ref q9, .null, .null, .int 0, .null, .null, .null])) : Nat × va_E)]) ++ [((q9, .inl (ci 0, 8, .inl (fun _ => 0))) : Nat × va_E), (q10, .inl (ci 0, 8, .inl (fun _ => 0)))]) := by rw [List.append_assoc (X ++ _)] at hD; exact hD
  refine va_putF (D := D) (ci := 1) (v := .ref q10) (ty := (.array .int)) (C := RX0) (T := TX0) (N := 7) hx hb hts hinRX0 tyX0 tyX0_ok nmX0 hown hK hP hD hS X.length kv_mid rfl 1 (by decide) (hts (.fieldLink RX0 15 "LicenceKeeper$Layings" "machineCovers" "[I") (by decide +kernel)) (fun _ h9 => h9) rfl hin rfl (by decide +kernel) rfl rfl (Nat.le_of_ble_eq_true rfl) dX0_init_17 (fun H locs hP hD hS => ?_)
  have hP : va_P D vwCl ((X ++ [((h, .inr (1, [.ref q9, .ref q10, .null, .int 0, .null, .null, .null])) : Nat × va_E)]) ++ [((q9, .inl (ci 0, 8, .inl (fun _ => 0))) : Nat × va_E), (q10, .inl (ci 0, 8, .inl (fun _ => 0)))]) H := by rw [kv_mid_set] at hP; exact hP
  have hD : va_D A ((X ++ [((h, .inr (1, [.ref q9, .ref q10, .null, .int 0, .null, .null, .null])) : Nat × va_E)]) ++ [((q9, .inl (ci 0, 8, .inl (fun _ => 0))) : Nat × va_E), (q10, .inl (ci 0, 8, .inl (fun _ => 0)))]) := by rw [kv_mid_set] at hD; exact hD
  refine lv_aload_n hx hb dX0_init_20 rfl (lv_at hl 0 rfl) ?_
  refine lv_sipush (v := 256) hx hb dX0_init_21 (by decide) ?_
  refine va_newa (atype := .int) (ty := .int) (a0 := (256, .inl (fun _ => 0))) (N' := 256) hx hb (hts (.arrayClass .int) (by decide +kernel)) rfl hK hP hD hS hA (fun _ => rfl) (by decide) (by decide) (by decide) (Nat.le_of_ble_eq_true rfl) (Nat.le_of_ble_eq_true rfl) dX0_init_24 (fun q11 cA H hK2 hP hD hS => ?_)
  obtain rfl := kv_cls0 hK2
  have hP : va_P D vwCl ((X ++ [((h, .inr (1, [.ref q9, .ref q10, .null, .int 0, .null, .null, .null])) : Nat × va_E)]) ++ [((q9, .inl (ci 0, 8, .inl (fun _ => 0))) : Nat × va_E), (q10, .inl (ci 0, 8, .inl (fun _ => 0))), (q11, .inl (ci 0, 256, .inl (fun _ => 0)))]) H := by rw [List.append_assoc (X ++ _)] at hP; exact hP
  have hD : va_D A ((X ++ [((h, .inr (1, [.ref q9, .ref q10, .null, .int 0, .null, .null, .null])) : Nat × va_E)]) ++ [((q9, .inl (ci 0, 8, .inl (fun _ => 0))) : Nat × va_E), (q10, .inl (ci 0, 8, .inl (fun _ => 0))), (q11, .inl (ci 0, 256, .inl (fun _ => 0)))]) := by rw [List.append_assoc (X ++ _)] at hD; exact hD
  refine va_putF (D := D) (ci := 1) (v := .ref q11) (ty := (.array .int)) (C := RX0) (T := TX0) (N := 7) hx hb hts hinRX0 tyX0 tyX0_ok nmX0 hown hK hP hD hS X.length kv_mid rfl 2 (by decide) (hts (.fieldLink RX0 18 "LicenceKeeper$Layings" "setWeights" "[I") (by decide +kernel)) (fun _ h9 => h9) rfl hin rfl (by decide +kernel) rfl rfl (Nat.le_of_ble_eq_true rfl) dX0_init_26 (fun H locs hP hD hS => ?_)
  have hP : va_P D vwCl ((X ++ [((h, .inr (1, [.ref q9, .ref q10, .ref q11, .int 0, .null, .null, .null])) : Nat × va_E)]) ++ [((q9, .inl (ci 0, 8, .inl (fun _ => 0))) : Nat × va_E), (q10, .inl (ci 0, 8, .inl (fun _ => 0))), (q11, .inl (ci 0, 256, .inl (fun _ => 0)))]) H := by rw [kv_mid_set] at hP; exact hP
  have hD : va_D A ((X ++ [((h, .inr (1, [.ref q9, .ref q10, .ref q11, .int 0, .null, .null, .null])) : Nat × va_E)]) ++ [((q9, .inl (ci 0, 8, .inl (fun _ => 0))) : Nat × va_E), (q10, .inl (ci 0, 8, .inl (fun _ => 0))), (q11, .inl (ci 0, 256, .inl (fun _ => 0)))]) := by rw [kv_mid_set] at hD; exact hD
  refine lv_aload_n hx hb dX0_init_29 rfl (lv_at hl 0 rfl) ?_
  refine lv_iconst (v := 0) hx hb dX0_init_30 (by decide) ?_
  refine va_put (D := D) (ci := 1) (v := .int 0) (ty := .int) (C := RX0) (T := TX0) (N := 7) hx hb hts hinRX0 tyX0 tyX0_ok nmX0 hown hK hP hD hS X.length kv_mid rfl 3 (by decide) (hts (.fieldLink RX0 21 "LicenceKeeper$Layings" "havers" "I") (by decide +kernel)) (fun _ h9 => h9) rfl (by decide +kernel) rfl rfl (Nat.le_of_ble_eq_true rfl) dX0_init_31 (fun H locs hP hD hS => ?_)
  have hP : va_P D vwCl ((X ++ [((h, .inr (1, [.ref q9, .ref q10, .ref q11, .int 0, .null, .null, .null])) : Nat × va_E)]) ++ [((q9, .inl (ci 0, 8, .inl (fun _ => 0))) : Nat × va_E), (q10, .inl (ci 0, 8, .inl (fun _ => 0))), (q11, .inl (ci 0, 256, .inl (fun _ => 0)))]) H := by rw [kv_mid_set] at hP; exact hP
  have hD : va_D A ((X ++ [((h, .inr (1, [.ref q9, .ref q10, .ref q11, .int 0, .null, .null, .null])) : Nat × va_E)]) ++ [((q9, .inl (ci 0, 8, .inl (fun _ => 0))) : Nat × va_E), (q10, .inl (ci 0, 8, .inl (fun _ => 0))), (q11, .inl (ci 0, 256, .inl (fun _ => 0)))]) := by rw [kv_mid_set] at hD; exact hD
  refine lv_aload_n hx hb dX0_init_34 rfl (lv_at hl 0 rfl) ?_
  refine lv_sipush (v := 256) hx hb dX0_init_35 (by decide) ?_
  refine va_newa (atype := .int) (ty := .int) (a0 := (256, .inl (fun _ => 0))) (N' := 256) hx hb (hts (.arrayClass .int) (by decide +kernel)) rfl hK hP hD hS hA (fun _ => rfl) (by decide) (by decide) (by decide) (Nat.le_of_ble_eq_true rfl) (Nat.le_of_ble_eq_true rfl) dX0_init_38 (fun q12 cA H hK2 hP hD hS => ?_)
  obtain rfl := kv_cls0 hK2
  have hP : va_P D vwCl ((X ++ [((h, .inr (1, [.ref q9, .ref q10, .ref q11, .int 0, .null, .null, .null])) : Nat × va_E)]) ++ [((q9, .inl (ci 0, 8, .inl (fun _ => 0))) : Nat × va_E), (q10, .inl (ci 0, 8, .inl (fun _ => 0))), (q11, .inl (ci 0, 256, .inl (fun _ => 0))), (q12, .inl (ci 0, 256, .inl (fun _ => 0)))]) H := by rw [List.append_assoc (X ++ _)] at hP; exact hP
  have hD : va_D A ((X ++ [((h, .inr (1, [.ref q9, .ref q10, .ref q11, .int 0, .null, .null, .null])) : Nat × va_E)]) ++ [((q9, .inl (ci 0, 8, .inl (fun _ => 0))) : Nat × va_E), (q10, .inl (ci 0, 8, .inl (fun _ => 0))), (q11, .inl (ci 0, 256, .inl (fun _ => 0))), (q12, .inl (ci 0, 256, .inl (fun _ => 0)))]) := by rw [List.append_assoc (X ++ _)] at hD; exact hD
  refine va_putF (D := D) (ci := 1) (v := .ref q12) (ty := (.array .int)) (C := RX0) (T := TX0) (N := 7) hx hb hts hinRX0 tyX0 tyX0_ok nmX0 hown hK hP hD hS X.length kv_mid rfl 4 (by decide) (hts (.fieldLink RX0 25 "LicenceKeeper$Layings" "taken" "[I") (by decide +kernel)) (fun _ h9 => h9) rfl hin rfl (by decide +kernel) rfl rfl (Nat.le_of_ble_eq_true rfl) dX0_init_40 (fun H locs hP hD hS => ?_)
  have hP : va_P D vwCl ((X ++ [((h, .inr (1, [.ref q9, .ref q10, .ref q11, .int 0, .ref q12, .null, .null])) : Nat × va_E)]) ++ [((q9, .inl (ci 0, 8, .inl (fun _ => 0))) : Nat × va_E), (q10, .inl (ci 0, 8, .inl (fun _ => 0))), (q11, .inl (ci 0, 256, .inl (fun _ => 0))), (q12, .inl (ci 0, 256, .inl (fun _ => 0)))]) H := by rw [kv_mid_set] at hP; exact hP
  have hD : va_D A ((X ++ [((h, .inr (1, [.ref q9, .ref q10, .ref q11, .int 0, .ref q12, .null, .null])) : Nat × va_E)]) ++ [((q9, .inl (ci 0, 8, .inl (fun _ => 0))) : Nat × va_E), (q10, .inl (ci 0, 8, .inl (fun _ => 0))), (q11, .inl (ci 0, 256, .inl (fun _ => 0))), (q12, .inl (ci 0, 256, .inl (fun _ => 0)))]) := by rw [kv_mid_set] at hD; exact hD
  refine lv_aload_n hx hb dX0_init_43 rfl (lv_at hl 0 rfl) ?_
  refine lv_sipush (v := 256) hx hb dX0_init_44 (by decide) ?_
  refine va_newa (atype := .int) (ty := .int) (a0 := (256, .inl (fun _ => 0))) (N' := 256) hx hb (hts (.arrayClass .int) (by decide +kernel)) rfl hK hP hD hS hA (fun _ => rfl) (by decide) (by decide) (by decide) (Nat.le_of_ble_eq_true rfl) (Nat.le_of_ble_eq_true rfl) dX0_init_47 (fun q13 cA H hK2 hP hD hS => ?_)
  obtain rfl := kv_cls0 hK2
  have hP : va_P D vwCl ((X ++ [((h, .inr (1, [.ref q9, .ref q10, .ref q11, .int 0, .ref q12, .null, .null])) : Nat × va_E)]) ++ [((q9, .inl (ci 0, 8, .inl (fun _ => 0))) : Nat × va_E), (q10, .inl (ci 0, 8, .inl (fun _ => 0))), (q11, .inl (ci 0, 256, .inl (fun _ => 0))), (q12, .inl (ci 0, 256, .inl (fun _ => 0))), (q13, .inl (ci 0, 256, .inl (fun _ => 0)))]) H := by rw [List.append_assoc (X ++ _)] at hP; exact hP
  have hD : va_D A ((X ++ [((h, .inr (1, [.ref q9, .ref q10, .ref q11, .int 0, .ref q12, .null, .null])) : Nat × va_E)]) ++ [((q9, .inl (ci 0, 8, .inl (fun _ => 0))) : Nat × va_E), (q10, .inl (ci 0, 8, .inl (fun _ => 0))), (q11, .inl (ci 0, 256, .inl (fun _ => 0))), (q12, .inl (ci 0, 256, .inl (fun _ => 0))), (q13, .inl (ci 0, 256, .inl (fun _ => 0)))]) := by rw [List.append_assoc (X ++ _)] at hD; exact hD
  refine va_putF (D := D) (ci := 1) (v := .ref q13) (ty := (.array .int)) (C := RX0) (T := TX0) (N := 7) hx hb hts hinRX0 tyX0 tyX0_ok nmX0 hown hK hP hD hS X.length kv_mid rfl 5 (by decide) (hts (.fieldLink RX0 28 "LicenceKeeper$Layings" "takenNext" "[I") (by decide +kernel)) (fun _ h9 => h9) rfl hin rfl (by decide +kernel) rfl rfl (Nat.le_of_ble_eq_true rfl) dX0_init_49 (fun H locs hP hD hS => ?_)
  have hP : va_P D vwCl ((X ++ [((h, .inr (1, [.ref q9, .ref q10, .ref q11, .int 0, .ref q12, .ref q13, .null])) : Nat × va_E)]) ++ [((q9, .inl (ci 0, 8, .inl (fun _ => 0))) : Nat × va_E), (q10, .inl (ci 0, 8, .inl (fun _ => 0))), (q11, .inl (ci 0, 256, .inl (fun _ => 0))), (q12, .inl (ci 0, 256, .inl (fun _ => 0))), (q13, .inl (ci 0, 256, .inl (fun _ => 0)))]) H := by rw [kv_mid_set] at hP; exact hP
  have hD : va_D A ((X ++ [((h, .inr (1, [.ref q9, .ref q10, .ref q11, .int 0, .ref q12, .ref q13, .null])) : Nat × va_E)]) ++ [((q9, .inl (ci 0, 8, .inl (fun _ => 0))) : Nat × va_E), (q10, .inl (ci 0, 8, .inl (fun _ => 0))), (q11, .inl (ci 0, 256, .inl (fun _ => 0))), (q12, .inl (ci 0, 256, .inl (fun _ => 0))), (q13, .inl (ci 0, 256, .inl (fun _ => 0)))]) := by rw [kv_mid_set] at hD; exact hD
  refine lv_aload_n hx hb dX0_init_52 rfl (lv_at hl 0 rfl) ?_
  refine lv_sipush (v := 256) hx hb dX0_init_53 (by decide) ?_
  refine va_newa (atype := .int) (ty := .int) (a0 := (256, .inl (fun _ => 0))) (N' := 256) hx hb (hts (.arrayClass .int) (by decide +kernel)) rfl hK hP hD hS hA (fun _ => rfl) (by decide) (by decide) (by decide) (Nat.le_of_ble_eq_true rfl) (Nat.le_of_ble_eq_true rfl) dX0_init_56 (fun q14 cA H hK2 hP hD hS => ?_)
  obtain rfl := kv_cls0 hK2
  have hP : va_P D vwCl ((X ++ [((h, .inr (1, [.ref q9, .ref q10, .ref q11, .int 0, .ref q12, .ref q13, .null])) : Nat × va_E)]) ++ [((q9, .inl (ci 0, 8, .inl (fun _ => 0))) : Nat × va_E), (q10, .inl (ci 0, 8, .inl (fun _ => 0))), (q11, .inl (ci 0, 256, .inl (fun _ => 0))), (q12, .inl (ci 0, 256, .inl (fun _ => 0))), (q13, .inl (ci 0, 256, .inl (fun _ => 0))), (q14, .inl (ci 0, 256, .inl (fun _ => 0)))]) H := by rw [List.append_assoc (X ++ _)] at hP; exact hP
  have hD : va_D A ((X ++ [((h, .inr (1, [.ref q9, .ref q10, .ref q11, .int 0, .ref q12, .ref q13, .null])) : Nat × va_E)]) ++ [((q9, .inl (ci 0, 8, .inl (fun _ => 0))) : Nat × va_E), (q10, .inl (ci 0, 8, .inl (fun _ => 0))), (q11, .inl (ci 0, 256, .inl (fun _ => 0))), (q12, .inl (ci 0, 256, .inl (fun _ => 0))), (q13, .inl (ci 0, 256, .inl (fun _ => 0))), (q14, .inl (ci 0, 256, .inl (fun _ => 0)))]) := by rw [List.append_assoc (X ++ _)] at hD; exact hD
  refine va_putF (D := D) (ci := 1) (v := .ref q14) (ty := (.array .int)) (C := RX0) (T := TX0) (N := 7) hx hb hts hinRX0 tyX0 tyX0_ok nmX0 hown hK hP hD hS X.length kv_mid rfl 6 (by decide) (hts (.fieldLink RX0 31 "LicenceKeeper$Layings" "setCovers" "[I") (by decide +kernel)) (fun _ h9 => h9) rfl hin rfl (by decide +kernel) rfl rfl (Nat.le_of_ble_eq_true rfl) dX0_init_58 (fun H locs hP hD hS => ?_)
  have hP : va_P D vwCl ((X ++ [((h, .inr (1, [.ref q9, .ref q10, .ref q11, .int 0, .ref q12, .ref q13, .ref q14])) : Nat × va_E)]) ++ [((q9, .inl (ci 0, 8, .inl (fun _ => 0))) : Nat × va_E), (q10, .inl (ci 0, 8, .inl (fun _ => 0))), (q11, .inl (ci 0, 256, .inl (fun _ => 0))), (q12, .inl (ci 0, 256, .inl (fun _ => 0))), (q13, .inl (ci 0, 256, .inl (fun _ => 0))), (q14, .inl (ci 0, 256, .inl (fun _ => 0)))]) H := by rw [kv_mid_set] at hP; exact hP
  have hD : va_D A ((X ++ [((h, .inr (1, [.ref q9, .ref q10, .ref q11, .int 0, .ref q12, .ref q13, .ref q14])) : Nat × va_E)]) ++ [((q9, .inl (ci 0, 8, .inl (fun _ => 0))) : Nat × va_E), (q10, .inl (ci 0, 8, .inl (fun _ => 0))), (q11, .inl (ci 0, 256, .inl (fun _ => 0))), (q12, .inl (ci 0, 256, .inl (fun _ => 0))), (q13, .inl (ci 0, 256, .inl (fun _ => 0))), (q14, .inl (ci 0, 256, .inl (fun _ => 0)))]) := by rw [kv_mid_set] at hD; exact hD
  exact W.vret hx hb hr (fun t ht hW => ⟨⟨kv_ad6 q9 q10 q11 q12 q13 q14, rfl, trivial, ⟨by rw [ht]; exact hP, by rw [hAe]; exact hD⟩⟩, hS.F ht⟩) hS.2.2 dX0_init_61
