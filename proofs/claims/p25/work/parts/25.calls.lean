section KVCAT
def kv_cat {A : Type} (x : Option ((Int32 × A) ⊕ Nat)) (m : A) : Option (Int32 × A) := match x with | none => none | some (.inl u) => some u | some (.inr c) => if c = 2 then some (-2002, m) else if c = 3 then some (-2003, m) else none
theorem kv_cat_n {A : Type} {R : Option (Int32 × A)} {x : Option ((Int32 × A) ⊕ Nat)} {m : A} (e : R = kv_cat x m) (h : R ≠ none) : x ≠ none := by intro c; rw [e, c] at h; exact h rfl
theorem kv_cat_e {A : Type} {R : Option (Int32 × A)} {x : Option ((Int32 × A) ⊕ Nat)} {m : A} (e : R = kv_cat x m) {u : Int32 × A} (h : x = some (.inl u)) : R = some u := by rw [e, h]; rfl
theorem kv_cat_x {A : Type} {R : Option (Int32 × A)} {x : Option ((Int32 × A) ⊕ Nat)} {m : A} (e : R = kv_cat x m) (hR : R ≠ none) {c : Nat} (h : x = some (.inr c)) : (c = 2 ∧ R = some (-2002, m)) ∨ (c = 3 ∧ R = some (-2003, m)) := by
  have e2 : R = if c = 2 then some (-2002, m) else if c = 3 then some (-2003, m) else none := by rw [e, h]; rfl
  by_cases c2 : c = 2
  · rw [if_pos c2] at e2; exact Or.inl ⟨c2, e2⟩
  · rw [if_neg c2] at e2
    by_cases c3 : c = 3
    · rw [if_pos c3] at e2; exact Or.inr ⟨c3, e2⟩
    · rw [if_neg c3] at e2; exact absurd e2 hR
theorem kv_x0_i {β : Type} {x : Option (Unit ⊕ Nat)} {k : Option (β ⊕ Nat)} {r : β} (h : kv_x0 x k = some (.inl r)) : k = some (.inl r) := by
  match x, h with
  | none, h => cases h
  | some (.inr c), h => cases h
  | some (.inl _), h => exact h
theorem kv_x1_i {A β : Type} {x : Option (A ⊕ Nat)} {k : A → Option (β ⊕ Nat)} {r : β} (h : kv_x1 x k = some (.inl r)) : ∃ a, x = some (.inl a) ∧ k a = some (.inl r) := by
  match x, h with
  | none, h => cases h
  | some (.inr c), h => cases h
  | some (.inl a), h => exact ⟨a, rfl, h⟩
theorem kv_commP {D : va_G} {cl : List vw_C} {X Y : va_W} {H : Heap} (h : va_P D cl (X ++ Y) H) : va_P D cl (Y ++ X) H := kv_P_mem h fun x hx => (List.mem_append.mp hx).elim (List.mem_append_right _) (List.mem_append_left _)
theorem kv_commD {A : Nat → Prop} {X Y : va_W} (h : va_D A (X ++ Y)) : va_D A (Y ++ X) := kv_D_sub h List.perm_append_comm (List.Sublist.refl _)
theorem kv_q9_i {A B C E F G I J K β : Type} {x : Option (A × B × C × E × F × G × I × J × K)} {k : A → B → C → E → F → G → I → J → K → Option β} {r : β} (h : kv_q9 x k = some r) : ∃ u, x = some u ∧ k u.1 u.2.1 u.2.2.1 u.2.2.2.1 u.2.2.2.2.1 u.2.2.2.2.2.1 u.2.2.2.2.2.2.1 u.2.2.2.2.2.2.2.1 u.2.2.2.2.2.2.2.2 = some r := by
  match x, h with
  | none, h => cases h
  | some u, h => exact ⟨u, rfl, h⟩
theorem kv_G_i {α : Type} {i : Int32} {n : Nat} {x : Option α} {r : α} (h : kv_G i n x = some r) : x = some r := by
  unfold kv_G at h
  split at h
  · cases h
  · exact h
theorem add_n {kl : Nat → Int32} {p0 p1 p2 p3 mo : Int32} {n : Nat} {qp qm ql qv qc qe : Nat → Int32} {u} (h : pf_X2_addRight kl p0 p1 p2 p3 mo n qp qm ql qv qc qe = some u) : u.2.2.1 = n + 1 := by
  unfold pf_X2_addRight kv_T at h
  have h := kv_G_i h
  dsimp only at h
  by_cases c : n < 12
  · rw [if_pos c] at h; cases h; rfl
  · rw [if_neg c] at h; cases h
end KVCAT

def pf_L_calls_0  (p0 : Int32) (p1 : Int32) (p2 : Int32) (p3 : Int32) (kh : Nat → Int32) : Option (Int32 × (Nat → Int32)) := kv_cat (pf_X2_move p0 p1 kh) kh
abbrev rmL_calls_0 : Room := { frames := 9, cells := 3, slots := 18, locals := 147 }
set_option maxHeartbeats 4000000 in
set_option maxRecDepth 100000 in
theorem c_L_calls_0 (l : Launch) (hl9 : l.stackTraces = false) (D : va_G) (ci ad : Nat → Nat) (aS : Nat) (kc : Nat → Int32) (kh : Nat → Int32) (ks : Nat → Int32) (fo : Nat → Nat → Int32) (kl : Nat → Int32) (kp : Nat → Int32) (dy : Int32) (mo : Int32) (n : Nat) (pa : Nat → Nat) (aE : Nat) (qp : Nat → Int32) (qm : Nat → Int32) (ql : Nat → Int32) (qv : Nat → Int32) (qc : Nat → Int32) (qe : Nat → Int32) (mt : Nat → Int32) (mv : Nat → Int32) (sw : Nat → Int32) (hv : Int32) (tk : Nat → Int32) (tn : Nat → Int32) (sc : Nat → Int32) (p0 p1 p2 p3 : Int32) (hRn : pf_L_calls_0 p0 p1 p2 p3 kh ≠ none) (sz : Nat) : Met l yL_calls wsL_calls rmL_calls_0 (va_Pc [.ref (ad 0), .int 0, .int p0, .int p1, .int p2, .int p3] (kv_preW D ci aS (kv_kw ci ad kc kh ks fo kl kp dy mo n pa aE qp qm ql qv qc qe mt mv sw hv tk tn sc) sz)) (va_Qi (fun (r : Int32) (u : (Nat → Int32)) => pf_L_calls_0 p0 p1 p2 p3 kh = some (r, u)) (fun u t => kv_post D (kv_kw ci ad kc kh ks fo kl kp dy mo n pa aE qp qm ql qv qc qe mt mv sw hv tk tn sc) sz (kv_kw ci ad kc u ks fo kl kp dy mo n pa aE qp qm ql qv qc qe mt mv sw hv tk tn sc) t) (va_A (kv_kw ci ad kc kh ks fo kl kp dy mo n pa aE qp qm ql qv qc qe mt mv sw hv tk tn sc) sz)) 3 18 (va_A (kv_kw ci ad kc kh ks fo kl kp dy mo n pa aE qp qm ql qv qc qe mt mv sw hv tk tn sc) sz) := by
  refine va_MetW (cc := cL_calls) (maxL := 7) (ret := (some .int)) (by decide) rfl ?_
  intro p en s m args below meth c s₁ B hml hv
  obtain ⟨hv0, ⟨⟨⟨hsz, hP, hK, hD0⟩, hT⟩, hT2⟩, hN⟩ := hv
  have hx := B.exec
  have hb := B.bytes
  have hr := B.returns
  have hts := atoms_spec (ws := wsL_calls) B.pre
  have hown : s.vm.findClass RL = some m.cls := findClass_of_methodNamed B.named
  have hlocks := B.notSynchronized
  subst hsz
  have hD := hD0.self (sz := s.heap.size)
  generalize hAe : va_A (kv_kw ci ad kc kh ks fo kl kp dy mo n pa aE qp qm ql qv qc qe mt mv sw hv tk tn sc) s.heap.size = A at hD hT hT2 ⊢
  have hA : ∀ q : Nat, s.heap.size ≤ q → A q := fun q h => by rw [← hAe]; exact Or.inr h
  have hS : va_S A s.heap s.heap [] := va_S.rf
  have htb : c.exceptionTable.toList = tableOf [(0, 93, 94, 37), (0, 93, 100, 39)] := vx_table (x := yL_calls) B (hts (.codeWith yL_calls cL_calls 7 (some .int) [(0, 93, 94, 37), (0, 93, 100, 39)]) (by decide +kernel))
  refine W.eq (show entryFrame m args 7 = _ from by rw [hv0, lg_entry_eq]) ?_
  have hl := lv_entry ([.ref (ad 0), .int 0, .int p0, .int p1, .int p2, .int p3]) (n := 7) (Nat.le_of_ble_eq_true rfl)
  generalize (lg_sl ([.ref (ad 0), .int 0, .int p0, .int p1, .int p2, .int p3]) ++ List.replicate (7 - (lg_sl ([.ref (ad 0), .int 0, .int p0, .int p1, .int p2, .int p3])).length) Slot.unset).toArray = ls at hl ⊢
  have hl : lv_has ls 7 [(0, .ref (ad 0)), (1, .int 0), (2, .int p0), (3, .int p1), (4, .int p2), (5, .int p3)] := hl
  generalize hRd : pf_L_calls_0 p0 p1 p2 p3 kh = Rz at hRn ⊢
  have e : Rz = kv_cat (pf_X2_move p0 p1 kh) kh := hRd.symm
  refine lv_iload_n hx hb dL_calls_0 rfl (lv_at hl 1 rfl) ?_
  refine lv_if_ne (tgt := 13) hx hb dL_calls_1 (by decide) (fun c9 => absurd rfl c9) (fun _ => ?_)
  refine lv_aload_n hx hb dL_calls_4 rfl (lv_at hl 0 rfl) ?_
  refine lv_iload_n hx hb dL_calls_5 rfl (lv_at hl 2 rfl) ?_
  refine lv_iload_n hx hb dL_calls_6 rfl (lv_at hl 3 rfl) ?_
  refine kv_xcalli (vx_runV (As := [.int p0, .int p1]) (rest := []) ⟨hx, hb, hml, hown, hts⟩ (c_X2_move l hl9 D ci ad kc kh ks fo kl kp dy mo n pa aE qp qm ql qv qc qe mt mv sw hv tk tn sc p0 p1 (kv_cat_n e hRn) s.heap.size) (cwV 2 hts gL_calls_X2_move rfl rfl rfl (by decide +kernel) ⟨Nat.le_of_ble_eq_true rfl, Nat.le_of_ble_eq_true rfl⟩) (kv_preVX hK hP hD hT hS hA (r := (RX2, TX2, 9)) (q0 := 0) (k := 3) rfl rfl rfl) rfl rfl hl.1 rfl (lv_room (Nat.le_of_ble_eq_true rfl)) dL_calls_7 ⟨Nat.le_of_ble_eq_true rfl, Nat.le_of_ble_eq_true rfl⟩) hD hS hA (fun ce q9 u9 H locs hw hP hD hS h1 h2 h3 => ?_) (fun r u H locs hw hP hD hS => ?_)
  · rcases kv_cat_x e hRn hw with ⟨rfl, e⟩ | ⟨rfl, e⟩
    · refine vx_catch (name := "java/lang/IllegalArgumentException") hown ((tableOf [(0, 93, 94, 37), (0, 93, 100, 39)]).take 0) ((tableOf [(0, 93, 94, 37), (0, 93, 100, 39)]).getD 0 default) ((tableOf [(0, 93, 94, 37), (0, 93, 100, 39)]).drop 1) (by rw [htb]; rfl) (fun z hz => ?_) (by decide) (by decide) (hts (.classLink RL 37 "java/lang/IllegalArgumentException") (by decide +kernel)) (va_Nw.use rfl (hT.2.2.2.1 2)) h1 h2 h3 ?_
      · exact absurd hz List.not_mem_nil
      · refine lv_astore (lv' := [(6, .ref q9), (0, .ref (ad 0)), (1, .int 0), (2, .int p0), (3, .int p1), (4, .int p2), (5, .int p3)]) hx hb dL_calls_94 hl (by decide) rfl (fun ls hl => ?_)
        refine lv_sipush (v := (-2002)) hx hb dL_calls_96 (by decide) ?_
        exact W.iret (v := (-2002)) hx hb hr (fun t ht hW => ⟨⟨(-2002), kh, rfl, e, ⟨by rw [ht]; exact hP, by rw [hAe]; exact hD⟩⟩, hS.F ht⟩) hS.2.2 dL_calls_99
    · refine vx_catch (name := "java/lang/IllegalStateException") hown ((tableOf [(0, 93, 94, 37), (0, 93, 100, 39)]).take 1) ((tableOf [(0, 93, 94, 37), (0, 93, 100, 39)]).getD 1 default) ((tableOf [(0, 93, 94, 37), (0, 93, 100, 39)]).drop 2) (by rw [htb]; rfl) (fun z hz => ?_) (by decide) (by decide) (hts (.classLink RL 39 "java/lang/IllegalStateException") (by decide +kernel)) (va_Nw.use rfl (hT.2.2.2.1 3)) h1 h2 h3 ?_
      · obtain rfl : z = (tableOf [(0, 93, 94, 37), (0, 93, 100, 39)]).getD 0 default := List.mem_singleton.mp hz
        exact Or.inr ⟨by decide, "java/lang/IllegalArgumentException", hts (.classLink RL 37 "java/lang/IllegalArgumentException") (by decide +kernel), hN 3 2 (by decide) (by decide) (by decide) (by decide) (by decide)⟩
      · refine lv_astore (lv' := [(6, .ref q9), (0, .ref (ad 0)), (1, .int 0), (2, .int p0), (3, .int p1), (4, .int p2), (5, .int p3)]) hx hb dL_calls_100 hl (by decide) rfl (fun ls hl => ?_)
        refine lv_sipush (v := (-2003)) hx hb dL_calls_102 (by decide) ?_
        exact W.iret (v := (-2003)) hx hb hr (fun t ht hW => ⟨⟨(-2003), kh, rfl, e, ⟨by rw [ht]; exact hP, by rw [hAe]; exact hD⟩⟩, hS.F ht⟩) hS.2.2 dL_calls_105
  · have e := kv_cat_e e hw
    have hP : va_P D vwCl (kv_kw ci ad kc u ks fo kl kp dy mo n pa aE qp qm ql qv qc qe mt mv sw hv tk tn sc) H := hP
    have hD : va_D A (kv_kw ci ad kc u ks fo kl kp dy mo n pa aE qp qm ql qv qc qe mt mv sw hv tk tn sc) := hD
    refine lv_goto (tgt := 93) hx hb dL_calls_10 (by decide) ?_
    exact W.iret (v := r) hx hb hr (fun t ht hW => ⟨⟨r, u, rfl, e, ⟨by rw [ht]; exact hP, by rw [hAe]; exact hD⟩⟩, hS.F ht⟩) hS.2.2 dL_calls_93

def pf_L_calls_1 (dy : Int32) (n : Nat) (qp : Nat → Int32) (ql : Nat → Int32) (p0 : Int32) (p1 : Int32) (p2 : Int32) (p3 : Int32) (kl : Nat → Int32) (qv : Nat → Int32) : Option (Int32 × (Nat → Int32) × (Nat → Int32)) := kv_cat (pf_X2_release dy n qp ql p0 kl qv) (kl, qv)
abbrev rmL_calls_1 : Room := { frames := 8, cells := 2, slots := 12, locals := 127 }
set_option maxHeartbeats 4000000 in
set_option maxRecDepth 100000 in
theorem c_L_calls_1 (l : Launch) (hl9 : l.stackTraces = false) (D : va_G) (ci ad : Nat → Nat) (aS : Nat) (kc : Nat → Int32) (kh : Nat → Int32) (ks : Nat → Int32) (fo : Nat → Nat → Int32) (kl : Nat → Int32) (kp : Nat → Int32) (dy : Int32) (mo : Int32) (n : Nat) (pa : Nat → Nat) (aE : Nat) (qp : Nat → Int32) (qm : Nat → Int32) (ql : Nat → Int32) (qv : Nat → Int32) (qc : Nat → Int32) (qe : Nat → Int32) (mt : Nat → Int32) (mv : Nat → Int32) (sw : Nat → Int32) (hv : Int32) (tk : Nat → Int32) (tn : Nat → Int32) (sc : Nat → Int32) (p0 p1 p2 p3 : Int32) (hRn : pf_L_calls_1 dy n qp ql p0 p1 p2 p3 kl qv ≠ none) (sz : Nat) : Met l yL_calls wsL_calls rmL_calls_1 (va_Pc [.ref (ad 0), .int 1, .int p0, .int p1, .int p2, .int p3] (kv_preW D ci aS (kv_kw ci ad kc kh ks fo kl kp dy mo n pa aE qp qm ql qv qc qe mt mv sw hv tk tn sc) sz)) (va_Qi (fun (r : Int32) (u : (Nat → Int32) × (Nat → Int32)) => pf_L_calls_1 dy n qp ql p0 p1 p2 p3 kl qv = some (r, u.1, u.2)) (fun u t => kv_post D (kv_kw ci ad kc kh ks fo kl kp dy mo n pa aE qp qm ql qv qc qe mt mv sw hv tk tn sc) sz (kv_kw ci ad kc kh ks fo u.1 kp dy mo n pa aE qp qm ql u.2 qc qe mt mv sw hv tk tn sc) t) (va_A (kv_kw ci ad kc kh ks fo kl kp dy mo n pa aE qp qm ql qv qc qe mt mv sw hv tk tn sc) sz)) 2 12 (va_A (kv_kw ci ad kc kh ks fo kl kp dy mo n pa aE qp qm ql qv qc qe mt mv sw hv tk tn sc) sz) := by
  refine va_MetW (cc := cL_calls) (maxL := 7) (ret := (some .int)) (by decide) rfl ?_
  intro p en s m args below meth c s₁ B hml hv
  obtain ⟨hv0, ⟨⟨⟨hsz, hP, hK, hD0⟩, hT⟩, hT2⟩, hN⟩ := hv
  have hx := B.exec
  have hb := B.bytes
  have hr := B.returns
  have hts := atoms_spec (ws := wsL_calls) B.pre
  have hown : s.vm.findClass RL = some m.cls := findClass_of_methodNamed B.named
  have hlocks := B.notSynchronized
  subst hsz
  have hD := hD0.self (sz := s.heap.size)
  generalize hAe : va_A (kv_kw ci ad kc kh ks fo kl kp dy mo n pa aE qp qm ql qv qc qe mt mv sw hv tk tn sc) s.heap.size = A at hD hT hT2 ⊢
  have hA : ∀ q : Nat, s.heap.size ≤ q → A q := fun q h => by rw [← hAe]; exact Or.inr h
  have hS : va_S A s.heap s.heap [] := va_S.rf
  have htb : c.exceptionTable.toList = tableOf [(0, 93, 94, 37), (0, 93, 100, 39)] := vx_table (x := yL_calls) B (hts (.codeWith yL_calls cL_calls 7 (some .int) [(0, 93, 94, 37), (0, 93, 100, 39)]) (by decide +kernel))
  refine W.eq (show entryFrame m args 7 = _ from by rw [hv0, lg_entry_eq]) ?_
  have hl := lv_entry ([.ref (ad 0), .int 1, .int p0, .int p1, .int p2, .int p3]) (n := 7) (Nat.le_of_ble_eq_true rfl)
  generalize (lg_sl ([.ref (ad 0), .int 1, .int p0, .int p1, .int p2, .int p3]) ++ List.replicate (7 - (lg_sl ([.ref (ad 0), .int 1, .int p0, .int p1, .int p2, .int p3])).length) Slot.unset).toArray = ls at hl ⊢
  have hl : lv_has ls 7 [(0, .ref (ad 0)), (1, .int 1), (2, .int p0), (3, .int p1), (4, .int p2), (5, .int p3)] := hl
  generalize hRd : pf_L_calls_1 dy n qp ql p0 p1 p2 p3 kl qv = Rz at hRn ⊢
  have e : Rz = kv_cat (pf_X2_release dy n qp ql p0 kl qv) (kl, qv) := hRd.symm
  refine lv_iload_n hx hb dL_calls_0 rfl (lv_at hl 1 rfl) ?_
  refine lv_if_ne (tgt := 13) hx hb dL_calls_1 (by decide) (fun _ => ?_) (fun c9 => absurd c9 (by decide))
  refine lv_iload_n hx hb dL_calls_13 rfl (lv_at hl 1 rfl) ?_
  refine lv_iconst (v := 1) hx hb dL_calls_14 (by decide) ?_
  refine lv_icmp_ne (tgt := 26) hx hb dL_calls_15 (by decide) (fun c9 => absurd rfl c9) (fun _ => ?_)
  refine lv_aload_n hx hb dL_calls_18 rfl (lv_at hl 0 rfl) ?_
  refine lv_iload_n hx hb dL_calls_19 rfl (lv_at hl 2 rfl) ?_
  refine kv_xcalli (vx_runV (As := [.int p0]) (rest := []) ⟨hx, hb, hml, hown, hts⟩ (c_X2_release l hl9 D ci ad kc kh ks fo kl kp dy mo n pa aE qp qm ql qv qc qe mt mv sw hv tk tn sc p0 (kv_cat_n e hRn) s.heap.size) (cwV 1 hts gL_calls_X2_release rfl rfl rfl (by decide +kernel) ⟨Nat.le_of_ble_eq_true rfl, Nat.le_of_ble_eq_true rfl⟩) (kv_preVX hK hP hD hT hS hA (r := (RX2, TX2, 9)) (q0 := 0) (k := 3) rfl rfl rfl) rfl rfl hl.1 rfl (lv_room (Nat.le_of_ble_eq_true rfl)) dL_calls_20 ⟨Nat.le_of_ble_eq_true rfl, Nat.le_of_ble_eq_true rfl⟩) hD hS hA (fun ce q9 u9 H locs hw hP hD hS h1 h2 h3 => ?_) (fun r u H locs hw hP hD hS => ?_)
  · rcases kv_cat_x e hRn hw with ⟨rfl, e⟩ | ⟨rfl, e⟩
    · refine vx_catch (name := "java/lang/IllegalArgumentException") hown ((tableOf [(0, 93, 94, 37), (0, 93, 100, 39)]).take 0) ((tableOf [(0, 93, 94, 37), (0, 93, 100, 39)]).getD 0 default) ((tableOf [(0, 93, 94, 37), (0, 93, 100, 39)]).drop 1) (by rw [htb]; rfl) (fun z hz => ?_) (by decide) (by decide) (hts (.classLink RL 37 "java/lang/IllegalArgumentException") (by decide +kernel)) (va_Nw.use rfl (hT.2.2.2.1 2)) h1 h2 h3 ?_
      · exact absurd hz List.not_mem_nil
      · refine lv_astore (lv' := [(6, .ref q9), (0, .ref (ad 0)), (1, .int 1), (2, .int p0), (3, .int p1), (4, .int p2), (5, .int p3)]) hx hb dL_calls_94 hl (by decide) rfl (fun ls hl => ?_)
        refine lv_sipush (v := (-2002)) hx hb dL_calls_96 (by decide) ?_
        exact W.iret (v := (-2002)) hx hb hr (fun t ht hW => ⟨⟨(-2002), (kl, qv), rfl, e, ⟨by rw [ht]; exact hP, by rw [hAe]; exact hD⟩⟩, hS.F ht⟩) hS.2.2 dL_calls_99
    · refine vx_catch (name := "java/lang/IllegalStateException") hown ((tableOf [(0, 93, 94, 37), (0, 93, 100, 39)]).take 1) ((tableOf [(0, 93, 94, 37), (0, 93, 100, 39)]).getD 1 default) ((tableOf [(0, 93, 94, 37), (0, 93, 100, 39)]).drop 2) (by rw [htb]; rfl) (fun z hz => ?_) (by decide) (by decide) (hts (.classLink RL 39 "java/lang/IllegalStateException") (by decide +kernel)) (va_Nw.use rfl (hT.2.2.2.1 3)) h1 h2 h3 ?_
      · obtain rfl : z = (tableOf [(0, 93, 94, 37), (0, 93, 100, 39)]).getD 0 default := List.mem_singleton.mp hz
        exact Or.inr ⟨by decide, "java/lang/IllegalArgumentException", hts (.classLink RL 37 "java/lang/IllegalArgumentException") (by decide +kernel), hN 3 2 (by decide) (by decide) (by decide) (by decide) (by decide)⟩
      · refine lv_astore (lv' := [(6, .ref q9), (0, .ref (ad 0)), (1, .int 1), (2, .int p0), (3, .int p1), (4, .int p2), (5, .int p3)]) hx hb dL_calls_100 hl (by decide) rfl (fun ls hl => ?_)
        refine lv_sipush (v := (-2003)) hx hb dL_calls_102 (by decide) ?_
        exact W.iret (v := (-2003)) hx hb hr (fun t ht hW => ⟨⟨(-2003), (kl, qv), rfl, e, ⟨by rw [ht]; exact hP, by rw [hAe]; exact hD⟩⟩, hS.F ht⟩) hS.2.2 dL_calls_105
  · obtain ⟨o0, o1⟩ := u
    have e := kv_cat_e e hw
    have hP : va_P D vwCl (kv_kw ci ad kc kh ks fo o0 kp dy mo n pa aE qp qm ql o1 qc qe mt mv sw hv tk tn sc) H := hP
    have hD : va_D A (kv_kw ci ad kc kh ks fo o0 kp dy mo n pa aE qp qm ql o1 qc qe mt mv sw hv tk tn sc) := hD
    refine lv_goto (tgt := 93) hx hb dL_calls_23 (by decide) ?_
    exact W.iret (v := r) hx hb hr (fun t ht hW => ⟨⟨r, (o0, o1), rfl, e, ⟨by rw [ht]; exact hP, by rw [hAe]; exact hD⟩⟩, hS.F ht⟩) hS.2.2 dL_calls_93

def pf_L_calls_2 (kl : Nat → Int32) (dy : Int32) (p0 : Int32) (p1 : Int32) (p2 : Int32) (p3 : Int32) (mo : Int32) (n : Nat) (qp : Nat → Int32) (qm : Nat → Int32) (ql : Nat → Int32) (qv : Nat → Int32) (qc : Nat → Int32) (qe : Nat → Int32) : Option (Int32 × Int32 × Nat × (Nat → Int32) × (Nat → Int32) × (Nat → Int32) × (Nat → Int32) × (Nat → Int32) × (Nat → Int32)) := kv_cat (pf_X2_buy kl dy p0 p1 p2 p3 mo n qp qm ql qv qc qe) (mo, n, qp, qm, ql, qv, qc, qe)
abbrev rmL_calls_2 : Room := { frames := 9, cells := 7, slots := 51, locals := 239 }
theorem buy_n {kl : Nat → Int32} {dy : Int32} {p0 : Int32} {p1 : Int32} {p2 : Int32} {p3 : Int32} {mo : Int32} {n : Nat} {qp : Nat → Int32} {qm : Nat → Int32} {ql : Nat → Int32} {qv : Nat → Int32} {qc : Nat → Int32} {qe : Nat → Int32} {r : Int32} {mo' : Int32} {n' : Nat} {qp' : Nat → Int32} {qm' : Nat → Int32} {ql' : Nat → Int32} {qv' : Nat → Int32} {qc' : Nat → Int32} {qe' : Nat → Int32} (h : pf_X2_buy kl dy p0 p1 p2 p3 mo n qp qm ql qv qc qe = some (.inl (r, mo', n', qp', qm', ql', qv', qc', qe'))) : ¬ n' = 0 := by
  unfold pf_X2_buy at h
  have h := kv_x0_i (kv_x0_i (kv_x0_i (kv_x0_i (kv_x0_i h))))
  obtain ⟨u, h1, h2⟩ := kv_q9_i h
  have h3 := add_n h1
  have h4 : u.2.2.1 = n' := congrArg (fun x => x.2.2.1) (Sum.inl.inj (Option.some.inj h2))
  rw [← h4, h3]
  exact Nat.succ_ne_zero n

set_option maxHeartbeats 4000000 in
set_option maxRecDepth 100000 in
theorem c_L_calls_2 (l : Launch) (hl9 : l.stackTraces = false) (D : va_G) (ci ad : Nat → Nat) (aS : Nat) (kc : Nat → Int32) (kh : Nat → Int32) (ks : Nat → Int32) (fo : Nat → Nat → Int32) (kl : Nat → Int32) (kp : Nat → Int32) (dy : Int32) (mo : Int32) (n : Nat) (pa : Nat → Nat) (aE : Nat) (qp : Nat → Int32) (qm : Nat → Int32) (ql : Nat → Int32) (qv : Nat → Int32) (qc : Nat → Int32) (qe : Nat → Int32) (mt : Nat → Int32) (mv : Nat → Int32) (sw : Nat → Int32) (hv : Int32) (tk : Nat → Int32) (tn : Nat → Int32) (sc : Nat → Int32) (p0 p1 p2 p3 : Int32) (hE : n = 0 → aE = aS) (hRn : pf_L_calls_2 kl dy p0 p1 p2 p3 mo n qp qm ql qv qc qe ≠ none) (sz : Nat) : Met l yL_calls wsL_calls rmL_calls_2 (va_Pc [.ref (ad 0), .int 2, .int p0, .int p1, .int p2, .int p3] (kv_preW D ci aS (kv_kw ci ad kc kh ks fo kl kp dy mo n pa aE qp qm ql qv qc qe mt mv sw hv tk tn sc) sz)) (va_Qi (fun (r : Int32) (u : Int32 × Nat × (Nat → Int32) × (Nat → Int32) × (Nat → Int32) × (Nat → Int32) × (Nat → Int32) × (Nat → Int32) × (Nat → Nat) × Nat) => pf_L_calls_2 kl dy p0 p1 p2 p3 mo n qp qm ql qv qc qe = some (r, u.1, u.2.1, u.2.2.1, u.2.2.2.1, u.2.2.2.2.1, u.2.2.2.2.2.1, u.2.2.2.2.2.2.1, u.2.2.2.2.2.2.2.1) ∧ (u.2.1 = 0 → u.2.2.2.2.2.2.2.2.2 = aS)) (fun u t => kv_post D (kv_kw ci ad kc kh ks fo kl kp dy mo n pa aE qp qm ql qv qc qe mt mv sw hv tk tn sc) sz (kv_kw ci ad kc kh ks fo kl kp dy u.1 u.2.1 u.2.2.2.2.2.2.2.2.1 u.2.2.2.2.2.2.2.2.2 u.2.2.1 u.2.2.2.1 u.2.2.2.2.1 u.2.2.2.2.2.1 u.2.2.2.2.2.2.1 u.2.2.2.2.2.2.2.1 mt mv sw hv tk tn sc) t) (va_A (kv_kw ci ad kc kh ks fo kl kp dy mo n pa aE qp qm ql qv qc qe mt mv sw hv tk tn sc) sz)) 7 51 (va_A (kv_kw ci ad kc kh ks fo kl kp dy mo n pa aE qp qm ql qv qc qe mt mv sw hv tk tn sc) sz) := by
  refine va_MetW (cc := cL_calls) (maxL := 7) (ret := (some .int)) (by decide) rfl ?_
  intro p en s m args below meth c s₁ B hml hv
  obtain ⟨hv0, ⟨⟨⟨hsz, hP, hK, hD0⟩, hT⟩, hT2⟩, hN⟩ := hv
  have hx := B.exec
  have hb := B.bytes
  have hr := B.returns
  have hts := atoms_spec (ws := wsL_calls) B.pre
  have hown : s.vm.findClass RL = some m.cls := findClass_of_methodNamed B.named
  have hlocks := B.notSynchronized
  subst hsz
  have hD := hD0.self (sz := s.heap.size)
  generalize hAe : va_A (kv_kw ci ad kc kh ks fo kl kp dy mo n pa aE qp qm ql qv qc qe mt mv sw hv tk tn sc) s.heap.size = A at hD hT hT2 ⊢
  have hA : ∀ q : Nat, s.heap.size ≤ q → A q := fun q h => by rw [← hAe]; exact Or.inr h
  have hS : va_S A s.heap s.heap [] := va_S.rf
  have htb : c.exceptionTable.toList = tableOf [(0, 93, 94, 37), (0, 93, 100, 39)] := vx_table (x := yL_calls) B (hts (.codeWith yL_calls cL_calls 7 (some .int) [(0, 93, 94, 37), (0, 93, 100, 39)]) (by decide +kernel))
  refine W.eq (show entryFrame m args 7 = _ from by rw [hv0, lg_entry_eq]) ?_
  have hl := lv_entry ([.ref (ad 0), .int 2, .int p0, .int p1, .int p2, .int p3]) (n := 7) (Nat.le_of_ble_eq_true rfl)
  generalize (lg_sl ([.ref (ad 0), .int 2, .int p0, .int p1, .int p2, .int p3]) ++ List.replicate (7 - (lg_sl ([.ref (ad 0), .int 2, .int p0, .int p1, .int p2, .int p3])).length) Slot.unset).toArray = ls at hl ⊢
  have hl : lv_has ls 7 [(0, .ref (ad 0)), (1, .int 2), (2, .int p0), (3, .int p1), (4, .int p2), (5, .int p3)] := hl
  generalize hRd : pf_L_calls_2 kl dy p0 p1 p2 p3 mo n qp qm ql qv qc qe = Rz at hRn ⊢
  have e : Rz = kv_cat (pf_X2_buy kl dy p0 p1 p2 p3 mo n qp qm ql qv qc qe) (mo, n, qp, qm, ql, qv, qc, qe) := hRd.symm
  refine lv_iload_n hx hb dL_calls_0 rfl (lv_at hl 1 rfl) ?_
  refine lv_if_ne (tgt := 13) hx hb dL_calls_1 (by decide) (fun _ => ?_) (fun c9 => absurd c9 (by decide))
  refine lv_iload_n hx hb dL_calls_13 rfl (lv_at hl 1 rfl) ?_
  refine lv_iconst (v := 1) hx hb dL_calls_14 (by decide) ?_
  refine lv_icmp_ne (tgt := 26) hx hb dL_calls_15 (by decide) (fun _ => ?_) (fun c9 => absurd c9 (by decide))
  refine lv_iload_n hx hb dL_calls_26 rfl (lv_at hl 1 rfl) ?_
  refine lv_iconst (v := 2) hx hb dL_calls_27 (by decide) ?_
  refine lv_icmp_ne (tgt := 44) hx hb dL_calls_28 (by decide) (fun c9 => absurd rfl c9) (fun _ => ?_)
  refine lv_aload_n hx hb dL_calls_31 rfl (lv_at hl 0 rfl) ?_
  refine lv_iload_n hx hb dL_calls_32 rfl (lv_at hl 2 rfl) ?_
  refine lv_iload_n hx hb dL_calls_33 rfl (lv_at hl 3 rfl) ?_
  refine lv_iload hx hb dL_calls_34 (lv_at hl 4 rfl) ?_
  refine lv_iload hx hb dL_calls_36 (lv_at hl 5 rfl) ?_
  refine kv_xcalli (vx_runV (As := [.int p0, .int p1, .int p2, .int p3]) (rest := []) ⟨hx, hb, hml, hown, hts⟩ (c_X2_buy l hl9 D ci ad aS kc kh ks fo kl kp dy mo n pa aE qp qm ql qv qc qe mt mv sw hv tk tn sc p0 p1 p2 p3 hE (kv_cat_n e hRn) s.heap.size) (cwV 4 hts gL_calls_X2_buy rfl rfl rfl (by decide +kernel) ⟨Nat.le_of_ble_eq_true rfl, Nat.le_of_ble_eq_true rfl⟩) (kv_preVY hK hP hD hT hT2 hS hA (r := (RX2, TX2, 9)) (q0 := 0) (k := 3) rfl rfl rfl) rfl rfl hl.1 rfl (lv_room (Nat.le_of_ble_eq_true rfl)) dL_calls_38 ⟨Nat.le_of_ble_eq_true rfl, Nat.le_of_ble_eq_true rfl⟩) hD hS hA (fun ce q9 u9 H locs hw hP hD hS h1 h2 h3 => ?_) (fun r u H locs hw hP hD hS => ?_)
  · rcases kv_cat_x e hRn hw with ⟨rfl, e⟩ | ⟨rfl, e⟩
    · refine vx_catch (name := "java/lang/IllegalArgumentException") hown ((tableOf [(0, 93, 94, 37), (0, 93, 100, 39)]).take 0) ((tableOf [(0, 93, 94, 37), (0, 93, 100, 39)]).getD 0 default) ((tableOf [(0, 93, 94, 37), (0, 93, 100, 39)]).drop 1) (by rw [htb]; rfl) (fun z hz => ?_) (by decide) (by decide) (hts (.classLink RL 37 "java/lang/IllegalArgumentException") (by decide +kernel)) (va_Nw.use rfl (hT.2.2.2.1 2)) h1 h2 h3 ?_
      · exact absurd hz List.not_mem_nil
      · refine lv_astore (lv' := [(6, .ref q9), (0, .ref (ad 0)), (1, .int 2), (2, .int p0), (3, .int p1), (4, .int p2), (5, .int p3)]) hx hb dL_calls_94 hl (by decide) rfl (fun ls hl => ?_)
        refine lv_sipush (v := (-2002)) hx hb dL_calls_96 (by decide) ?_
        exact W.iret (v := (-2002)) hx hb hr (fun t ht hW => ⟨⟨(-2002), (mo, n, qp, qm, ql, qv, qc, qe, pa, aE), rfl, ⟨e, hE⟩, ⟨by rw [ht]; exact hP, by rw [hAe]; exact hD⟩⟩, hS.F ht⟩) hS.2.2 dL_calls_99
    · refine vx_catch (name := "java/lang/IllegalStateException") hown ((tableOf [(0, 93, 94, 37), (0, 93, 100, 39)]).take 1) ((tableOf [(0, 93, 94, 37), (0, 93, 100, 39)]).getD 1 default) ((tableOf [(0, 93, 94, 37), (0, 93, 100, 39)]).drop 2) (by rw [htb]; rfl) (fun z hz => ?_) (by decide) (by decide) (hts (.classLink RL 39 "java/lang/IllegalStateException") (by decide +kernel)) (va_Nw.use rfl (hT.2.2.2.1 3)) h1 h2 h3 ?_
      · obtain rfl : z = (tableOf [(0, 93, 94, 37), (0, 93, 100, 39)]).getD 0 default := List.mem_singleton.mp hz
        exact Or.inr ⟨by decide, "java/lang/IllegalArgumentException", hts (.classLink RL 37 "java/lang/IllegalArgumentException") (by decide +kernel), hN 3 2 (by decide) (by decide) (by decide) (by decide) (by decide)⟩
      · refine lv_astore (lv' := [(6, .ref q9), (0, .ref (ad 0)), (1, .int 2), (2, .int p0), (3, .int p1), (4, .int p2), (5, .int p3)]) hx hb dL_calls_100 hl (by decide) rfl (fun ls hl => ?_)
        refine lv_sipush (v := (-2003)) hx hb dL_calls_102 (by decide) ?_
        exact W.iret (v := (-2003)) hx hb hr (fun t ht hW => ⟨⟨(-2003), (mo, n, qp, qm, ql, qv, qc, qe, pa, aE), rfl, ⟨e, hE⟩, ⟨by rw [ht]; exact hP, by rw [hAe]; exact hD⟩⟩, hS.F ht⟩) hS.2.2 dL_calls_105
  · obtain ⟨o0, o1, o2, o3, o4, o5, o6, o7, o8, o9⟩ := u
    have e := kv_cat_e e hw
    have hP : va_P D vwCl (kv_kw ci ad kc kh ks fo kl kp dy o0 o1 o8 o9 o2 o3 o4 o5 o6 o7 mt mv sw hv tk tn sc) H := hP
    have hD : va_D A (kv_kw ci ad kc kh ks fo kl kp dy o0 o1 o8 o9 o2 o3 o4 o5 o6 o7 mt mv sw hv tk tn sc) := hD
    refine lv_goto (tgt := 93) hx hb dL_calls_41 (by decide) ?_
    exact W.iret (v := r) hx hb hr (fun t ht hW => ⟨⟨r, (o0, o1, o2, o3, o4, o5, o6, o7, o8, o9), rfl, ⟨e, fun h => absurd h (buy_n hw)⟩, ⟨by rw [ht]; exact hP, by rw [hAe]; exact hD⟩⟩, hS.F ht⟩) hS.2.2 dL_calls_93

def pf_L_calls_3 (kl : Nat → Int32) (p0 : Int32) (p1 : Int32) (p2 : Int32) (p3 : Int32) (mo : Int32) (n : Nat) (qp : Nat → Int32) (qm : Nat → Int32) (ql : Nat → Int32) (qv : Nat → Int32) (qc : Nat → Int32) (qe : Nat → Int32) : Option (Int32 × Int32 × Nat × (Nat → Int32) × (Nat → Int32) × (Nat → Int32) × (Nat → Int32) × (Nat → Int32) × (Nat → Int32)) := kv_cat (pf_X2_upgrade kl p0 p1 mo n qp qm ql qv qc qe) (mo, n, qp, qm, ql, qv, qc, qe)
abbrev rmL_calls_3 : Room := { frames := 9, cells := 6, slots := 45, locals := 238 }
theorem upgrade_n {kl : Nat → Int32} {p0 : Int32} {p1 : Int32} {mo : Int32} {n : Nat} {qp : Nat → Int32} {qm : Nat → Int32} {ql : Nat → Int32} {qv : Nat → Int32} {qc : Nat → Int32} {qe : Nat → Int32} {r : Int32} {mo' : Int32} {n' : Nat} {qp' : Nat → Int32} {qm' : Nat → Int32} {ql' : Nat → Int32} {qv' : Nat → Int32} {qc' : Nat → Int32} {qe' : Nat → Int32} (h : pf_X2_upgrade kl p0 p1 mo n qp qm ql qv qc qe = some (.inl (r, mo', n', qp', qm', ql', qv', qc', qe'))) : ¬ n' = 0 := by
  unfold pf_X2_upgrade at h
  obtain ⟨k, h0, h⟩ := kv_x1_i h
  have h := kv_G_i (kv_x0_i (kv_x0_i h))
  unfold kv_T at h
  dsimp only at h
  split at h
  · cases h
  · have h := kv_x0_i h
    obtain ⟨u, h1, h2⟩ := kv_q9_i h
    have h3 := add_n h1
    have h4 : u.2.2.1 = n' := congrArg (fun x => x.2.2.1) (Sum.inl.inj (Option.some.inj h2))
    rw [← h4, h3]
    exact Nat.succ_ne_zero n

set_option maxHeartbeats 4000000 in
set_option maxRecDepth 100000 in
theorem c_L_calls_3 (l : Launch) (hl9 : l.stackTraces = false) (D : va_G) (ci ad : Nat → Nat) (aS : Nat) (kc : Nat → Int32) (kh : Nat → Int32) (ks : Nat → Int32) (fo : Nat → Nat → Int32) (kl : Nat → Int32) (kp : Nat → Int32) (dy : Int32) (mo : Int32) (n : Nat) (pa : Nat → Nat) (aE : Nat) (qp : Nat → Int32) (qm : Nat → Int32) (ql : Nat → Int32) (qv : Nat → Int32) (qc : Nat → Int32) (qe : Nat → Int32) (mt : Nat → Int32) (mv : Nat → Int32) (sw : Nat → Int32) (hv : Int32) (tk : Nat → Int32) (tn : Nat → Int32) (sc : Nat → Int32) (p0 p1 p2 p3 : Int32) (hE : n = 0 → aE = aS) (hRn : pf_L_calls_3 kl p0 p1 p2 p3 mo n qp qm ql qv qc qe ≠ none) (sz : Nat) : Met l yL_calls wsL_calls rmL_calls_3 (va_Pc [.ref (ad 0), .int 3, .int p0, .int p1, .int p2, .int p3] (kv_preW D ci aS (kv_kw ci ad kc kh ks fo kl kp dy mo n pa aE qp qm ql qv qc qe mt mv sw hv tk tn sc) sz)) (va_Qi (fun (r : Int32) (u : Int32 × Nat × (Nat → Int32) × (Nat → Int32) × (Nat → Int32) × (Nat → Int32) × (Nat → Int32) × (Nat → Int32) × (Nat → Nat) × Nat) => pf_L_calls_3 kl p0 p1 p2 p3 mo n qp qm ql qv qc qe = some (r, u.1, u.2.1, u.2.2.1, u.2.2.2.1, u.2.2.2.2.1, u.2.2.2.2.2.1, u.2.2.2.2.2.2.1, u.2.2.2.2.2.2.2.1) ∧ (u.2.1 = 0 → u.2.2.2.2.2.2.2.2.2 = aS)) (fun u t => kv_post D (kv_kw ci ad kc kh ks fo kl kp dy mo n pa aE qp qm ql qv qc qe mt mv sw hv tk tn sc) sz (kv_kw ci ad kc kh ks fo kl kp dy u.1 u.2.1 u.2.2.2.2.2.2.2.2.1 u.2.2.2.2.2.2.2.2.2 u.2.2.1 u.2.2.2.1 u.2.2.2.2.1 u.2.2.2.2.2.1 u.2.2.2.2.2.2.1 u.2.2.2.2.2.2.2.1 mt mv sw hv tk tn sc) t) (va_A (kv_kw ci ad kc kh ks fo kl kp dy mo n pa aE qp qm ql qv qc qe mt mv sw hv tk tn sc) sz)) 6 45 (va_A (kv_kw ci ad kc kh ks fo kl kp dy mo n pa aE qp qm ql qv qc qe mt mv sw hv tk tn sc) sz) := by
  refine va_MetW (cc := cL_calls) (maxL := 7) (ret := (some .int)) (by decide) rfl ?_
  intro p en s m args below meth c s₁ B hml hv
  obtain ⟨hv0, ⟨⟨⟨hsz, hP, hK, hD0⟩, hT⟩, hT2⟩, hN⟩ := hv
  have hx := B.exec
  have hb := B.bytes
  have hr := B.returns
  have hts := atoms_spec (ws := wsL_calls) B.pre
  have hown : s.vm.findClass RL = some m.cls := findClass_of_methodNamed B.named
  have hlocks := B.notSynchronized
  subst hsz
  have hD := hD0.self (sz := s.heap.size)
  generalize hAe : va_A (kv_kw ci ad kc kh ks fo kl kp dy mo n pa aE qp qm ql qv qc qe mt mv sw hv tk tn sc) s.heap.size = A at hD hT hT2 ⊢
  have hA : ∀ q : Nat, s.heap.size ≤ q → A q := fun q h => by rw [← hAe]; exact Or.inr h
  have hS : va_S A s.heap s.heap [] := va_S.rf
  have htb : c.exceptionTable.toList = tableOf [(0, 93, 94, 37), (0, 93, 100, 39)] := vx_table (x := yL_calls) B (hts (.codeWith yL_calls cL_calls 7 (some .int) [(0, 93, 94, 37), (0, 93, 100, 39)]) (by decide +kernel))
  refine W.eq (show entryFrame m args 7 = _ from by rw [hv0, lg_entry_eq]) ?_
  have hl := lv_entry ([.ref (ad 0), .int 3, .int p0, .int p1, .int p2, .int p3]) (n := 7) (Nat.le_of_ble_eq_true rfl)
  generalize (lg_sl ([.ref (ad 0), .int 3, .int p0, .int p1, .int p2, .int p3]) ++ List.replicate (7 - (lg_sl ([.ref (ad 0), .int 3, .int p0, .int p1, .int p2, .int p3])).length) Slot.unset).toArray = ls at hl ⊢
  have hl : lv_has ls 7 [(0, .ref (ad 0)), (1, .int 3), (2, .int p0), (3, .int p1), (4, .int p2), (5, .int p3)] := hl
  generalize hRd : pf_L_calls_3 kl p0 p1 p2 p3 mo n qp qm ql qv qc qe = Rz at hRn ⊢
  have e : Rz = kv_cat (pf_X2_upgrade kl p0 p1 mo n qp qm ql qv qc qe) (mo, n, qp, qm, ql, qv, qc, qe) := hRd.symm
  refine lv_iload_n hx hb dL_calls_0 rfl (lv_at hl 1 rfl) ?_
  refine lv_if_ne (tgt := 13) hx hb dL_calls_1 (by decide) (fun _ => ?_) (fun c9 => absurd c9 (by decide))
  refine lv_iload_n hx hb dL_calls_13 rfl (lv_at hl 1 rfl) ?_
  refine lv_iconst (v := 1) hx hb dL_calls_14 (by decide) ?_
  refine lv_icmp_ne (tgt := 26) hx hb dL_calls_15 (by decide) (fun _ => ?_) (fun c9 => absurd c9 (by decide))
  refine lv_iload_n hx hb dL_calls_26 rfl (lv_at hl 1 rfl) ?_
  refine lv_iconst (v := 2) hx hb dL_calls_27 (by decide) ?_
  refine lv_icmp_ne (tgt := 44) hx hb dL_calls_28 (by decide) (fun _ => ?_) (fun c9 => absurd c9 (by decide))
  refine lv_iload_n hx hb dL_calls_44 rfl (lv_at hl 1 rfl) ?_
  refine lv_iconst (v := 3) hx hb dL_calls_45 (by decide) ?_
  refine lv_icmp_ne (tgt := 58) hx hb dL_calls_46 (by decide) (fun c9 => absurd rfl c9) (fun _ => ?_)
  refine lv_aload_n hx hb dL_calls_49 rfl (lv_at hl 0 rfl) ?_
  refine lv_iload_n hx hb dL_calls_50 rfl (lv_at hl 2 rfl) ?_
  refine lv_iload_n hx hb dL_calls_51 rfl (lv_at hl 3 rfl) ?_
  refine kv_xcalli (vx_runV (As := [.int p0, .int p1]) (rest := []) ⟨hx, hb, hml, hown, hts⟩ (c_X2_upgrade l hl9 D ci ad aS kc kh ks fo kl kp dy mo n pa aE qp qm ql qv qc qe mt mv sw hv tk tn sc p0 p1 hE (kv_cat_n e hRn) s.heap.size) (cwV 2 hts gL_calls_X2_upgrade rfl rfl rfl (by decide +kernel) ⟨Nat.le_of_ble_eq_true rfl, Nat.le_of_ble_eq_true rfl⟩) (kv_preVY hK hP hD hT hT2 hS hA (r := (RX2, TX2, 9)) (q0 := 0) (k := 3) rfl rfl rfl) rfl rfl hl.1 rfl (lv_room (Nat.le_of_ble_eq_true rfl)) dL_calls_52 ⟨Nat.le_of_ble_eq_true rfl, Nat.le_of_ble_eq_true rfl⟩) hD hS hA (fun ce q9 u9 H locs hw hP hD hS h1 h2 h3 => ?_) (fun r u H locs hw hP hD hS => ?_)
  · rcases kv_cat_x e hRn hw with ⟨rfl, e⟩ | ⟨rfl, e⟩
    · refine vx_catch (name := "java/lang/IllegalArgumentException") hown ((tableOf [(0, 93, 94, 37), (0, 93, 100, 39)]).take 0) ((tableOf [(0, 93, 94, 37), (0, 93, 100, 39)]).getD 0 default) ((tableOf [(0, 93, 94, 37), (0, 93, 100, 39)]).drop 1) (by rw [htb]; rfl) (fun z hz => ?_) (by decide) (by decide) (hts (.classLink RL 37 "java/lang/IllegalArgumentException") (by decide +kernel)) (va_Nw.use rfl (hT.2.2.2.1 2)) h1 h2 h3 ?_
      · exact absurd hz List.not_mem_nil
      · refine lv_astore (lv' := [(6, .ref q9), (0, .ref (ad 0)), (1, .int 3), (2, .int p0), (3, .int p1), (4, .int p2), (5, .int p3)]) hx hb dL_calls_94 hl (by decide) rfl (fun ls hl => ?_)
        refine lv_sipush (v := (-2002)) hx hb dL_calls_96 (by decide) ?_
        exact W.iret (v := (-2002)) hx hb hr (fun t ht hW => ⟨⟨(-2002), (mo, n, qp, qm, ql, qv, qc, qe, pa, aE), rfl, ⟨e, hE⟩, ⟨by rw [ht]; exact hP, by rw [hAe]; exact hD⟩⟩, hS.F ht⟩) hS.2.2 dL_calls_99
    · refine vx_catch (name := "java/lang/IllegalStateException") hown ((tableOf [(0, 93, 94, 37), (0, 93, 100, 39)]).take 1) ((tableOf [(0, 93, 94, 37), (0, 93, 100, 39)]).getD 1 default) ((tableOf [(0, 93, 94, 37), (0, 93, 100, 39)]).drop 2) (by rw [htb]; rfl) (fun z hz => ?_) (by decide) (by decide) (hts (.classLink RL 39 "java/lang/IllegalStateException") (by decide +kernel)) (va_Nw.use rfl (hT.2.2.2.1 3)) h1 h2 h3 ?_
      · obtain rfl : z = (tableOf [(0, 93, 94, 37), (0, 93, 100, 39)]).getD 0 default := List.mem_singleton.mp hz
        exact Or.inr ⟨by decide, "java/lang/IllegalArgumentException", hts (.classLink RL 37 "java/lang/IllegalArgumentException") (by decide +kernel), hN 3 2 (by decide) (by decide) (by decide) (by decide) (by decide)⟩
      · refine lv_astore (lv' := [(6, .ref q9), (0, .ref (ad 0)), (1, .int 3), (2, .int p0), (3, .int p1), (4, .int p2), (5, .int p3)]) hx hb dL_calls_100 hl (by decide) rfl (fun ls hl => ?_)
        refine lv_sipush (v := (-2003)) hx hb dL_calls_102 (by decide) ?_
        exact W.iret (v := (-2003)) hx hb hr (fun t ht hW => ⟨⟨(-2003), (mo, n, qp, qm, ql, qv, qc, qe, pa, aE), rfl, ⟨e, hE⟩, ⟨by rw [ht]; exact hP, by rw [hAe]; exact hD⟩⟩, hS.F ht⟩) hS.2.2 dL_calls_105
  · obtain ⟨o0, o1, o2, o3, o4, o5, o6, o7, o8, o9⟩ := u
    have e := kv_cat_e e hw
    have hP : va_P D vwCl (kv_kw ci ad kc kh ks fo kl kp dy o0 o1 o8 o9 o2 o3 o4 o5 o6 o7 mt mv sw hv tk tn sc) H := hP
    have hD : va_D A (kv_kw ci ad kc kh ks fo kl kp dy o0 o1 o8 o9 o2 o3 o4 o5 o6 o7 mt mv sw hv tk tn sc) := hD
    refine lv_goto (tgt := 93) hx hb dL_calls_55 (by decide) ?_
    exact W.iret (v := r) hx hb hr (fun t ht hW => ⟨⟨r, (o0, o1, o2, o3, o4, o5, o6, o7, o8, o9), rfl, ⟨e, fun h => absurd h (upgrade_n hw)⟩, ⟨by rw [ht]; exact hP, by rw [hAe]; exact hD⟩⟩, hS.F ht⟩) hS.2.2 dL_calls_93

def pf_L_calls_4 (n : Nat) (p0 : Int32) (p1 : Int32) (p2 : Int32) (p3 : Int32) (qc : Nat → Int32) (qe : Nat → Int32) : Option (Int32 × (Nat → Int32) × (Nat → Int32)) := kv_cat (pf_X2_lend n p0 p1 qc qe) (qc, qe)
abbrev rmL_calls_4 : Room := { frames := 8, cells := 4, slots := 24, locals := 127 }
set_option maxHeartbeats 4000000 in
set_option maxRecDepth 100000 in
theorem c_L_calls_4 (l : Launch) (hl9 : l.stackTraces = false) (D : va_G) (ci ad : Nat → Nat) (aS : Nat) (kc : Nat → Int32) (kh : Nat → Int32) (ks : Nat → Int32) (fo : Nat → Nat → Int32) (kl : Nat → Int32) (kp : Nat → Int32) (dy : Int32) (mo : Int32) (n : Nat) (pa : Nat → Nat) (aE : Nat) (qp : Nat → Int32) (qm : Nat → Int32) (ql : Nat → Int32) (qv : Nat → Int32) (qc : Nat → Int32) (qe : Nat → Int32) (mt : Nat → Int32) (mv : Nat → Int32) (sw : Nat → Int32) (hv : Int32) (tk : Nat → Int32) (tn : Nat → Int32) (sc : Nat → Int32) (p0 p1 p2 p3 : Int32) (hRn : pf_L_calls_4 n p0 p1 p2 p3 qc qe ≠ none) (sz : Nat) : Met l yL_calls wsL_calls rmL_calls_4 (va_Pc [.ref (ad 0), .int 4, .int p0, .int p1, .int p2, .int p3] (kv_preW D ci aS (kv_kw ci ad kc kh ks fo kl kp dy mo n pa aE qp qm ql qv qc qe mt mv sw hv tk tn sc) sz)) (va_Qi (fun (r : Int32) (u : (Nat → Int32) × (Nat → Int32)) => pf_L_calls_4 n p0 p1 p2 p3 qc qe = some (r, u.1, u.2)) (fun u t => kv_post D (kv_kw ci ad kc kh ks fo kl kp dy mo n pa aE qp qm ql qv qc qe mt mv sw hv tk tn sc) sz (kv_kw ci ad kc kh ks fo kl kp dy mo n pa aE qp qm ql qv u.1 u.2 mt mv sw hv tk tn sc) t) (va_A (kv_kw ci ad kc kh ks fo kl kp dy mo n pa aE qp qm ql qv qc qe mt mv sw hv tk tn sc) sz)) 4 24 (va_A (kv_kw ci ad kc kh ks fo kl kp dy mo n pa aE qp qm ql qv qc qe mt mv sw hv tk tn sc) sz) := by
  refine va_MetW (cc := cL_calls) (maxL := 7) (ret := (some .int)) (by decide) rfl ?_
  intro p en s m args below meth c s₁ B hml hv
  obtain ⟨hv0, ⟨⟨⟨hsz, hP, hK, hD0⟩, hT⟩, hT2⟩, hN⟩ := hv
  have hx := B.exec
  have hb := B.bytes
  have hr := B.returns
  have hts := atoms_spec (ws := wsL_calls) B.pre
  have hown : s.vm.findClass RL = some m.cls := findClass_of_methodNamed B.named
  have hlocks := B.notSynchronized
  subst hsz
  have hD := hD0.self (sz := s.heap.size)
  generalize hAe : va_A (kv_kw ci ad kc kh ks fo kl kp dy mo n pa aE qp qm ql qv qc qe mt mv sw hv tk tn sc) s.heap.size = A at hD hT hT2 ⊢
  have hA : ∀ q : Nat, s.heap.size ≤ q → A q := fun q h => by rw [← hAe]; exact Or.inr h
  have hS : va_S A s.heap s.heap [] := va_S.rf
  have htb : c.exceptionTable.toList = tableOf [(0, 93, 94, 37), (0, 93, 100, 39)] := vx_table (x := yL_calls) B (hts (.codeWith yL_calls cL_calls 7 (some .int) [(0, 93, 94, 37), (0, 93, 100, 39)]) (by decide +kernel))
  refine W.eq (show entryFrame m args 7 = _ from by rw [hv0, lg_entry_eq]) ?_
  have hl := lv_entry ([.ref (ad 0), .int 4, .int p0, .int p1, .int p2, .int p3]) (n := 7) (Nat.le_of_ble_eq_true rfl)
  generalize (lg_sl ([.ref (ad 0), .int 4, .int p0, .int p1, .int p2, .int p3]) ++ List.replicate (7 - (lg_sl ([.ref (ad 0), .int 4, .int p0, .int p1, .int p2, .int p3])).length) Slot.unset).toArray = ls at hl ⊢
  have hl : lv_has ls 7 [(0, .ref (ad 0)), (1, .int 4), (2, .int p0), (3, .int p1), (4, .int p2), (5, .int p3)] := hl
  generalize hRd : pf_L_calls_4 n p0 p1 p2 p3 qc qe = Rz at hRn ⊢
  have e : Rz = kv_cat (pf_X2_lend n p0 p1 qc qe) (qc, qe) := hRd.symm
  refine lv_iload_n hx hb dL_calls_0 rfl (lv_at hl 1 rfl) ?_
  refine lv_if_ne (tgt := 13) hx hb dL_calls_1 (by decide) (fun _ => ?_) (fun c9 => absurd c9 (by decide))
  refine lv_iload_n hx hb dL_calls_13 rfl (lv_at hl 1 rfl) ?_
  refine lv_iconst (v := 1) hx hb dL_calls_14 (by decide) ?_
  refine lv_icmp_ne (tgt := 26) hx hb dL_calls_15 (by decide) (fun _ => ?_) (fun c9 => absurd c9 (by decide))
  refine lv_iload_n hx hb dL_calls_26 rfl (lv_at hl 1 rfl) ?_
  refine lv_iconst (v := 2) hx hb dL_calls_27 (by decide) ?_
  refine lv_icmp_ne (tgt := 44) hx hb dL_calls_28 (by decide) (fun _ => ?_) (fun c9 => absurd c9 (by decide))
  refine lv_iload_n hx hb dL_calls_44 rfl (lv_at hl 1 rfl) ?_
  refine lv_iconst (v := 3) hx hb dL_calls_45 (by decide) ?_
  refine lv_icmp_ne (tgt := 58) hx hb dL_calls_46 (by decide) (fun _ => ?_) (fun c9 => absurd c9 (by decide))
  refine lv_iload_n hx hb dL_calls_58 rfl (lv_at hl 1 rfl) ?_
  refine lv_iconst (v := 4) hx hb dL_calls_59 (by decide) ?_
  refine lv_icmp_ne (tgt := 72) hx hb dL_calls_60 (by decide) (fun c9 => absurd rfl c9) (fun _ => ?_)
  refine lv_aload_n hx hb dL_calls_63 rfl (lv_at hl 0 rfl) ?_
  refine lv_iload_n hx hb dL_calls_64 rfl (lv_at hl 2 rfl) ?_
  refine lv_iload_n hx hb dL_calls_65 rfl (lv_at hl 3 rfl) ?_
  refine kv_xcalli (vx_runV (As := [.int p0, .int p1]) (rest := []) ⟨hx, hb, hml, hown, hts⟩ (c_X2_lend l hl9 D ci ad kc kh ks fo kl kp dy mo n pa aE qp qm ql qv qc qe mt mv sw hv tk tn sc p0 p1 (kv_cat_n e hRn) s.heap.size) (cwV 2 hts gL_calls_X2_lend rfl rfl rfl (by decide +kernel) ⟨Nat.le_of_ble_eq_true rfl, Nat.le_of_ble_eq_true rfl⟩) (kv_preVX hK hP hD hT hS hA (r := (RX2, TX2, 9)) (q0 := 0) (k := 3) rfl rfl rfl) rfl rfl hl.1 rfl (lv_room (Nat.le_of_ble_eq_true rfl)) dL_calls_66 ⟨Nat.le_of_ble_eq_true rfl, Nat.le_of_ble_eq_true rfl⟩) hD hS hA (fun ce q9 u9 H locs hw hP hD hS h1 h2 h3 => ?_) (fun r u H locs hw hP hD hS => ?_)
  · rcases kv_cat_x e hRn hw with ⟨rfl, e⟩ | ⟨rfl, e⟩
    · refine vx_catch (name := "java/lang/IllegalArgumentException") hown ((tableOf [(0, 93, 94, 37), (0, 93, 100, 39)]).take 0) ((tableOf [(0, 93, 94, 37), (0, 93, 100, 39)]).getD 0 default) ((tableOf [(0, 93, 94, 37), (0, 93, 100, 39)]).drop 1) (by rw [htb]; rfl) (fun z hz => ?_) (by decide) (by decide) (hts (.classLink RL 37 "java/lang/IllegalArgumentException") (by decide +kernel)) (va_Nw.use rfl (hT.2.2.2.1 2)) h1 h2 h3 ?_
      · exact absurd hz List.not_mem_nil
      · refine lv_astore (lv' := [(6, .ref q9), (0, .ref (ad 0)), (1, .int 4), (2, .int p0), (3, .int p1), (4, .int p2), (5, .int p3)]) hx hb dL_calls_94 hl (by decide) rfl (fun ls hl => ?_)
        refine lv_sipush (v := (-2002)) hx hb dL_calls_96 (by decide) ?_
        exact W.iret (v := (-2002)) hx hb hr (fun t ht hW => ⟨⟨(-2002), (qc, qe), rfl, e, ⟨by rw [ht]; exact hP, by rw [hAe]; exact hD⟩⟩, hS.F ht⟩) hS.2.2 dL_calls_99
    · refine vx_catch (name := "java/lang/IllegalStateException") hown ((tableOf [(0, 93, 94, 37), (0, 93, 100, 39)]).take 1) ((tableOf [(0, 93, 94, 37), (0, 93, 100, 39)]).getD 1 default) ((tableOf [(0, 93, 94, 37), (0, 93, 100, 39)]).drop 2) (by rw [htb]; rfl) (fun z hz => ?_) (by decide) (by decide) (hts (.classLink RL 39 "java/lang/IllegalStateException") (by decide +kernel)) (va_Nw.use rfl (hT.2.2.2.1 3)) h1 h2 h3 ?_
      · obtain rfl : z = (tableOf [(0, 93, 94, 37), (0, 93, 100, 39)]).getD 0 default := List.mem_singleton.mp hz
        exact Or.inr ⟨by decide, "java/lang/IllegalArgumentException", hts (.classLink RL 37 "java/lang/IllegalArgumentException") (by decide +kernel), hN 3 2 (by decide) (by decide) (by decide) (by decide) (by decide)⟩
      · refine lv_astore (lv' := [(6, .ref q9), (0, .ref (ad 0)), (1, .int 4), (2, .int p0), (3, .int p1), (4, .int p2), (5, .int p3)]) hx hb dL_calls_100 hl (by decide) rfl (fun ls hl => ?_)
        refine lv_sipush (v := (-2003)) hx hb dL_calls_102 (by decide) ?_
        exact W.iret (v := (-2003)) hx hb hr (fun t ht hW => ⟨⟨(-2003), (qc, qe), rfl, e, ⟨by rw [ht]; exact hP, by rw [hAe]; exact hD⟩⟩, hS.F ht⟩) hS.2.2 dL_calls_105
  · obtain ⟨o0, o1⟩ := u
    have e := kv_cat_e e hw
    have hP : va_P D vwCl (kv_kw ci ad kc kh ks fo kl kp dy mo n pa aE qp qm ql qv o0 o1 mt mv sw hv tk tn sc) H := hP
    have hD : va_D A (kv_kw ci ad kc kh ks fo kl kp dy mo n pa aE qp qm ql qv o0 o1 mt mv sw hv tk tn sc) := hD
    refine lv_goto (tgt := 93) hx hb dL_calls_69 (by decide) ?_
    exact W.iret (v := r) hx hb hr (fun t ht hW => ⟨⟨r, (o0, o1), rfl, e, ⟨by rw [ht]; exact hP, by rw [hAe]; exact hD⟩⟩, hS.F ht⟩) hS.2.2 dL_calls_93

def pf_L_calls_5 (kc : Nat → Int32) (kh : Nat → Int32) (fo : Nat → Nat → Int32) (kp : Nat → Int32) (n : Nat) (qp : Nat → Int32) (qm : Nat → Int32) (qv : Nat → Int32) (qc : Nat → Int32) (p0 : Int32) (p1 : Int32) (p2 : Int32) (p3 : Int32) (mt : Nat → Int32) (mv : Nat → Int32) (sw : Nat → Int32) (hv : Int32) (tk : Nat → Int32) (tn : Nat → Int32) (sc : Nat → Int32) : Option (Int32 × (Nat → Int32) × (Nat → Int32) × (Nat → Int32) × Int32 × (Nat → Int32) × (Nat → Int32) × (Nat → Int32)) := kv_cat (pf_X2_gapByAll kc kh fo kp n qp qm qv qc p0 mt mv sw hv tk tn sc) (mt, mv, sw, hv, tk, tn, sc)
abbrev rmL_calls_5 : Room := { frames := 8, cells := 2, slots := 12, locals := 129 }
set_option maxHeartbeats 4000000 in
set_option maxRecDepth 100000 in
theorem c_L_calls_5 (l : Launch) (hl9 : l.stackTraces = false) (D : va_G) (ci ad : Nat → Nat) (aS : Nat) (kc : Nat → Int32) (kh : Nat → Int32) (ks : Nat → Int32) (fo : Nat → Nat → Int32) (kl : Nat → Int32) (kp : Nat → Int32) (dy : Int32) (mo : Int32) (n : Nat) (pa : Nat → Nat) (aE : Nat) (qp : Nat → Int32) (qm : Nat → Int32) (ql : Nat → Int32) (qv : Nat → Int32) (qc : Nat → Int32) (qe : Nat → Int32) (mt : Nat → Int32) (mv : Nat → Int32) (sw : Nat → Int32) (hv : Int32) (tk : Nat → Int32) (tn : Nat → Int32) (sc : Nat → Int32) (p0 p1 p2 p3 : Int32) (hRn : pf_L_calls_5 kc kh fo kp n qp qm qv qc p0 p1 p2 p3 mt mv sw hv tk tn sc ≠ none) (sz : Nat) : Met l yL_calls wsL_calls rmL_calls_5 (va_Pc [.ref (ad 0), .int 5, .int p0, .int p1, .int p2, .int p3] (kv_preW D ci aS (kv_kw ci ad kc kh ks fo kl kp dy mo n pa aE qp qm ql qv qc qe mt mv sw hv tk tn sc) sz)) (va_Qi (fun (r : Int32) (u : (Nat → Int32) × (Nat → Int32) × (Nat → Int32) × Int32 × (Nat → Int32) × (Nat → Int32) × (Nat → Int32)) => pf_L_calls_5 kc kh fo kp n qp qm qv qc p0 p1 p2 p3 mt mv sw hv tk tn sc = some (r, u.1, u.2.1, u.2.2.1, u.2.2.2.1, u.2.2.2.2.1, u.2.2.2.2.2.1, u.2.2.2.2.2.2)) (fun u t => kv_post D (kv_kw ci ad kc kh ks fo kl kp dy mo n pa aE qp qm ql qv qc qe mt mv sw hv tk tn sc) sz (kv_kw ci ad kc kh ks fo kl kp dy mo n pa aE qp qm ql qv qc qe u.1 u.2.1 u.2.2.1 u.2.2.2.1 u.2.2.2.2.1 u.2.2.2.2.2.1 u.2.2.2.2.2.2) t) (va_A (kv_kw ci ad kc kh ks fo kl kp dy mo n pa aE qp qm ql qv qc qe mt mv sw hv tk tn sc) sz)) 2 12 (va_A (kv_kw ci ad kc kh ks fo kl kp dy mo n pa aE qp qm ql qv qc qe mt mv sw hv tk tn sc) sz) := by
  refine va_MetW (cc := cL_calls) (maxL := 7) (ret := (some .int)) (by decide) rfl ?_
  intro p en s m args below meth c s₁ B hml hv
  obtain ⟨hv0, ⟨⟨⟨hsz, hP, hK, hD0⟩, hT⟩, hT2⟩, hN⟩ := hv
  have hx := B.exec
  have hb := B.bytes
  have hr := B.returns
  have hts := atoms_spec (ws := wsL_calls) B.pre
  have hown : s.vm.findClass RL = some m.cls := findClass_of_methodNamed B.named
  have hlocks := B.notSynchronized
  subst hsz
  have hD := hD0.self (sz := s.heap.size)
  generalize hAe : va_A (kv_kw ci ad kc kh ks fo kl kp dy mo n pa aE qp qm ql qv qc qe mt mv sw hv tk tn sc) s.heap.size = A at hD hT hT2 ⊢
  have hA : ∀ q : Nat, s.heap.size ≤ q → A q := fun q h => by rw [← hAe]; exact Or.inr h
  have hS : va_S A s.heap s.heap [] := va_S.rf
  have htb : c.exceptionTable.toList = tableOf [(0, 93, 94, 37), (0, 93, 100, 39)] := vx_table (x := yL_calls) B (hts (.codeWith yL_calls cL_calls 7 (some .int) [(0, 93, 94, 37), (0, 93, 100, 39)]) (by decide +kernel))
  refine W.eq (show entryFrame m args 7 = _ from by rw [hv0, lg_entry_eq]) ?_
  have hl := lv_entry ([.ref (ad 0), .int 5, .int p0, .int p1, .int p2, .int p3]) (n := 7) (Nat.le_of_ble_eq_true rfl)
  generalize (lg_sl ([.ref (ad 0), .int 5, .int p0, .int p1, .int p2, .int p3]) ++ List.replicate (7 - (lg_sl ([.ref (ad 0), .int 5, .int p0, .int p1, .int p2, .int p3])).length) Slot.unset).toArray = ls at hl ⊢
  have hl : lv_has ls 7 [(0, .ref (ad 0)), (1, .int 5), (2, .int p0), (3, .int p1), (4, .int p2), (5, .int p3)] := hl
  generalize hRd : pf_L_calls_5 kc kh fo kp n qp qm qv qc p0 p1 p2 p3 mt mv sw hv tk tn sc = Rz at hRn ⊢
  have e : Rz = kv_cat (pf_X2_gapByAll kc kh fo kp n qp qm qv qc p0 mt mv sw hv tk tn sc) (mt, mv, sw, hv, tk, tn, sc) := hRd.symm
  refine lv_iload_n hx hb dL_calls_0 rfl (lv_at hl 1 rfl) ?_
  refine lv_if_ne (tgt := 13) hx hb dL_calls_1 (by decide) (fun _ => ?_) (fun c9 => absurd c9 (by decide))
  refine lv_iload_n hx hb dL_calls_13 rfl (lv_at hl 1 rfl) ?_
  refine lv_iconst (v := 1) hx hb dL_calls_14 (by decide) ?_
  refine lv_icmp_ne (tgt := 26) hx hb dL_calls_15 (by decide) (fun _ => ?_) (fun c9 => absurd c9 (by decide))
  refine lv_iload_n hx hb dL_calls_26 rfl (lv_at hl 1 rfl) ?_
  refine lv_iconst (v := 2) hx hb dL_calls_27 (by decide) ?_
  refine lv_icmp_ne (tgt := 44) hx hb dL_calls_28 (by decide) (fun _ => ?_) (fun c9 => absurd c9 (by decide))
  refine lv_iload_n hx hb dL_calls_44 rfl (lv_at hl 1 rfl) ?_
  refine lv_iconst (v := 3) hx hb dL_calls_45 (by decide) ?_
  refine lv_icmp_ne (tgt := 58) hx hb dL_calls_46 (by decide) (fun _ => ?_) (fun c9 => absurd c9 (by decide))
  refine lv_iload_n hx hb dL_calls_58 rfl (lv_at hl 1 rfl) ?_
  refine lv_iconst (v := 4) hx hb dL_calls_59 (by decide) ?_
  refine lv_icmp_ne (tgt := 72) hx hb dL_calls_60 (by decide) (fun _ => ?_) (fun c9 => absurd c9 (by decide))
  refine lv_iload_n hx hb dL_calls_72 rfl (lv_at hl 1 rfl) ?_
  refine lv_iconst (v := 5) hx hb dL_calls_73 (by decide) ?_
  refine lv_icmp_ne (tgt := 85) hx hb dL_calls_74 (by decide) (fun c9 => absurd rfl c9) (fun _ => ?_)
  refine lv_aload_n hx hb dL_calls_77 rfl (lv_at hl 0 rfl) ?_
  refine lv_iload_n hx hb dL_calls_78 rfl (lv_at hl 2 rfl) ?_
  refine kv_xcalli (vx_runV (As := [.int p0]) (rest := []) ⟨hx, hb, hml, hown, hts⟩ (c_X2_gapByAll l hl9 D ci ad kc kh ks fo kl kp dy mo n pa aE qp qm ql qv qc qe mt mv sw hv tk tn sc p0 (kv_cat_n e hRn) s.heap.size) (cwV 1 hts gL_calls_X2_gapByAll rfl rfl rfl (by decide +kernel) ⟨Nat.le_of_ble_eq_true rfl, Nat.le_of_ble_eq_true rfl⟩) (kv_preVX hK hP hD hT hS hA (r := (RX2, TX2, 9)) (q0 := 0) (k := 3) rfl rfl rfl) rfl rfl hl.1 rfl (lv_room (Nat.le_of_ble_eq_true rfl)) dL_calls_79 ⟨Nat.le_of_ble_eq_true rfl, Nat.le_of_ble_eq_true rfl⟩) hD hS hA (fun ce q9 u9 H locs hw hP hD hS h1 h2 h3 => ?_) (fun r u H locs hw hP hD hS => ?_)
  · rcases kv_cat_x e hRn hw with ⟨rfl, e⟩ | ⟨rfl, e⟩
    · refine vx_catch (name := "java/lang/IllegalArgumentException") hown ((tableOf [(0, 93, 94, 37), (0, 93, 100, 39)]).take 0) ((tableOf [(0, 93, 94, 37), (0, 93, 100, 39)]).getD 0 default) ((tableOf [(0, 93, 94, 37), (0, 93, 100, 39)]).drop 1) (by rw [htb]; rfl) (fun z hz => ?_) (by decide) (by decide) (hts (.classLink RL 37 "java/lang/IllegalArgumentException") (by decide +kernel)) (va_Nw.use rfl (hT.2.2.2.1 2)) h1 h2 h3 ?_
      · exact absurd hz List.not_mem_nil
      · refine lv_astore (lv' := [(6, .ref q9), (0, .ref (ad 0)), (1, .int 5), (2, .int p0), (3, .int p1), (4, .int p2), (5, .int p3)]) hx hb dL_calls_94 hl (by decide) rfl (fun ls hl => ?_)
        refine lv_sipush (v := (-2002)) hx hb dL_calls_96 (by decide) ?_
        exact W.iret (v := (-2002)) hx hb hr (fun t ht hW => ⟨⟨(-2002), (mt, mv, sw, hv, tk, tn, sc), rfl, e, ⟨by rw [ht]; exact hP, by rw [hAe]; exact hD⟩⟩, hS.F ht⟩) hS.2.2 dL_calls_99
    · refine vx_catch (name := "java/lang/IllegalStateException") hown ((tableOf [(0, 93, 94, 37), (0, 93, 100, 39)]).take 1) ((tableOf [(0, 93, 94, 37), (0, 93, 100, 39)]).getD 1 default) ((tableOf [(0, 93, 94, 37), (0, 93, 100, 39)]).drop 2) (by rw [htb]; rfl) (fun z hz => ?_) (by decide) (by decide) (hts (.classLink RL 39 "java/lang/IllegalStateException") (by decide +kernel)) (va_Nw.use rfl (hT.2.2.2.1 3)) h1 h2 h3 ?_
      · obtain rfl : z = (tableOf [(0, 93, 94, 37), (0, 93, 100, 39)]).getD 0 default := List.mem_singleton.mp hz
        exact Or.inr ⟨by decide, "java/lang/IllegalArgumentException", hts (.classLink RL 37 "java/lang/IllegalArgumentException") (by decide +kernel), hN 3 2 (by decide) (by decide) (by decide) (by decide) (by decide)⟩
      · refine lv_astore (lv' := [(6, .ref q9), (0, .ref (ad 0)), (1, .int 5), (2, .int p0), (3, .int p1), (4, .int p2), (5, .int p3)]) hx hb dL_calls_100 hl (by decide) rfl (fun ls hl => ?_)
        refine lv_sipush (v := (-2003)) hx hb dL_calls_102 (by decide) ?_
        exact W.iret (v := (-2003)) hx hb hr (fun t ht hW => ⟨⟨(-2003), (mt, mv, sw, hv, tk, tn, sc), rfl, e, ⟨by rw [ht]; exact hP, by rw [hAe]; exact hD⟩⟩, hS.F ht⟩) hS.2.2 dL_calls_105
  · obtain ⟨o0, o1, o2, o3, o4, o5, o6⟩ := u
    have e := kv_cat_e e hw
    have hP : va_P D vwCl (kv_kw ci ad kc kh ks fo kl kp dy mo n pa aE qp qm ql qv qc qe o0 o1 o2 o3 o4 o5 o6) H := hP
    have hD : va_D A (kv_kw ci ad kc kh ks fo kl kp dy mo n pa aE qp qm ql qv qc qe o0 o1 o2 o3 o4 o5 o6) := hD
    refine lv_goto (tgt := 93) hx hb dL_calls_82 (by decide) ?_
    exact W.iret (v := r) hx hb hr (fun t ht hW => ⟨⟨r, (o0, o1, o2, o3, o4, o5, o6), rfl, e, ⟨by rw [ht]; exact hP, by rw [hAe]; exact hD⟩⟩, hS.F ht⟩) hS.2.2 dL_calls_93

def pf_L_calls_6 (kc : Nat → Int32) (kh : Nat → Int32) (fo : Nat → Nat → Int32) (kp : Nat → Int32) (n : Nat) (qp : Nat → Int32) (qm : Nat → Int32) (qv : Nat → Int32) (qc : Nat → Int32) (p0 : Int32) (p1 : Int32) (p2 : Int32) (p3 : Int32) (ks : Nat → Int32) (mt : Nat → Int32) (mv : Nat → Int32) (sw : Nat → Int32) (hv : Int32) (tk : Nat → Int32) : Option (Int32 × (Nat → Int32) × (Nat → Int32) × (Nat → Int32) × (Nat → Int32) × Int32 × (Nat → Int32)) := kv_cat (pf_X2_gapIf kc kh fo kp n qp qm qv qc p0 p1 p2 ks mt mv sw hv tk) (ks, mt, mv, sw, hv, tk)
abbrev rmL_calls_6 : Room := { frames := 9, cells := 4, slots := 24, locals := 147 }
set_option maxHeartbeats 4000000 in
set_option maxRecDepth 100000 in
theorem c_L_calls_6 (l : Launch) (hl9 : l.stackTraces = false) (D : va_G) (ci ad : Nat → Nat) (aS : Nat) (kc : Nat → Int32) (kh : Nat → Int32) (ks : Nat → Int32) (fo : Nat → Nat → Int32) (kl : Nat → Int32) (kp : Nat → Int32) (dy : Int32) (mo : Int32) (n : Nat) (pa : Nat → Nat) (aE : Nat) (qp : Nat → Int32) (qm : Nat → Int32) (ql : Nat → Int32) (qv : Nat → Int32) (qc : Nat → Int32) (qe : Nat → Int32) (mt : Nat → Int32) (mv : Nat → Int32) (sw : Nat → Int32) (hv : Int32) (tk : Nat → Int32) (tn : Nat → Int32) (sc : Nat → Int32) (p0 p1 p2 p3 : Int32) (hRn : pf_L_calls_6 kc kh fo kp n qp qm qv qc p0 p1 p2 p3 ks mt mv sw hv tk ≠ none) (sz : Nat) : Met l yL_calls wsL_calls rmL_calls_6 (va_Pc [.ref (ad 0), .int 6, .int p0, .int p1, .int p2, .int p3] (kv_preW D ci aS (kv_kw ci ad kc kh ks fo kl kp dy mo n pa aE qp qm ql qv qc qe mt mv sw hv tk tn sc) sz)) (va_Qi (fun (r : Int32) (u : (Nat → Int32) × (Nat → Int32) × (Nat → Int32) × (Nat → Int32) × Int32 × (Nat → Int32)) => pf_L_calls_6 kc kh fo kp n qp qm qv qc p0 p1 p2 p3 ks mt mv sw hv tk = some (r, u.1, u.2.1, u.2.2.1, u.2.2.2.1, u.2.2.2.2.1, u.2.2.2.2.2)) (fun u t => kv_post D (kv_kw ci ad kc kh ks fo kl kp dy mo n pa aE qp qm ql qv qc qe mt mv sw hv tk tn sc) sz (kv_kw ci ad kc kh u.1 fo kl kp dy mo n pa aE qp qm ql qv qc qe u.2.1 u.2.2.1 u.2.2.2.1 u.2.2.2.2.1 u.2.2.2.2.2 tn sc) t) (va_A (kv_kw ci ad kc kh ks fo kl kp dy mo n pa aE qp qm ql qv qc qe mt mv sw hv tk tn sc) sz)) 4 24 (va_A (kv_kw ci ad kc kh ks fo kl kp dy mo n pa aE qp qm ql qv qc qe mt mv sw hv tk tn sc) sz) := by
  refine va_MetW (cc := cL_calls) (maxL := 7) (ret := (some .int)) (by decide) rfl ?_
  intro p en s m args below meth c s₁ B hml hv
  obtain ⟨hv0, ⟨⟨⟨hsz, hP, hK, hD0⟩, hT⟩, hT2⟩, hN⟩ := hv
  have hx := B.exec
  have hb := B.bytes
  have hr := B.returns
  have hts := atoms_spec (ws := wsL_calls) B.pre
  have hown : s.vm.findClass RL = some m.cls := findClass_of_methodNamed B.named
  have hlocks := B.notSynchronized
  subst hsz
  have hD := hD0.self (sz := s.heap.size)
  generalize hAe : va_A (kv_kw ci ad kc kh ks fo kl kp dy mo n pa aE qp qm ql qv qc qe mt mv sw hv tk tn sc) s.heap.size = A at hD hT hT2 ⊢
  have hA : ∀ q : Nat, s.heap.size ≤ q → A q := fun q h => by rw [← hAe]; exact Or.inr h
  have hS : va_S A s.heap s.heap [] := va_S.rf
  have htb : c.exceptionTable.toList = tableOf [(0, 93, 94, 37), (0, 93, 100, 39)] := vx_table (x := yL_calls) B (hts (.codeWith yL_calls cL_calls 7 (some .int) [(0, 93, 94, 37), (0, 93, 100, 39)]) (by decide +kernel))
  refine W.eq (show entryFrame m args 7 = _ from by rw [hv0, lg_entry_eq]) ?_
  have hl := lv_entry ([.ref (ad 0), .int 6, .int p0, .int p1, .int p2, .int p3]) (n := 7) (Nat.le_of_ble_eq_true rfl)
  generalize (lg_sl ([.ref (ad 0), .int 6, .int p0, .int p1, .int p2, .int p3]) ++ List.replicate (7 - (lg_sl ([.ref (ad 0), .int 6, .int p0, .int p1, .int p2, .int p3])).length) Slot.unset).toArray = ls at hl ⊢
  have hl : lv_has ls 7 [(0, .ref (ad 0)), (1, .int 6), (2, .int p0), (3, .int p1), (4, .int p2), (5, .int p3)] := hl
  generalize hRd : pf_L_calls_6 kc kh fo kp n qp qm qv qc p0 p1 p2 p3 ks mt mv sw hv tk = Rz at hRn ⊢
  have e : Rz = kv_cat (pf_X2_gapIf kc kh fo kp n qp qm qv qc p0 p1 p2 ks mt mv sw hv tk) (ks, mt, mv, sw, hv, tk) := hRd.symm
  refine lv_iload_n hx hb dL_calls_0 rfl (lv_at hl 1 rfl) ?_
  refine lv_if_ne (tgt := 13) hx hb dL_calls_1 (by decide) (fun _ => ?_) (fun c9 => absurd c9 (by decide))
  refine lv_iload_n hx hb dL_calls_13 rfl (lv_at hl 1 rfl) ?_
  refine lv_iconst (v := 1) hx hb dL_calls_14 (by decide) ?_
  refine lv_icmp_ne (tgt := 26) hx hb dL_calls_15 (by decide) (fun _ => ?_) (fun c9 => absurd c9 (by decide))
  refine lv_iload_n hx hb dL_calls_26 rfl (lv_at hl 1 rfl) ?_
  refine lv_iconst (v := 2) hx hb dL_calls_27 (by decide) ?_
  refine lv_icmp_ne (tgt := 44) hx hb dL_calls_28 (by decide) (fun _ => ?_) (fun c9 => absurd c9 (by decide))
  refine lv_iload_n hx hb dL_calls_44 rfl (lv_at hl 1 rfl) ?_
  refine lv_iconst (v := 3) hx hb dL_calls_45 (by decide) ?_
  refine lv_icmp_ne (tgt := 58) hx hb dL_calls_46 (by decide) (fun _ => ?_) (fun c9 => absurd c9 (by decide))
  refine lv_iload_n hx hb dL_calls_58 rfl (lv_at hl 1 rfl) ?_
  refine lv_iconst (v := 4) hx hb dL_calls_59 (by decide) ?_
  refine lv_icmp_ne (tgt := 72) hx hb dL_calls_60 (by decide) (fun _ => ?_) (fun c9 => absurd c9 (by decide))
  refine lv_iload_n hx hb dL_calls_72 rfl (lv_at hl 1 rfl) ?_
  refine lv_iconst (v := 5) hx hb dL_calls_73 (by decide) ?_
  refine lv_icmp_ne (tgt := 85) hx hb dL_calls_74 (by decide) (fun _ => ?_) (fun c9 => absurd c9 (by decide))
  refine lv_aload_n hx hb dL_calls_85 rfl (lv_at hl 0 rfl) ?_
  refine lv_iload_n hx hb dL_calls_86 rfl (lv_at hl 2 rfl) ?_
  refine lv_iload_n hx hb dL_calls_87 rfl (lv_at hl 3 rfl) ?_
  refine lv_iload hx hb dL_calls_88 (lv_at hl 4 rfl) ?_
  refine kv_xcalli (vx_runV (As := [.int p0, .int p1, .int p2]) (rest := []) ⟨hx, hb, hml, hown, hts⟩ (c_X2_gapIf l hl9 D ci ad kc kh ks fo kl kp dy mo n pa aE qp qm ql qv qc qe mt mv sw hv tk tn sc p0 p1 p2 (kv_cat_n e hRn) s.heap.size) (cwV 3 hts gL_calls_X2_gapIf rfl rfl rfl (by decide +kernel) ⟨Nat.le_of_ble_eq_true rfl, Nat.le_of_ble_eq_true rfl⟩) (kv_preVX hK hP hD hT hS hA (r := (RX2, TX2, 9)) (q0 := 0) (k := 3) rfl rfl rfl) rfl rfl hl.1 rfl (lv_room (Nat.le_of_ble_eq_true rfl)) dL_calls_90 ⟨Nat.le_of_ble_eq_true rfl, Nat.le_of_ble_eq_true rfl⟩) hD hS hA (fun ce q9 u9 H locs hw hP hD hS h1 h2 h3 => ?_) (fun r u H locs hw hP hD hS => ?_)
  · rcases kv_cat_x e hRn hw with ⟨rfl, e⟩ | ⟨rfl, e⟩
    · refine vx_catch (name := "java/lang/IllegalArgumentException") hown ((tableOf [(0, 93, 94, 37), (0, 93, 100, 39)]).take 0) ((tableOf [(0, 93, 94, 37), (0, 93, 100, 39)]).getD 0 default) ((tableOf [(0, 93, 94, 37), (0, 93, 100, 39)]).drop 1) (by rw [htb]; rfl) (fun z hz => ?_) (by decide) (by decide) (hts (.classLink RL 37 "java/lang/IllegalArgumentException") (by decide +kernel)) (va_Nw.use rfl (hT.2.2.2.1 2)) h1 h2 h3 ?_
      · exact absurd hz List.not_mem_nil
      · refine lv_astore (lv' := [(6, .ref q9), (0, .ref (ad 0)), (1, .int 6), (2, .int p0), (3, .int p1), (4, .int p2), (5, .int p3)]) hx hb dL_calls_94 hl (by decide) rfl (fun ls hl => ?_)
        refine lv_sipush (v := (-2002)) hx hb dL_calls_96 (by decide) ?_
        exact W.iret (v := (-2002)) hx hb hr (fun t ht hW => ⟨⟨(-2002), (ks, mt, mv, sw, hv, tk), rfl, e, ⟨by rw [ht]; exact hP, by rw [hAe]; exact hD⟩⟩, hS.F ht⟩) hS.2.2 dL_calls_99
    · refine vx_catch (name := "java/lang/IllegalStateException") hown ((tableOf [(0, 93, 94, 37), (0, 93, 100, 39)]).take 1) ((tableOf [(0, 93, 94, 37), (0, 93, 100, 39)]).getD 1 default) ((tableOf [(0, 93, 94, 37), (0, 93, 100, 39)]).drop 2) (by rw [htb]; rfl) (fun z hz => ?_) (by decide) (by decide) (hts (.classLink RL 39 "java/lang/IllegalStateException") (by decide +kernel)) (va_Nw.use rfl (hT.2.2.2.1 3)) h1 h2 h3 ?_
      · obtain rfl : z = (tableOf [(0, 93, 94, 37), (0, 93, 100, 39)]).getD 0 default := List.mem_singleton.mp hz
        exact Or.inr ⟨by decide, "java/lang/IllegalArgumentException", hts (.classLink RL 37 "java/lang/IllegalArgumentException") (by decide +kernel), hN 3 2 (by decide) (by decide) (by decide) (by decide) (by decide)⟩
      · refine lv_astore (lv' := [(6, .ref q9), (0, .ref (ad 0)), (1, .int 6), (2, .int p0), (3, .int p1), (4, .int p2), (5, .int p3)]) hx hb dL_calls_100 hl (by decide) rfl (fun ls hl => ?_)
        refine lv_sipush (v := (-2003)) hx hb dL_calls_102 (by decide) ?_
        exact W.iret (v := (-2003)) hx hb hr (fun t ht hW => ⟨⟨(-2003), (ks, mt, mv, sw, hv, tk), rfl, e, ⟨by rw [ht]; exact hP, by rw [hAe]; exact hD⟩⟩, hS.F ht⟩) hS.2.2 dL_calls_105
  · obtain ⟨o0, o1, o2, o3, o4, o5⟩ := u
    have e := kv_cat_e e hw
    have hP : va_P D vwCl (kv_kw ci ad kc kh o0 fo kl kp dy mo n pa aE qp qm ql qv qc qe o1 o2 o3 o4 o5 tn sc) H := hP
    have hD : va_D A (kv_kw ci ad kc kh o0 fo kl kp dy mo n pa aE qp qm ql qv qc qe o1 o2 o3 o4 o5 tn sc) := hD
    exact W.iret (v := r) hx hb hr (fun t ht hW => ⟨⟨r, (o0, o1, o2, o3, o4, o5), rfl, e, ⟨by rw [ht]; exact hP, by rw [hAe]; exact hD⟩⟩, hS.F ht⟩) hS.2.2 dL_calls_93
