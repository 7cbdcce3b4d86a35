/-! ===== BEGIN .. of methods that hand back an object of the pool ===== -/
section
variable {p : Program} {l : Launch} {e : Env} {R : Room} {s : State} {m : MethodId} {args : Array Value} {below : List Frame} {meth : Method} {c : Code} {H : Heap} {locs : List Loc} {cells slots : Nat} {Q : State → Prop}
variable {mc ms : Nat} {free : Addr → Prop} {A0 A1 : Nat → Prop} {H0 : Heap} {a : Array Value} {pc : Nat} {ls : Array Slot} {st0 rest : List Value}
theorem vx_callq {S SX : Type} {post : Option Nat → S → Prop} {px : SX → Prop} {B : S → State → Prop} {BX : String → SX → State → Prop} {AX : Nat → Prop} (hr : vx_Run p l e R s m args below meth c H locs cells slots mc ms (F0 m pc ls st0) rest (va_Qq post B A1 a) (vx_X px BX AX) free) (hS : va_S A0 H0 H locs) (hA : ∀ q, q < H.size → A1 q → A0 q) (hf : ∀ q, free q → A0 q) (hAX : ∀ q, q < H.size → AX q → A0 q)
    (kx : ∀ (E : String) (ce : Cell) (q9 : Addr) (u : SX) (t : State) (H1 : Heap) (locs1 : List Loc), t.heap = H1 → s.vm.Alike t.vm → px u → BX E u t → H.size ≤ H1.size → (∀ q : Nat, q < H.size → ¬ AX q → H1[q]? = H[q]?) → va_S A0 H0 H1 locs1 → H1[q9]? = some ce → ce.vm = .none → s.vm.findClass E = some ce.cls → vx_W p l e R s m args below meth c H1 locs1 (cells + mc) (slots + ms) Q (F0 m pc ls rest) q9)
    (kk : ∀ (r : Option Nat) (u : S) (t : State) (H1 : Heap) (locs1 : List Loc), t.heap = H1 → s.vm.Alike t.vm → post r u → B u t → H.size ≤ H1.size → (∀ q : Nat, q < H.size → ¬ A1 q → H1[q]? = H[q]?) → va_S A0 H0 H1 locs1 → W p l e R s m args below meth c H1 locs1 (cells + mc) (slots + ms) Q (F0 m (pc + 3) ls (va_rf r :: rest))) : W p l e R s m args below meth c H locs cells slots Q (F0 m pc ls st0) := by
  intro T hT X
  rcases hr T hT X with ⟨v, st₀, t, T', L, h0, X', hL, e1, e2, ⟨⟨r, u, hv, hp, hb⟩, hF⟩, st⟩ | ⟨q, st₀, t, T', L, E, ce, h0, X', hL, e1, e2, ⟨u, hp, hb, hF⟩, hce, hcv, hcl, st⟩
  · cases hv
    obtain ⟨k1, k2, k3⟩ := vx_keep h0 e1 hS hA hf hL hF
    obtain ⟨t2, a1, b1⟩ := kk r u t T'.heap (locs ++ L) e1.symm (by rw [← e2]; exact X'.warmed.alike) hp hb k1 k2 k3 T' rfl X'
    exact ⟨t2, st t2 a1, b1⟩
  · obtain ⟨k1, k2, k3⟩ := vx_keep h0 e1 hS hAX hf hL hF
    obtain ⟨t2, a1, b1⟩ := kx E ce q u t T'.heap (locs ++ L) e1.symm (by rw [← e2]; exact X'.warmed.alike) hp hb k1 k2 k3 (by rw [e1]; exact hce) hcv hcl T' rfl X'
    exact ⟨t2, st.trans a1, b1⟩
end
-- ===== THE KEEPER'S WORLD =====
section KVK
/-- the places of the list's row, the first n taken -/
def kv_els (n : Nat) (pa : Nat → Nat) : Nat → Option Nat := fun i => if i < n then some (pa i) else none
def kv_cap (n : Nat) : Nat := if n ≤ 10 then 10 else 15
def kv_ed (ci : Nat → Nat) (n : Nat) (pa : Nat → Nat) (aE : Nat) : va_W := match n with
  | 0 => []
  | k + 1 => [(aE, .inl (ci 2, kv_cap (k + 1), .inr (.inr (.inr (.inr (kv_els (k + 1) pa))))))]
def kv_rights (n : Nat) (pa : Nat → Nat) (qp qm ql qv qc qe : Nat → Int32) : va_W := (List.range n).map fun i => (pa i, .inr (2, [.int (qp i), .int (qm i), .int (ql i), .int (qv i), .int (qc i), .int (qe i)]))
def kv_upR (fo : Nat → Nat → Int32) (r : Nat) (g : Nat → Int32) : Nat → Nat → Int32 := fun k => if k = r then g else fo k
def kv_fill (f : Nat → Int32) (n : Nat) (v : Int32) : Nat → Int32 := fun j => if j < n then v else f j
def kv_outer (ad : Nat → Nat) : Nat → Option Nat := fun i => if i < 8 then some (ad (16 + i)) else none
def kv_kw (ci ad : Nat → Nat) (kc : Nat → Int32) (kh : Nat → Int32) (ks : Nat → Int32) (fo : Nat → Nat → Int32) (kl : Nat → Int32) (kp : Nat → Int32) (dy : Int32) (mo : Int32) (n : Nat) (pa : Nat → Nat) (aE : Nat) (qp : Nat → Int32) (qm : Nat → Int32) (ql : Nat → Int32) (qv : Nat → Int32) (qc : Nat → Int32) (qe : Nat → Int32) (mt : Nat → Int32) (mv : Nat → Int32) (sw : Nat → Int32) (hv : Int32) (tk : Nat → Int32) (tn : Nat → Int32) (sc : Nat → Int32) : va_W := [((ad 0), .inr (3, [.ref (ad 1), .ref (ad 2), .ref (ad 3), .ref (ad 4), .ref (ad 5), .ref (ad 6), .ref (ad 7), .ref (ad 8), .int dy])),
  ((ad 1), .inl (ci 0, 8, .inl kc)),
  ((ad 2), .inl (ci 0, 8, .inl kh)),
  ((ad 3), .inl (ci 0, 8, .inl ks)),
  ((ad 4), .inl (ci 3, 8, .inr (.inr (.inr (.inr (kv_outer ad)))))),
  ((ad 5), .inl (ci 0, 4, .inl kl)),
  ((ad 6), .inl (ci 0, 4, .inl kp)),
  ((ad 7), .inr (0, [.int mo, .ref aE, .int (nI n)])),
  ((ad 8), .inr (1, [.ref (ad 9), .ref (ad 10), .ref (ad 11), .int hv, .ref (ad 12), .ref (ad 13), .ref (ad 14)])),
  ((ad 9), .inl (ci 0, 8, .inl mt)),
  ((ad 10), .inl (ci 0, 8, .inl mv)),
  ((ad 11), .inl (ci 0, 256, .inl sw)),
  ((ad 12), .inl (ci 0, 256, .inl tk)),
  ((ad 13), .inl (ci 0, 256, .inl tn)),
  ((ad 14), .inl (ci 0, 256, .inl sc)),
  (ad 16, .inl (ci 0, 4, .inl (fo 0))),
  (ad 17, .inl (ci 0, 4, .inl (fo 1))),
  (ad 18, .inl (ci 0, 4, .inl (fo 2))),
  (ad 19, .inl (ci 0, 4, .inl (fo 3))),
  (ad 20, .inl (ci 0, 4, .inl (fo 4))),
  (ad 21, .inl (ci 0, 4, .inl (fo 5))),
  (ad 22, .inl (ci 0, 4, .inl (fo 6))),
  (ad 23, .inl (ci 0, 4, .inl (fo 7)))] ++ (kv_ed ci n pa aE ++ kv_rights n pa qp qm ql qv qc qe)
theorem kv_kw_split (ci ad : Nat → Nat) (kc : Nat → Int32) (kh : Nat → Int32) (ks : Nat → Int32) (fo : Nat → Nat → Int32) (kl : Nat → Int32) (kp : Nat → Int32) (dy : Int32) (mo : Int32) (n : Nat) (pa : Nat → Nat) (aE : Nat) (qp : Nat → Int32) (qm : Nat → Int32) (ql : Nat → Int32) (qv : Nat → Int32) (qc : Nat → Int32) (qe : Nat → Int32) (mt : Nat → Int32) (mv : Nat → Int32) (sw : Nat → Int32) (hv : Int32) (tk : Nat → Int32) (tn : Nat → Int32) (sc : Nat → Int32) : ∃ X : va_W, X.length = 23 ∧ kv_kw ci ad kc kh ks fo kl kp dy mo n pa aE qp qm ql qv qc qe mt mv sw hv tk tn sc = X ++ (kv_ed ci n pa aE ++ kv_rights n pa qp qm ql qv qc qe) := ⟨_, rfl, rfl⟩
theorem kv_rt {ci ad : Nat → Nat} {kc : Nat → Int32} {kh : Nat → Int32} {ks : Nat → Int32} {fo : Nat → Nat → Int32} {kl : Nat → Int32} {kp : Nat → Int32} {dy : Int32} {mo : Int32} {n : Nat} {pa : Nat → Nat} {aE : Nat} {qp : Nat → Int32} {qm : Nat → Int32} {ql : Nat → Int32} {qv : Nat → Int32} {qc : Nat → Int32} {qe : Nat → Int32} {mt : Nat → Int32} {mv : Nat → Int32} {sw : Nat → Int32} {hv : Int32} {tk : Nat → Int32} {tn : Nat → Int32} {sc : Nat → Int32} {i : Nat} (h : i < n) : (kv_kw ci ad kc kh ks fo kl kp dy mo n pa aE qp qm ql qv qc qe mt mv sw hv tk tn sc)[24 + i]? = some (pa i, .inr (2, [.int (qp i), .int (qm i), .int (ql i), .int (qv i), .int (qc i), .int (qe i)])) := by
  obtain ⟨k, rfl⟩ : ∃ k, n = k + 1 := ⟨n - 1, by omega⟩
  obtain ⟨X, hX, e⟩ := kv_kw_split ci ad kc kh ks fo kl kp dy mo (k + 1) pa aE qp qm ql qv qc qe mt mv sw hv tk tn sc
  rw [e, List.getElem?_append_right (by omega), hX, show 24 + i - 23 = i + 1 by omega]
  show (kv_rights (k + 1) pa qp qm ql qv qc qe)[i]? = _
  unfold kv_rights
  rw [List.getElem?_map, List.getElem?_range h]
  rfl
theorem kv_rights_set {n : Nat} {pa : Nat → Nat} {qp qm ql qv qc qe qp' qm' ql' qv' qc' qe' : Nat → Int32} {i : Nat} {x : Nat × va_E} (h : i < n) (hx : x = (pa i, .inr (2, [.int (qp' i), .int (qm' i), .int (ql' i), .int (qv' i), .int (qc' i), .int (qe' i)])))
    (ho : ∀ j, j ≠ i → qp' j = qp j ∧ qm' j = qm j ∧ ql' j = ql j ∧ qv' j = qv j ∧ qc' j = qc j ∧ qe' j = qe j) : (kv_rights n pa qp qm ql qv qc qe).set i x = kv_rights n pa qp' qm' ql' qv' qc' qe' := by
  apply List.ext_getElem?
  intro j
  unfold kv_rights
  rw [List.getElem?_set]
  by_cases hj : j < n
  · by_cases e : i = j
    · subst e
      simp [h, hx]
    · obtain ⟨h1, h2, h3, h4, h5, h6⟩ := ho j (fun z => e z.symm)
      rw [if_neg e]
      simp [hj, h1, h2, h3, h4, h5, h6]
  · have e : i ≠ j := by omega
    rw [if_neg e]
    simp [hj]
theorem kv_kw_rset {ci ad : Nat → Nat} {kc : Nat → Int32} {kh : Nat → Int32} {ks : Nat → Int32} {fo : Nat → Nat → Int32} {kl : Nat → Int32} {kp : Nat → Int32} {dy : Int32} {mo : Int32} {n : Nat} {pa : Nat → Nat} {aE : Nat} {qp : Nat → Int32} {qm : Nat → Int32} {ql : Nat → Int32} {qv : Nat → Int32} {qc : Nat → Int32} {qe : Nat → Int32} {mt : Nat → Int32} {mv : Nat → Int32} {sw : Nat → Int32} {hv : Int32} {tk : Nat → Int32} {tn : Nat → Int32} {sc : Nat → Int32} {qp' qm' ql' qv' qc' qe' : Nat → Int32} {i : Nat} {x : Nat × va_E} (h : i < n) (hx : x = (pa i, .inr (2, [.int (qp' i), .int (qm' i), .int (ql' i), .int (qv' i), .int (qc' i), .int (qe' i)])))
    (ho : ∀ j, j ≠ i → qp' j = qp j ∧ qm' j = qm j ∧ ql' j = ql j ∧ qv' j = qv j ∧ qc' j = qc j ∧ qe' j = qe j) : (kv_kw ci ad kc kh ks fo kl kp dy mo n pa aE qp qm ql qv qc qe mt mv sw hv tk tn sc).set (24 + i) x = kv_kw ci ad kc kh ks fo kl kp dy mo n pa aE qp' qm' ql' qv' qc' qe' mt mv sw hv tk tn sc := by
  obtain ⟨k, rfl⟩ : ∃ k, n = k + 1 := ⟨n - 1, by omega⟩
  obtain ⟨X, hX, hX2⟩ : ∃ X : va_W, X.length = 24 ∧ ∀ qp qm ql qv qc qe, kv_kw ci ad kc kh ks fo kl kp dy mo (k + 1) pa aE qp qm ql qv qc qe mt mv sw hv tk tn sc = X ++ kv_rights (k + 1) pa qp qm ql qv qc qe := ⟨(kv_kw ci ad kc kh ks fo kl kp dy mo (k + 1) pa aE qp qm ql qv qc qe mt mv sw hv tk tn sc).take 24, rfl, fun _ _ _ _ _ _ => rfl⟩
  rw [hX2, hX2, List.set_append_right _ _ (by omega), hX, show 24 + i - 24 = i by omega, kv_rights_set h hx ho]
theorem kv_upd_o {f : Nat → Int32} {i : Nat} {x : Int32} {j : Nat} (h : j ≠ i) : upd f i x j = f j := if_neg h
theorem kv_upd_s {f : Nat → Int32} {i : Nat} {x : Int32} : upd f i x i = x := if_pos rfl
theorem kv_rset_v {ci ad : Nat → Nat} {kc : Nat → Int32} {kh : Nat → Int32} {ks : Nat → Int32} {fo : Nat → Nat → Int32} {kl : Nat → Int32} {kp : Nat → Int32} {dy : Int32} {mo : Int32} {n : Nat} {pa : Nat → Nat} {aE : Nat} {qp : Nat → Int32} {qm : Nat → Int32} {ql : Nat → Int32} {qv : Nat → Int32} {qc : Nat → Int32} {qe : Nat → Int32} {mt : Nat → Int32} {mv : Nat → Int32} {sw : Nat → Int32} {hv : Int32} {tk : Nat → Int32} {tn : Nat → Int32} {sc : Nat → Int32} {i : Nat} (h : i < n) (x : Int32) : (kv_kw ci ad kc kh ks fo kl kp dy mo n pa aE qp qm ql qv qc qe mt mv sw hv tk tn sc).set (24 + i) (pa i, .inr (2, [.int (qp i), .int (qm i), .int (ql i), .int x, .int (qc i), .int (qe i)])) = kv_kw ci ad kc kh ks fo kl kp dy mo n pa aE qp qm ql (upd qv i x) qc qe mt mv sw hv tk tn sc :=
  kv_kw_rset h (by rw [kv_upd_s]) (fun j hj => ⟨rfl, rfl, rfl, kv_upd_o hj, rfl, rfl⟩)
theorem kv_rset_c {ci ad : Nat → Nat} {kc : Nat → Int32} {kh : Nat → Int32} {ks : Nat → Int32} {fo : Nat → Nat → Int32} {kl : Nat → Int32} {kp : Nat → Int32} {dy : Int32} {mo : Int32} {n : Nat} {pa : Nat → Nat} {aE : Nat} {qp : Nat → Int32} {qm : Nat → Int32} {ql : Nat → Int32} {qv : Nat → Int32} {qc : Nat → Int32} {qe : Nat → Int32} {mt : Nat → Int32} {mv : Nat → Int32} {sw : Nat → Int32} {hv : Int32} {tk : Nat → Int32} {tn : Nat → Int32} {sc : Nat → Int32} {i : Nat} (h : i < n) (x : Int32) : (kv_kw ci ad kc kh ks fo kl kp dy mo n pa aE qp qm ql qv qc qe mt mv sw hv tk tn sc).set (24 + i) (pa i, .inr (2, [.int (qp i), .int (qm i), .int (ql i), .int (qv i), .int x, .int (qe i)])) = kv_kw ci ad kc kh ks fo kl kp dy mo n pa aE qp qm ql qv (upd qc i x) qe mt mv sw hv tk tn sc :=
  kv_kw_rset h (by rw [kv_upd_s]) (fun j hj => ⟨rfl, rfl, rfl, rfl, kv_upd_o hj, rfl⟩)
theorem kv_rset_e {ci ad : Nat → Nat} {kc : Nat → Int32} {kh : Nat → Int32} {ks : Nat → Int32} {fo : Nat → Nat → Int32} {kl : Nat → Int32} {kp : Nat → Int32} {dy : Int32} {mo : Int32} {n : Nat} {pa : Nat → Nat} {aE : Nat} {qp : Nat → Int32} {qm : Nat → Int32} {ql : Nat → Int32} {qv : Nat → Int32} {qc : Nat → Int32} {qe : Nat → Int32} {mt : Nat → Int32} {mv : Nat → Int32} {sw : Nat → Int32} {hv : Int32} {tk : Nat → Int32} {tn : Nat → Int32} {sc : Nat → Int32} {i : Nat} (h : i < n) (x : Int32) : (kv_kw ci ad kc kh ks fo kl kp dy mo n pa aE qp qm ql qv qc qe mt mv sw hv tk tn sc).set (24 + i) (pa i, .inr (2, [.int (qp i), .int (qm i), .int (ql i), .int (qv i), .int (qc i), .int x])) = kv_kw ci ad kc kh ks fo kl kp dy mo n pa aE qp qm ql qv qc (upd qe i x) mt mv sw hv tk tn sc :=
  kv_kw_rset h (by rw [kv_upd_s]) (fun j hj => ⟨rfl, rfl, rfl, rfl, rfl, kv_upd_o hj⟩)
theorem kv_in_lt {x : Int32} {n : Nat} (h : vp_in x n) : x.toNatClampNeg < n := Nat.not_le.mp fun q => h (Or.inr q)
theorem kv_out {ad : Nat → Nat} {x : Int32} (h : vp_in x 8) : kv_outer ad x.toNatClampNeg = some (ad (16 + x.toNatClampNeg)) := if_pos (kv_in_lt h)
theorem kv_8 {P : Nat → Prop} (h0 : P 0) (h1 : P 1) (h2 : P 2) (h3 : P 3) (h4 : P 4) (h5 : P 5) (h6 : P 6) (h7 : P 7) {i : Nat} (h : i < 8) : P i := by
  match i, h with
  | 0, _ => exact h0
  | 1, _ => exact h1
  | 2, _ => exact h2
  | 3, _ => exact h3
  | 4, _ => exact h4
  | 5, _ => exact h5
  | 6, _ => exact h6
  | 7, _ => exact h7
  | k + 8, h => omega
theorem kv_row {ci ad : Nat → Nat} {kc : Nat → Int32} {kh : Nat → Int32} {ks : Nat → Int32} {fo : Nat → Nat → Int32} {kl : Nat → Int32} {kp : Nat → Int32} {dy : Int32} {mo : Int32} {n : Nat} {pa : Nat → Nat} {aE : Nat} {qp : Nat → Int32} {qm : Nat → Int32} {ql : Nat → Int32} {qv : Nat → Int32} {qc : Nat → Int32} {qe : Nat → Int32} {mt : Nat → Int32} {mv : Nat → Int32} {sw : Nat → Int32} {hv : Int32} {tk : Nat → Int32} {tn : Nat → Int32} {sc : Nat → Int32} {x : Int32} (h : vp_in x 8) : (kv_kw ci ad kc kh ks fo kl kp dy mo n pa aE qp qm ql qv qc qe mt mv sw hv tk tn sc)[15 + x.toNatClampNeg]? = some (ad (16 + x.toNatClampNeg), .inl (ci 0, 4, .inl (fo x.toNatClampNeg))) :=
  kv_8 (P := fun i => (kv_kw ci ad kc kh ks fo kl kp dy mo n pa aE qp qm ql qv qc qe mt mv sw hv tk tn sc)[15 + i]? = some (ad (16 + i), .inl (ci 0, 4, .inl (fo i)))) rfl rfl rfl rfl rfl rfl rfl rfl (kv_in_lt h)
theorem kv_row_set {ci ad : Nat → Nat} {kc : Nat → Int32} {kh : Nat → Int32} {ks : Nat → Int32} {fo : Nat → Nat → Int32} {kl : Nat → Int32} {kp : Nat → Int32} {dy : Int32} {mo : Int32} {n : Nat} {pa : Nat → Nat} {aE : Nat} {qp : Nat → Int32} {qm : Nat → Int32} {ql : Nat → Int32} {qv : Nat → Int32} {qc : Nat → Int32} {qe : Nat → Int32} {mt : Nat → Int32} {mv : Nat → Int32} {sw : Nat → Int32} {hv : Int32} {tk : Nat → Int32} {tn : Nat → Int32} {sc : Nat → Int32} {x : Int32} (h : vp_in x 8) (g : Nat → Int32) : (kv_kw ci ad kc kh ks fo kl kp dy mo n pa aE qp qm ql qv qc qe mt mv sw hv tk tn sc).set (15 + x.toNatClampNeg) (ad (16 + x.toNatClampNeg), .inl (ci 0, 4, .inl g)) = kv_kw ci ad kc kh ks (kv_upR fo x.toNatClampNeg g) kl kp dy mo n pa aE qp qm ql qv qc qe mt mv sw hv tk tn sc :=
  kv_8 (P := fun i => (kv_kw ci ad kc kh ks fo kl kp dy mo n pa aE qp qm ql qv qc qe mt mv sw hv tk tn sc).set (15 + i) (ad (16 + i), .inl (ci 0, 4, .inl g)) = kv_kw ci ad kc kh ks (kv_upR fo i g) kl kp dy mo n pa aE qp qm ql qv qc qe mt mv sw hv tk tn sc) rfl rfl rfl rfl rfl rfl rfl rfl (kv_in_lt h)
end KVK
section KVX
/-- what a throw needs of the machine: Throwable's two statics, the texts, the classes -/
def kv_strs : List (Nat × String) := [(110, "the right is of the latest version"), (121, "less is lent out than comes back"), (173, "there is no such machine"), (176, "there is no such product"), (180, "an argument is out of its range"), (183, "the right has a lesser count"), (185, "there are as many rights as there can be"), (187, "a machine is not its own host"), (193, "a host has no host"), (195, "the product has too many rights to try all sets"), (197, "there is no such right"), (71, "the product has its last version")]
def kv_ex (u : Nat) : String := if u = 1 then "java/lang/IndexOutOfBoundsException" else if u = 2 then "java/lang/IllegalArgumentException" else "java/lang/IllegalStateException"
def kv_sups : List String := ["java/lang/RuntimeException", "java/lang/Exception", Bundle.tN]
def kv_thr (A : Nat → Prop) (U : State) : Prop := vx_Zq Bundle.tN "UNASSIGNED_STACK" Bundle.steD A U U.heap ∧ vx_Zq Bundle.tN "SUPPRESSED_SENTINEL" Bundle.listD A U U.heap ∧ (∀ q ∈ kv_strs, ∃ sa, vk_R RX2 q.1 q.2 sa U) ∧ (∀ u : Nat, va_Nw (.castable (kv_ex u) (kv_ex u)) U) ∧ ∀ z ∈ kv_sups, va_Nw (.declares (Bundle.initS z)) U
def kv_preX (D : va_G) (ci : Nat → Nat) (w0 : va_W) (sz : Nat) (U : State) : Prop := kv_pre D ci w0 sz U ∧ kv_thr (va_A w0 sz) U
theorem kv_thr_calling {A : Nat → Prop} {U : State} {g : JFrame} {mk : MethodId} {a : Array Value} (h : kv_thr A U) : kv_thr A (U.calling g mk a) := by
  obtain ⟨h1, h2, h3, h4, h5⟩ := h
  refine ⟨vx_Zq.moved (u := U) (U := U.calling g mk a) (Vm.Alike.refl U.vm) h1, vx_Zq.moved (u := U) (U := U.calling g mk a) (Vm.Alike.refl U.vm) h2, fun q hq => ?_, fun u => va_Nw.same (by rfl) rfl (h4 u), fun z hz => va_Nw.same (by rfl) rfl (h5 z hz)⟩
  obtain ⟨sa, hs⟩ := h3 q hq
  exact ⟨sa, vk_R.same rfl hs⟩
theorem kv_thr_at {A B : Nat → Prop} {s U : State} {H : Heap} {locs : List Loc} (h : kv_thr A s) (hS : va_S A s.heap H locs) (hB : ∀ q, B q → A q) (hU : U.heap = H) (hW : s.WarmedH U.vm) : kv_thr B U := by
  obtain ⟨h1, h2, h3, h4, h5⟩ := h
  refine ⟨?_, ?_, fun q hq => ?_, fun u => va_Nw.warmC hW (h4 u), fun z hz => va_Nw.warmD hW (h5 z hz)⟩
  · rw [hU]; exact ((h1.kept hS.2.1).narrow hB).moved hW.alike
  · rw [hU]; exact ((h2.kept hS.2.1).narrow hB).moved hW.alike
  · obtain ⟨sa, hs⟩ := h3 q hq
    exact ⟨sa, vk_R.warm hW hs⟩
theorem kv_preX_blind {D : va_G} {ci : Nat → Nat} {w0 : va_W} {sz : Nat} {av : List Value} : FrameBlind (va_Pc av (kv_preX D ci w0 sz)) := fun a U g mk q => ⟨q.1, (kv_pre_blind a U g mk ⟨q.1, q.2.1⟩).2, kv_thr_calling q.2.2⟩
variable {p : Program} {l : Launch} {e : Env} {R : Room} {s : State} {m : MethodId} {args : Array Value} {below : List Frame} {meth : Method} {c : Code} {H : Heap} {locs : List Loc} {cells slots : Nat} {Q : State → Prop}
variable {pc : Nat} {ls : Array Slot} {rest st0 : List Value} {a : Array Value} {A : Nat → Prop} {H0 : Heap} {mc ms : Nat} {D : va_G} {ci : Nat → Nat} {w0 : va_W}
theorem kv_preVX {C : String} {b : Nat} {As : List Value} (hK : va_K D vwCl (kv_tys ci) s) (hP : va_P D vwCl w0 H) (hD : va_D A w0) (hT : kv_thr A s) (hS : va_S A s.heap H locs) (hA : ∀ q, s.heap.size ≤ q → A q) {r : vw_C} {q0 k : Nat} {fs : List Value} (hc : vwCl[k]? = some r) (hC : r.1 = C) (he : w0[q0]? = some (b, .inr (k, fs))) : PreV s H C b (va_Pc (.ref b :: As) (kv_preX D ci w0 H.size)) As := by
  subst hC
  exact ⟨kv_preX_blind, va_recv hK hP hc he, fun U hU hW => ⟨rfl, ⟨by rw [hU], by rw [hU]; exact hP, va_K.moved hW.alike hK, hD.weaken (fun _ _ _ _ => trivial)⟩, kv_thr_at hT hS (kv_free hD hS hA) hU hW⟩⟩
theorem kv_preSX {As : List Value} (hK : va_K D vwCl (kv_tys ci) s) (hP : va_P D vwCl w0 H) (hD : va_D A w0) (hT : kv_thr A s) (hS : va_S A s.heap H locs) (hA : ∀ q, s.heap.size ≤ q → A q) : PreS s H (va_Pc As (kv_preX D ci w0 H.size)) As :=
  ⟨kv_preX_blind, fun U hU hW => ⟨rfl, ⟨by rw [hU], by rw [hU]; exact hP, va_K.moved hW.alike hK, hD.weaken (fun _ _ _ _ => trivial)⟩, kv_thr_at hT hS (kv_free hD hS hA) hU hW⟩⟩
theorem kv_thrown {w1 : va_W} (hP : va_P D vwCl w1 H) (hD : va_D A w1) (hS : va_S A s.heap H locs) {t : State} (h1 : H.size ≤ t.heap.size) (h2 : ∀ q : Nat, q < H.size → t.heap[q]? = H[q]?) : (va_P D vwCl w1 t.heap ∧ va_D A w1) ∧ va_F A s t :=
  ⟨⟨hP.kept (fun k x hk => h2 _ (hP k x hk).lt), hD⟩, Nat.le_trans hS.1 h1, fun q hq hn => by rw [h2 q (Nat.lt_of_lt_of_le hq hS.1)]; exact hS.2.1 q hq hn⟩
/-- calls of what may throw: it returns, or the same exception leaves this method too -/
theorem kv_xcalli {S : Type} {post : Int32 → S → Prop} {px : Nat → Prop} {wf : S → va_W} (hr : vx_Run p l e R s m args below meth c H locs cells slots mc ms (F0 m pc ls st0) rest (va_Qi post (fun u t => kv_post D w0 H.size (wf u) t) (va_A w0 H.size) a) (vx_X px (fun E u t => E = kv_ex u ∧ kv_post D w0 H.size w0 t) (va_A w0 H.size)) (va_A w0 H.size)) (hD : va_D A w0) (hS : va_S A H0 H locs) (hA : ∀ q, H0.size ≤ q → A q)
    (kx : ∀ (ce : Cell) (q9 : Addr) (u : Nat) (H1 : Heap) (locs1 : List Loc), px u → va_P D vwCl w0 H1 → va_D A w0 → va_S A H0 H1 locs1 → H1[q9]? = some ce → ce.vm = .none → s.vm.findClass (kv_ex u) = some ce.cls → vx_W p l e R s m args below meth c H1 locs1 (cells + mc) (slots + ms) Q (F0 m pc ls rest) q9)
    (kk : ∀ (r : Int32) (u : S) (H1 : Heap) (locs1 : List Loc), post r u → va_P D vwCl (wf u) H1 → va_D A (wf u) → va_S A H0 H1 locs1 → W p l e R s m args below meth c H1 locs1 (cells + mc) (slots + ms) Q (F0 m (pc + 3) ls (.int r :: rest))) : W p l e R s m args below meth c H locs cells slots Q (F0 m pc ls st0) := by
  have hF := kv_free hD hS hA
  refine vx_calli hr hS (fun q _ h => hF q h) hF (fun q _ h => hF q h) (fun E ce q9 u t H1 locs1 ht hvm hw hB hz1 hk1 hS1 h1 h2 h3 => ?_) (fun r u t H1 locs1 ht hvm hw hB hz1 hk1 hS1 => ?_)
  · obtain ⟨rfl, hP1, hD1⟩ := hB
    rw [ht] at hP1
    exact kx ce q9 u H1 locs1 hw hP1 (hD1.weaken fun k x hx hq => hF _ hq) hS1 h1 h2 h3
  · obtain ⟨hP1, hD1⟩ := hB
    rw [ht] at hP1
    exact kk r u H1 locs1 hw hP1 (hD1.weaken fun k x hx hq => hF _ hq) hS1
theorem kv_xcallv {S : Type} {post : S → Prop} {px : Nat → Prop} {wf : S → va_W} (hr : vx_Run p l e R s m args below meth c H locs cells slots mc ms (F0 m pc ls st0) rest (va_Qv post (fun u t => kv_post D w0 H.size (wf u) t) (va_A w0 H.size) a) (vx_X px (fun E u t => E = kv_ex u ∧ kv_post D w0 H.size w0 t) (va_A w0 H.size)) (va_A w0 H.size)) (hD : va_D A w0) (hS : va_S A H0 H locs) (hA : ∀ q, H0.size ≤ q → A q)
    (kx : ∀ (ce : Cell) (q9 : Addr) (u : Nat) (H1 : Heap) (locs1 : List Loc), px u → va_P D vwCl w0 H1 → va_D A w0 → va_S A H0 H1 locs1 → H1[q9]? = some ce → ce.vm = .none → s.vm.findClass (kv_ex u) = some ce.cls → vx_W p l e R s m args below meth c H1 locs1 (cells + mc) (slots + ms) Q (F0 m pc ls rest) q9)
    (kk : ∀ (u : S) (H1 : Heap) (locs1 : List Loc), post u → va_P D vwCl (wf u) H1 → va_D A (wf u) → va_S A H0 H1 locs1 → W p l e R s m args below meth c H1 locs1 (cells + mc) (slots + ms) Q (F0 m (pc + 3) ls rest)) : W p l e R s m args below meth c H locs cells slots Q (F0 m pc ls st0) := by
  have hF := kv_free hD hS hA
  refine vx_callv hr hS (fun q _ h => hF q h) hF (fun q _ h => hF q h) (fun E ce q9 u t H1 locs1 ht hvm hw hB hz1 hk1 hS1 h1 h2 h3 => ?_) (fun u t H1 locs1 ht hvm hw hB hz1 hk1 hS1 => ?_)
  · obtain ⟨rfl, hP1, hD1⟩ := hB
    rw [ht] at hP1
    exact kx ce q9 u H1 locs1 hw hP1 (hD1.weaken fun k x hx hq => hF _ hq) hS1 h1 h2 h3
  · obtain ⟨hP1, hD1⟩ := hB
    rw [ht] at hP1
    exact kk u H1 locs1 hw hP1 (hD1.weaken fun k x hx hq => hF _ hq) hS1
end KVX
section KVJ
variable {p : Program} {l : Launch} {e : Env} {R : Room} {s : State} {m : MethodId} {args : Array Value} {below : List Frame} {meth : Method} {c : Code} {H : Heap} {locs : List Loc} {cells slots : Nat} {Q : State → Prop}
variable {pc : Nat} {ls : Array Slot} {rest st0 : List Value} {a : Array Value} {A : Nat → Prop} {H0 : Heap} {mc ms : Nat} {D : va_G} {ci : Nat → Nat} {w0 : va_W}
theorem kv_ed_at {ci ad : Nat → Nat} {kc : Nat → Int32} {kh : Nat → Int32} {ks : Nat → Int32} {fo : Nat → Nat → Int32} {kl : Nat → Int32} {kp : Nat → Int32} {dy : Int32} {mo : Int32} {n : Nat} {pa : Nat → Nat} {aE : Nat} {qp : Nat → Int32} {qm : Nat → Int32} {ql : Nat → Int32} {qv : Nat → Int32} {qc : Nat → Int32} {qe : Nat → Int32} {mt : Nat → Int32} {mv : Nat → Int32} {sw : Nat → Int32} {hv : Int32} {tk : Nat → Int32} {tn : Nat → Int32} {sc : Nat → Int32} (h : 0 < n) : (kv_kw ci ad kc kh ks fo kl kp dy mo n pa aE qp qm ql qv qc qe mt mv sw hv tk tn sc)[23]? = some (aE, .inl (ci 2, kv_cap n, .inr (.inr (.inr (.inr (kv_els n pa)))))) := by
  obtain ⟨k, rfl⟩ : ∃ k, n = k + 1 := ⟨n - 1, by omega⟩
  rfl
theorem kv_set_same {ws : va_W} {q0 : Nat} {x : Nat × va_E} (h : ws[q0]? = some x) : ws.set q0 x = ws := by
  apply List.ext_getElem?
  intro j
  rw [List.getElem?_set]
  by_cases e : q0 = j
  · subst e
    rw [if_pos rfl, h, if_pos (List.getElem?_eq_some_iff.mp h).1]
  · rw [if_neg e]
theorem kv_fill_0 (f : Nat → Int32) (v : Int32) : kv_fill f 0 v = f := funext fun j => if_neg (by omega)
theorem kv_fill_1 (f : Nat → Int32) (i : Nat) (v : Int32) : upd (kv_fill f i v) i v = kv_fill f (i + 1) v := by
  funext j
  unfold upd kv_fill
  by_cases e : j = i
  · subst e; rw [if_pos rfl, if_pos (by omega)]
  · rw [if_neg e]
    by_cases h : j < i
    · rw [if_pos h, if_pos (by omega)]
    · rw [if_neg h, if_neg (by omega)]
theorem kv_lt_nI {i : Int32} {n : Nat} (h0 : ¬ i < 0) (h : i.toNatClampNeg < n) (hn : n < 2 ^ 31) : i < nI n := by
  obtain ⟨j, hj, rfl⟩ := nI_of h0
  rw [nI_clamp hj] at h
  exact nI_lt h hn
/-- an element of a row of rows -/
theorem kv_aldr (hexec : p.tables.exec = Jvm.exec) {cc : ByteArray} (hb : c.code = cc) {tys : List (ClassId × FieldType)} {ws : va_W} {a : Nat} (hK : va_K D vwCl tys s) (hP : va_P D vwCl ws H) (q0 t0 : Nat) {cA : ClassId} {n y : Nat} {f : Nat → Option Nat} {i : Int32} (hin : vp_in i n) (hy : f i.toNatClampNeg = some y) (hdg : decode cc pc = .ok (.aaload, 1)) (ha : ws[q0]? = some (a, .inl (cA, n, .inr (.inr (.inr (.inr f)))))) (ht : tys[t0]? = some (cA, .array .int))
    (kk : W p l e R s m args below meth c H locs cells slots Q (F0 m (pc + 1) ls (.ref y :: rest))) : W p l e R s m args below meth c H locs cells slots Q (F0 m pc ls (.int i :: .ref a :: rest)) := by
  have hlt : i.toNatClampNeg < n := Nat.not_le.mp fun q => hin (Or.inr q)
  exact W.aald (v := .ref y) (ty := .array .int) hexec hb (hP q0 _ ha) ((hK.2 t0 _ ht).1 n (fun j => va_rf (f j))) rfl (fun q => by cases q) (by show ¬ (i < 0 ∨ (arrV _ _ _).slots.size ≤ _); rw [arrV_size]; exact hin) (by show (arrV _ _ _).slots[_]? = _; rw [arrV_read _ _ hlt, hy]; rfl) rfl rfl hdg kk
theorem kv_callq {pa : Nat → Nat} {n : Nat} {pk : Nat → Prop} (hr : va_Run p l e R s m args below meth c H locs cells slots mc ms (F0 m pc ls st0) rest (va_Qq (fun (r : Option Nat) (u : Nat) => r = some (pa u) ∧ u < n ∧ pk u) (fun u t => kv_post D w0 H.size w0 t) (va_A w0 H.size) a) (va_A w0 H.size)) (hD : va_D A w0) (hS : va_S A H0 H locs) (hA : ∀ q, H0.size ≤ q → A q)
    (kk : ∀ (k : Nat) (H1 : Heap) (locs1 : List Loc), k < n → pk k → va_P D vwCl w0 H1 → va_D A w0 → va_S A H0 H1 locs1 → W p l e R s m args below meth c H1 locs1 (cells + mc) (slots + ms) Q (F0 m (pc + 3) ls (.ref (pa k) :: rest))) : W p l e R s m args below meth c H locs cells slots Q (F0 m pc ls st0) := by
  have hF := kv_free hD hS hA
  refine va_callq hr hS (fun q _ h => hF q h) hF (fun r u t H1 locs1 ht hvm hw hB hz1 hk1 hS1 => ?_)
  obtain ⟨hP1, hD1⟩ := hB
  obtain ⟨rfl, hk, hp⟩ := hw
  rw [ht] at hP1
  exact kk u H1 locs1 hk hp hP1 (hD1.weaken fun k x hx hq => hF _ hq) hS1
theorem kv_xcallq {pa : Nat → Nat} {n : Nat} {pk : Nat → Prop} {px : Nat → Prop} (hr : vx_Run p l e R s m args below meth c H locs cells slots mc ms (F0 m pc ls st0) rest (va_Qq (fun (r : Option Nat) (u : Nat) => r = some (pa u) ∧ u < n ∧ pk u) (fun u t => kv_post D w0 H.size w0 t) (va_A w0 H.size) a) (vx_X px (fun E u t => E = kv_ex u ∧ kv_post D w0 H.size w0 t) (va_A w0 H.size)) (va_A w0 H.size)) (hD : va_D A w0) (hS : va_S A H0 H locs) (hA : ∀ q, H0.size ≤ q → A q)
    (kx : ∀ (ce : Cell) (q9 : Addr) (u : Nat) (H1 : Heap) (locs1 : List Loc), px u → va_P D vwCl w0 H1 → va_D A w0 → va_S A H0 H1 locs1 → H1[q9]? = some ce → ce.vm = .none → s.vm.findClass (kv_ex u) = some ce.cls → vx_W p l e R s m args below meth c H1 locs1 (cells + mc) (slots + ms) Q (F0 m pc ls rest) q9)
    (kk : ∀ (k : Nat) (H1 : Heap) (locs1 : List Loc), k < n → pk k → va_P D vwCl w0 H1 → va_D A w0 → va_S A H0 H1 locs1 → W p l e R s m args below meth c H1 locs1 (cells + mc) (slots + ms) Q (F0 m (pc + 3) ls (.ref (pa k) :: rest))) : W p l e R s m args below meth c H locs cells slots Q (F0 m pc ls st0) := by
  have hF := kv_free hD hS hA
  refine vx_callq hr hS (fun q _ h => hF q h) hF (fun q _ h => hF q h) (fun E ce q9 u t H1 locs1 ht hvm hw hB hz1 hk1 hS1 h1 h2 h3 => ?_) (fun r u t H1 locs1 ht hvm hw hB hz1 hk1 hS1 => ?_)
  · obtain ⟨rfl, hP1, hD1⟩ := hB
    rw [ht] at hP1
    exact kx ce q9 u H1 locs1 hw hP1 (hD1.weaken fun k x hx hq => hF _ hq) hS1 h1 h2 h3
  · obtain ⟨hP1, hD1⟩ := hB
    obtain ⟨rfl, hk, hp⟩ := hw
    rw [ht] at hP1
    exact kk u H1 locs1 hk hp hP1 (hD1.weaken fun k x hx hq => hF _ hq) hS1
end KVJ
set_option maxHeartbeats 4000000 in
set_option maxRecDepth 100000 in
theorem c_K_size (l : Launch) (D : va_G) (ci ad : Nat → Nat) (kc : Nat → Int32) (kh : Nat → Int32) (ks : Nat → Int32) (fo : Nat → Nat → Int32) (kl : Nat → Int32) (kp : Nat → Int32) (dy : Int32) (mo : Int32) (n : Nat) (pa : Nat → Nat) (aE : Nat) (qp : Nat → Int32) (qm : Nat → Int32) (ql : Nat → Int32) (qv : Nat → Int32) (qc : Nat → Int32) (qe : Nat → Int32) (mt : Nat → Int32) (mv : Nat → Int32) (sw : Nat → Int32) (hv : Int32) (tk : Nat → Int32) (tn : Nat → Int32) (sc : Nat → Int32) (sz : Nat) : Met l yJx4a65c_size_8abf5 wsJx4a65c_size_8abf5 ({ frames := 0, cells := 0, slots := 0, locals := 0 } : Room) (va_Pc [.ref (ad 7)] (kv_pre D ci (kv_kw ci ad kc kh ks fo kl kp dy mo n pa aE qp qm ql qv qc qe mt mv sw hv tk tn sc) sz)) (va_Qi (fun (r : Int32) (_ : Unit) => r = nI n) (fun u t => kv_post D (kv_kw ci ad kc kh ks fo kl kp dy mo n pa aE qp qm ql qv qc qe mt mv sw hv tk tn sc) sz (kv_kw ci ad kc kh ks fo kl kp dy mo n pa aE qp qm ql qv qc qe mt mv sw hv tk tn sc) t) (va_A (kv_kw ci ad kc kh ks fo kl kp dy mo n pa aE qp qm ql qv qc qe mt mv sw hv tk tn sc) sz)) 0 0 (va_A (kv_kw ci ad kc kh ks fo kl kp dy mo n pa aE qp qm ql qv qc qe mt mv sw hv tk tn sc) sz) := by
  refine Met.ofW (cc := cJx4a65c_size_8abf5) (maxL := 1) (ret := (some .int)) (by decide) rfl ?_
  intro p en s m args below meth c s₁ B hml hv
  obtain ⟨hv0, hsz, hP, hK, hD0⟩ := hv
  have hx := B.exec
  have hb := B.bytes
  have hr := B.returns
  have hts := atoms_spec (ws := wsJx4a65c_size_8abf5) B.pre
  have hown : s.vm.findClass RJx4a65c = some m.cls := findClass_of_methodNamed B.named
  have hlocks := B.notSynchronized
  subst hsz
  have hD := hD0.self (sz := s.heap.size)
  generalize hAe : va_A (kv_kw ci ad kc kh ks fo kl kp dy mo n pa aE qp qm ql qv qc qe mt mv sw hv tk tn sc) s.heap.size = A at hD ⊢
  have hA : ∀ q : Nat, s.heap.size ≤ q → A q := fun q h => by rw [← hAe]; exact Or.inr h
  have hS : va_S A s.heap s.heap [] := va_S.rf
  have hP : va_P D vwCl (kv_kw ci ad kc kh ks fo kl kp dy mo n pa aE qp qm ql qv qc qe mt mv sw hv tk tn sc) s.heap := hP
  have hinRJx4a65c : ∀ w ∈ u_ws RJx4a65c TJx4a65c 3, w ∈ wsJx4a65c_size_8abf5 := by decide +kernel
  refine W.eq (show entryFrame m args 1 = _ from by rw [hv0, lg_entry_eq]) ?_
  have hl := lv_entry ([.ref (ad 7)]) (n := 1) (Nat.le_of_ble_eq_true rfl)
  generalize (lg_sl ([.ref (ad 7)]) ++ List.replicate (1 - (lg_sl ([.ref (ad 7)])).length) Slot.unset).toArray = ls at hl ⊢
  have hl : lv_has ls 1 [(0, .ref (ad 7))] := hl
  refine lv_aload_n hx hb dJx4a65c_size_8abf5_0 rfl (lv_at hl 0 rfl) ?_
  refine va_get (D := D) (ci := 0) (v := .int (nI n)) (C := RJx4a65c) (T := TJx4a65c) (N := 3) hx hb hts hinRJx4a65c hown hK hP 7 rfl rfl 2 (by decide) (hts (.fieldLink RJx4a65c 48 "java/util/ArrayList" "size" "I") (by decide +kernel)) (fun _ h9 => h9) rfl dJx4a65c_size_8abf5_1 ?_
  exact W.iret (v := nI n) hx hb hr (fun t ht hW => ⟨⟨nI n, (), rfl, rfl, ⟨by rw [ht]; exact hP, by rw [hAe]; exact hD⟩⟩, hS.F ht⟩) hS.2.2 dJx4a65c_size_8abf5_4

set_option maxHeartbeats 4000000 in
set_option maxRecDepth 100000 in
theorem c_K_elementData (l : Launch) (D : va_G) (ci ad : Nat → Nat) (kc : Nat → Int32) (kh : Nat → Int32) (ks : Nat → Int32) (fo : Nat → Nat → Int32) (kl : Nat → Int32) (kp : Nat → Int32) (dy : Int32) (mo : Int32) (n : Nat) (pa : Nat → Nat) (aE : Nat) (qp : Nat → Int32) (qm : Nat → Int32) (ql : Nat → Int32) (qv : Nat → Int32) (qc : Nat → Int32) (qe : Nat → Int32) (mt : Nat → Int32) (mv : Nat → Int32) (sw : Nat → Int32) (hv : Int32) (tk : Nat → Int32) (tn : Nat → Int32) (sc : Nat → Int32) (i : Int32) (hi : vp_in i n) (hn12 : n ≤ kv_cap n) (sz : Nat) : Met l yJx4a65c_elementData_915e3 wsJx4a65c_elementData_915e3 ({ frames := 0, cells := 0, slots := 0, locals := 0 } : Room) (va_Pc [.ref (ad 7), .int i] (kv_pre D ci (kv_kw ci ad kc kh ks fo kl kp dy mo n pa aE qp qm ql qv qc qe mt mv sw hv tk tn sc) sz)) (va_Qq (fun (r : Option Nat) (u : Nat) => r = some (pa u) ∧ u < n ∧ u = i.toNatClampNeg) (fun u t => kv_post D (kv_kw ci ad kc kh ks fo kl kp dy mo n pa aE qp qm ql qv qc qe mt mv sw hv tk tn sc) sz (kv_kw ci ad kc kh ks fo kl kp dy mo n pa aE qp qm ql qv qc qe mt mv sw hv tk tn sc) t) (va_A (kv_kw ci ad kc kh ks fo kl kp dy mo n pa aE qp qm ql qv qc qe mt mv sw hv tk tn sc) sz)) 0 0 (va_A (kv_kw ci ad kc kh ks fo kl kp dy mo n pa aE qp qm ql qv qc qe mt mv sw hv tk tn sc) sz) := by
  refine Met.ofW (cc := cJx4a65c_elementData_915e3) (maxL := 2) (ret := (some (.object "java/lang/Object"))) (by decide) rfl ?_
  intro p en s m args below meth c s₁ B hml hv
  obtain ⟨hv0, hsz, hP, hK, hD0⟩ := hv
  have hx := B.exec
  have hb := B.bytes
  have hr := B.returns
  have hts := atoms_spec (ws := wsJx4a65c_elementData_915e3) B.pre
  have hown : s.vm.findClass RJx4a65c = some m.cls := findClass_of_methodNamed B.named
  have hlocks := B.notSynchronized
  subst hsz
  have hD := hD0.self (sz := s.heap.size)
  generalize hAe : va_A (kv_kw ci ad kc kh ks fo kl kp dy mo n pa aE qp qm ql qv qc qe mt mv sw hv tk tn sc) s.heap.size = A at hD ⊢
  have hA : ∀ q : Nat, s.heap.size ≤ q → A q := fun q h => by rw [← hAe]; exact Or.inr h
  have hS : va_S A s.heap s.heap [] := va_S.rf
  have hP : va_P D vwCl (kv_kw ci ad kc kh ks fo kl kp dy mo n pa aE qp qm ql qv qc qe mt mv sw hv tk tn sc) s.heap := hP
  have hinRJx4a65c : ∀ w ∈ u_ws RJx4a65c TJx4a65c 3, w ∈ wsJx4a65c_elementData_915e3 := by decide +kernel
  refine W.eq (show entryFrame m args 2 = _ from by rw [hv0, lg_entry_eq]) ?_
  have hl := lv_entry ([.ref (ad 7), .int i]) (n := 2) (Nat.le_of_ble_eq_true rfl)
  generalize (lg_sl ([.ref (ad 7), .int i]) ++ List.replicate (2 - (lg_sl ([.ref (ad 7), .int i])).length) Slot.unset).toArray = ls at hl ⊢
  have hl : lv_has ls 2 [(0, .ref (ad 7)), (1, .int i)] := hl
  refine lv_aload_n hx hb dJx4a65c_elementData_915e3_0 rfl (lv_at hl 0 rfl) ?_
  refine va_get (D := D) (ci := 0) (v := .ref aE) (C := RJx4a65c) (T := TJx4a65c) (N := 3) hx hb hts hinRJx4a65c hown hK hP 7 rfl rfl 1 (by decide) (hts (.fieldLink RJx4a65c 9 "java/util/ArrayList" "elementData" "[Ljava/lang/Object;") (by decide +kernel)) (fun _ h9 => h9) rfl dJx4a65c_elementData_915e3_1 ?_
  refine lv_iload_n hx hb dJx4a65c_elementData_915e3_4 rfl (lv_at hl 1 rfl) ?_
  have hil := kv_in_lt hi
  have hic : vp_in i (kv_cap n) := fun q => hi (q.elim Or.inl (fun q => Or.inr (Nat.le_trans hn12 q)))
  refine va_aldq hx hb hK hP 23 2 (C := "java/lang/Object") (kv_ed_at (Nat.lt_of_le_of_lt (Nat.zero_le _) hil)) rfl hic dJx4a65c_elementData_915e3_5 ?_
  rw [show kv_els n pa i.toNatClampNeg = some (pa i.toNatClampNeg) from if_pos hil]
  exact W.aret (v := .ref (pa i.toNatClampNeg)) hx hb hr (Or.inl ⟨_, rfl⟩) (Or.inr ⟨_, rfl⟩) (fun t ht hW => ⟨⟨some (pa i.toNatClampNeg), i.toNatClampNeg, rfl, ⟨rfl, hil, rfl⟩, ⟨by rw [ht]; exact hP, by rw [hAe]; exact hD⟩⟩, hS.F ht⟩) hS.2.2 dJx4a65c_elementData_915e3_6

set_option maxHeartbeats 4000000 in
set_option maxRecDepth 100000 in
theorem c_K_pcheck (l : Launch) (D : va_G) (ci : Nat → Nat) (w0 : va_W) (i k : Int32) (h0 : ¬ i < 0) (h1 : i < k) (sz : Nat) : Met l yJ3_checkIndex_8e157 wsJ3_checkIndex_8e157 ({ frames := 0, cells := 0, slots := 0, locals := 0 } : Room) (va_Pc [.int i, .int k, .null] (kv_pre D ci w0 sz)) (va_Qi (fun (r : Int32) (_ : Unit) => r = i) (fun u t => kv_post D w0 sz w0 t) (va_A w0 sz)) 0 0 (va_A w0 sz) := by
  refine Met.ofW (cc := cJ3_checkIndex_8e157) (maxL := 3) (ret := (some .int)) (by decide) rfl ?_
  intro p en s m args below meth c s₁ B hml hv
  obtain ⟨hv0, hsz, hP, hK, hD0⟩ := hv
  have hx := B.exec
  have hb := B.bytes
  have hr := B.returns
  have hts := atoms_spec (ws := wsJ3_checkIndex_8e157) B.pre
  have hown : s.vm.findClass RJ3 = some m.cls := findClass_of_methodNamed B.named
  have hlocks := B.notSynchronized
  subst hsz
  have hD := hD0.self (sz := s.heap.size)
  generalize hAe : va_A w0 s.heap.size = A at hD ⊢
  have hA : ∀ q : Nat, s.heap.size ≤ q → A q := fun q h => by rw [← hAe]; exact Or.inr h
  have hS : va_S A s.heap s.heap [] := va_S.rf
  have hP : va_P D vwCl w0 s.heap := hP
  refine W.eq (show entryFrame m args 3 = _ from by rw [hv0, lg_entry_eq]) ?_
  have hl := lv_entry ([.int i, .int k, .null]) (n := 3) (Nat.le_of_ble_eq_true rfl)
  generalize (lg_sl ([.int i, .int k, .null]) ++ List.replicate (3 - (lg_sl ([.int i, .int k, .null])).length) Slot.unset).toArray = ls at hl ⊢
  have hl : lv_has ls 3 [(0, .int i), (1, .int k), (2, .null)] := hl
  refine lv_iload_n hx hb dJ3_checkIndex_8e157_0 rfl (lv_at hl 0 rfl) ?_
  refine lv_if_lt (tgt := 9) hx hb dJ3_checkIndex_8e157_1 (by decide) (fun c_1 => absurd c_1 h0) (fun _ => ?_)
  refine lv_iload_n hx hb dJ3_checkIndex_8e157_4 rfl (lv_at hl 0 rfl) ?_
  refine lv_iload_n hx hb dJ3_checkIndex_8e157_5 rfl (lv_at hl 1 rfl) ?_
  refine lv_icmp_lt (tgt := 16) hx hb dJ3_checkIndex_8e157_6 (by decide) (fun _ => ?_) (fun c_1 => absurd h1 c_1)
  refine lv_iload_n hx hb dJ3_checkIndex_8e157_16 rfl (lv_at hl 0 rfl) ?_
  exact W.iret (v := i) hx hb hr (fun t ht hW => ⟨⟨i, (), rfl, rfl, ⟨by rw [ht]; exact hP, by rw [hAe]; exact hD⟩⟩, hS.F ht⟩) hS.2.2 dJ3_checkIndex_8e157_17

set_option maxHeartbeats 4000000 in
set_option maxRecDepth 100000 in
theorem c_K_ocheck (l : Launch) (D : va_G) (ci : Nat → Nat) (w0 : va_W) (i k : Int32) (h0 : ¬ i < 0) (h1 : i < k) (sz : Nat) : Met l yJ15_checkIndex_7cf53 wsJ15_checkIndex_7cf53 ({ frames := 1, cells := 0, slots := 0, locals := 22 } : Room) (va_Pc [.int i, .int k] (kv_pre D ci w0 sz)) (va_Qi (fun (r : Int32) (_ : Unit) => r = i) (fun u t => kv_post D w0 sz w0 t) (va_A w0 sz)) 0 0 (va_A w0 sz) := by
  refine Met.ofW (cc := cJ15_checkIndex_7cf53) (maxL := 2) (ret := (some .int)) (by decide) rfl ?_
  intro p en s m args below meth c s₁ B hml hv
  obtain ⟨hv0, hsz, hP, hK, hD0⟩ := hv
  have hx := B.exec
  have hb := B.bytes
  have hr := B.returns
  have hts := atoms_spec (ws := wsJ15_checkIndex_7cf53) B.pre
  have hown : s.vm.findClass RJ15 = some m.cls := findClass_of_methodNamed B.named
  have hlocks := B.notSynchronized
  subst hsz
  have hD := hD0.self (sz := s.heap.size)
  generalize hAe : va_A w0 s.heap.size = A at hD ⊢
  have hA : ∀ q : Nat, s.heap.size ≤ q → A q := fun q h => by rw [← hAe]; exact Or.inr h
  have hS : va_S A s.heap s.heap [] := va_S.rf
  have hP : va_P D vwCl w0 s.heap := hP
  refine W.eq (show entryFrame m args 2 = _ from by rw [hv0, lg_entry_eq]) ?_
  have hl := lv_entry ([.int i, .int k]) (n := 2) (Nat.le_of_ble_eq_true rfl)
  generalize (lg_sl ([.int i, .int k]) ++ List.replicate (2 - (lg_sl ([.int i, .int k])).length) Slot.unset).toArray = ls at hl ⊢
  have hl : lv_has ls 2 [(0, .int i), (1, .int k)] := hl
  refine lv_iload_n hx hb dJ15_checkIndex_7cf53_0 rfl (lv_at hl 0 rfl) ?_
  refine lv_iload_n hx hb dJ15_checkIndex_7cf53_1 rfl (lv_at hl 1 rfl) ?_
  refine lv_null hx hb dJ15_checkIndex_7cf53_2 ?_
  refine kv_calli (va_runS (As := [.int i, .int k, .null]) (rest := []) ⟨hx, hb, hml, hown, hts⟩ (c_K_pcheck l D ci w0 i k h0 h1 s.heap.size) (va_cwS 3 hts gJ15_checkIndex_7cf53_J3_checkIndex_8e157 rfl rfl rfl (by decide +kernel) ⟨Nat.le_of_ble_eq_true rfl, Nat.le_of_ble_eq_true rfl⟩) (kv_preS hK hP hD) rfl rfl hl.1 rfl (lv_room (Nat.le_of_ble_eq_true rfl)) dJ15_checkIndex_7cf53_3 ⟨Nat.le_of_ble_eq_true rfl, Nat.le_of_ble_eq_true rfl⟩) hD hS hA (fun r u H locs hw hP hD hS => ?_)
  subst hw
  exact W.iret (v := r) hx hb hr (fun t ht hW => ⟨⟨r, (), rfl, rfl, ⟨by rw [ht]; exact hP, by rw [hAe]; exact hD⟩⟩, hS.F ht⟩) hS.2.2 dJ15_checkIndex_7cf53_6

set_option maxHeartbeats 4000000 in
set_option maxRecDepth 100000 in
theorem c_K_get (l : Launch) (D : va_G) (ci ad : Nat → Nat) (kc : Nat → Int32) (kh : Nat → Int32) (ks : Nat → Int32) (fo : Nat → Nat → Int32) (kl : Nat → Int32) (kp : Nat → Int32) (dy : Int32) (mo : Int32) (n : Nat) (pa : Nat → Nat) (aE : Nat) (qp : Nat → Int32) (qm : Nat → Int32) (ql : Nat → Int32) (qv : Nat → Int32) (qc : Nat → Int32) (qe : Nat → Int32) (mt : Nat → Int32) (mv : Nat → Int32) (sw : Nat → Int32) (hv : Int32) (tk : Nat → Int32) (tn : Nat → Int32) (sc : Nat → Int32) (i : Int32) (hi : vp_in i n) (hn : n ≤ 12) (sz : Nat) : Met l yJx4a65c_get_915e3 wsJx4a65c_get_915e3 ({ frames := 2, cells := 0, slots := 0, locals := 43 } : Room) (va_Pc [.ref (ad 7), .int i] (kv_pre D ci (kv_kw ci ad kc kh ks fo kl kp dy mo n pa aE qp qm ql qv qc qe mt mv sw hv tk tn sc) sz)) (va_Qq (fun (r : Option Nat) (u : Nat) => r = some (pa u) ∧ u < n ∧ u = i.toNatClampNeg) (fun u t => kv_post D (kv_kw ci ad kc kh ks fo kl kp dy mo n pa aE qp qm ql qv qc qe mt mv sw hv tk tn sc) sz (kv_kw ci ad kc kh ks fo kl kp dy mo n pa aE qp qm ql qv qc qe mt mv sw hv tk tn sc) t) (va_A (kv_kw ci ad kc kh ks fo kl kp dy mo n pa aE qp qm ql qv qc qe mt mv sw hv tk tn sc) sz)) 0 0 (va_A (kv_kw ci ad kc kh ks fo kl kp dy mo n pa aE qp qm ql qv qc qe mt mv sw hv tk tn sc) sz) := by
  refine Met.ofW (cc := cJx4a65c_get_915e3) (maxL := 2) (ret := (some (.object "java/lang/Object"))) (by decide) rfl ?_
  intro p en s m args below meth c s₁ B hml hv
  obtain ⟨hv0, hsz, hP, hK, hD0⟩ := hv
  have hx := B.exec
  have hb := B.bytes
  have hr := B.returns
  have hts := atoms_spec (ws := wsJx4a65c_get_915e3) B.pre
  have hown : s.vm.findClass RJx4a65c = some m.cls := findClass_of_methodNamed B.named
  have hlocks := B.notSynchronized
  subst hsz
  have hD := hD0.self (sz := s.heap.size)
  generalize hAe : va_A (kv_kw ci ad kc kh ks fo kl kp dy mo n pa aE qp qm ql qv qc qe mt mv sw hv tk tn sc) s.heap.size = A at hD ⊢
  have hA : ∀ q : Nat, s.heap.size ≤ q → A q := fun q h => by rw [← hAe]; exact Or.inr h
  have hS : va_S A s.heap s.heap [] := va_S.rf
  have hP : va_P D vwCl (kv_kw ci ad kc kh ks fo kl kp dy mo n pa aE qp qm ql qv qc qe mt mv sw hv tk tn sc) s.heap := hP
  have hinRJx4a65c : ∀ w ∈ u_ws RJx4a65c TJx4a65c 3, w ∈ wsJx4a65c_get_915e3 := by decide +kernel
  refine W.eq (show entryFrame m args 2 = _ from by rw [hv0, lg_entry_eq]) ?_
  have hl := lv_entry ([.ref (ad 7), .int i]) (n := 2) (Nat.le_of_ble_eq_true rfl)
  generalize (lg_sl ([.ref (ad 7), .int i]) ++ List.replicate (2 - (lg_sl ([.ref (ad 7), .int i])).length) Slot.unset).toArray = ls at hl ⊢
  have hl : lv_has ls 2 [(0, .ref (ad 7)), (1, .int i)] := hl
  have hn12 : n ≤ 12 := hn
  have hil := kv_in_lt hi
  have hi0 : ¬ i < 0 := fun q => hi (Or.inl q)
  have hi1 : i < nI n := kv_lt_nI hi0 hil (by omega)
  refine lv_iload_n hx hb dJx4a65c_get_915e3_0 rfl (lv_at hl 1 rfl) ?_
  refine lv_aload_n hx hb dJx4a65c_get_915e3_1 rfl (lv_at hl 0 rfl) ?_
  refine va_get (D := D) (ci := 0) (v := .int (nI n)) (C := RJx4a65c) (T := TJx4a65c) (N := 3) hx hb hts hinRJx4a65c hown hK hP 7 rfl rfl 2 (by decide) (hts (.fieldLink RJx4a65c 48 "java/util/ArrayList" "size" "I") (by decide +kernel)) (fun _ h9 => h9) rfl dJx4a65c_get_915e3_2 ?_
  refine kv_calli (va_runS (As := [.int i, .int (nI n)]) (rest := []) ⟨hx, hb, hml, hown, hts⟩ (c_K_ocheck l D ci (kv_kw ci ad kc kh ks fo kl kp dy mo n pa aE qp qm ql qv qc qe mt mv sw hv tk tn sc) i (nI n) hi0 hi1 s.heap.size) (va_cwS 2 hts gJx4a65c_get_915e3_J15_checkIndex_7cf53 rfl rfl rfl (by decide +kernel) ⟨Nat.le_of_ble_eq_true rfl, Nat.le_of_ble_eq_true rfl⟩) (kv_preS hK hP hD) rfl rfl hl.1 rfl (lv_room (Nat.le_of_ble_eq_true rfl)) dJx4a65c_get_915e3_5 ⟨Nat.le_of_ble_eq_true rfl, Nat.le_of_ble_eq_true rfl⟩) hD hS hA (fun r u H locs hw hP hD hS => ?_)
  refine lv_pop hx hb dJx4a65c_get_915e3_8 rfl ?_
  refine lv_aload_n hx hb dJx4a65c_get_915e3_9 rfl (lv_at hl 0 rfl) ?_
  refine lv_iload_n hx hb dJx4a65c_get_915e3_10 rfl (lv_at hl 1 rfl) ?_
  refine kv_callq (pa := pa) (n := n) (va_runV (As := [.int i]) (rest := []) ⟨hx, hb, hml, hown, hts⟩ (c_K_elementData l D ci ad kc kh ks fo kl kp dy mo n pa aE qp qm ql qv qc qe mt mv sw hv tk tn sc i hi (by unfold kv_cap; split <;> omega) H.size) (cwV 1 hts gJx4a65c_get_915e3_Jx4a65c_elementData_915e3 rfl rfl rfl (by decide +kernel) ⟨Nat.le_of_ble_eq_true rfl, Nat.le_of_ble_eq_true rfl⟩) (kv_preV hK hP hD (r := (RJx4a65c, TJx4a65c, 3)) (q0 := 7) (k := 0) rfl rfl rfl) rfl rfl hl.1 rfl (lv_room (Nat.le_of_ble_eq_true rfl)) dJx4a65c_get_915e3_11 ⟨Nat.le_of_ble_eq_true rfl, Nat.le_of_ble_eq_true rfl⟩) hD hS hA (fun k H locs hk ek hP hD hS => ?_)
  exact W.aret (v := .ref (pa k)) hx hb hr (Or.inl ⟨_, rfl⟩) (Or.inr ⟨_, rfl⟩) (fun t ht hW => ⟨⟨some (pa k), k, rfl, ⟨rfl, hk, ek⟩, ⟨by rw [ht]; exact hP, by rw [hAe]; exact hD⟩⟩, hS.F ht⟩) hS.2.2 dJx4a65c_get_915e3_14

set_option maxHeartbeats 4000000 in
set_option maxRecDepth 100000 in
theorem c_K_fill (l : Launch) (D : va_G) (ci : Nat → Nat) (w0 : va_W) (q0 a k : Nat) (f : Nat → Int32) (v : Int32) (wf : (Nat → Int32) → va_W) (hk31 : k < 2 ^ 31) (ha : w0[q0]? = some (a, .inl (ci 0, k, .inl f))) (hw : ∀ g, w0.set q0 (a, .inl (ci 0, k, .inl g)) = wf g) (sz : Nat) : Met l yJ7_fill_53178 wsJ7_fill_53178 ({ frames := 0, cells := 0, slots := 0, locals := 0 } : Room) (va_Pc [.ref a, .int v] (kv_pre D ci w0 sz)) (va_Qv (fun (u : Nat → Int32) => u = kv_fill f k v) (fun u t => kv_post D w0 sz (wf u) t) (va_A w0 sz)) 0 0 (va_A w0 sz) := by
  refine Met.ofW (cc := cJ7_fill_53178) (maxL := 4) (ret := none) (by decide) rfl ?_
  intro p en s m args below meth c s₁ B hml hv
  obtain ⟨hv0, hsz, hP, hK, hD0⟩ := hv
  have hx := B.exec
  have hb := B.bytes
  have hr := B.returns
  have hts := atoms_spec (ws := wsJ7_fill_53178) B.pre
  have hown : s.vm.findClass RJ7 = some m.cls := findClass_of_methodNamed B.named
  have hlocks := B.notSynchronized
  subst hsz
  have hD := hD0.self (sz := s.heap.size)
  generalize hAe : va_A w0 s.heap.size = A at hD ⊢
  have hA : ∀ q : Nat, s.heap.size ≤ q → A q := fun q h => by rw [← hAe]; exact Or.inr h
  have hS : va_S A s.heap s.heap [] := va_S.rf
  have hP : va_P D vwCl w0 s.heap := hP
  refine W.eq (show entryFrame m args 4 = _ from by rw [hv0, lg_entry_eq]) ?_
  have hl := lv_entry ([.ref a, .int v]) (n := 4) (Nat.le_of_ble_eq_true rfl)
  generalize (lg_sl ([.ref a, .int v]) ++ List.replicate (4 - (lg_sl ([.ref a, .int v])).length) Slot.unset).toArray = ls at hl ⊢
  have hl : lv_has ls 4 [(0, .ref a), (1, .int v)] := hl
  have hwe : wf f = w0 := by rw [← hw]; exact kv_set_same ha
  have hwa : ∀ g, (wf g)[q0]? = some (a, .inl (ci 0, k, .inl g)) := fun g => by rw [← hw]; exact List.getElem?_set_self (List.getElem?_eq_some_iff.mp ha).1
  have hws : ∀ g g9, (wf g).set q0 (a, .inl (ci 0, k, .inl g9)) = wf g9 := fun g g9 => by rw [← hw, List.set_set, hw]
  refine lv_iconst (v := 0) hx hb dJ7_fill_53178_0 (by decide) ?_
  refine lv_istore_n (lv' := [(2, .int 0), (0, .ref a), (1, .int v)]) hx hb dJ7_fill_53178_1 rfl hl (by decide) rfl (fun ls hl => ?_)
  refine lv_aload_n hx hb dJ7_fill_53178_2 rfl (lv_at hl 1 rfl) ?_
  refine va_alen (v := nI k) hx hb hK hP q0 0 ha rfl rfl dJ7_fill_53178_3 ?_
  refine lv_istore_n (lv' := [(3, .int (nI k)), (2, .int 0), (0, .ref a), (1, .int v)]) hx hb dJ7_fill_53178_4 rfl hl (by decide) rfl (fun ls hl => ?_)
  rw [← hwe] at hP hD
  have key : ∀ (d i : Nat) (g : Nat → Int32) (H : Heap) (locs : List Loc) (ls : Array Slot), i + d = k → g = kv_fill f i v → va_P D vwCl (wf g) H → va_D A (wf g) → va_S A s.heap H locs → lv_has ls 4 [(0, .ref a), (1, .int v), (2, .int (nI i)), (3, .int (nI k))] → W p l en (headSpec wsJ7_fill_53178 ({ frames := 0, cells := 0, slots := 0, locals := 0 } : Room)).room s m args below meth c H locs 0 0 (MQ below (va_Qv (fun (u : Nat → Int32) => u = kv_fill f k v) (fun u t => kv_post D w0 s.heap.size (wf u) t) A) args s 0 0 A) (F0 m 5 ls []) := by
    intro d
    induction d with
    | zero =>
      intro i g H locs ls hid hg hP hD hS hl
      obtain rfl : i = k := by omega
      refine lv_iload_n hx hb dJ7_fill_53178_5 rfl (lv_at hl 2 rfl) ?_
      refine lv_iload_n hx hb dJ7_fill_53178_6 rfl (lv_at hl 3 rfl) ?_
      refine lv_icmp_ge (tgt := 20) hx hb dJ7_fill_53178_7 (by decide) (fun _ => ?_) (fun c_7 => absurd (Int32.le_refl _) c_7)
      exact W.vret hx hb hr (fun t ht hW => ⟨⟨g, rfl, hg, ⟨by rw [ht]; exact hP, by rw [hAe]; exact hD⟩⟩, hS.F ht⟩) hS.2.2 dJ7_fill_53178_20
    | succ d ih =>
      intro i g H locs ls hid hg hP hD hS hl
      refine lv_iload_n hx hb dJ7_fill_53178_5 rfl (lv_at hl 2 rfl) ?_
      refine lv_iload_n hx hb dJ7_fill_53178_6 rfl (lv_at hl 3 rfl) ?_
      refine lv_icmp_ge (tgt := 20) hx hb dJ7_fill_53178_7 (by decide) (fun c_7 => absurd c_7 (nI_ge (by omega) hk31)) (fun _ => ?_)
      refine lv_aload_n hx hb dJ7_fill_53178_10 rfl (lv_at hl 0 rfl) ?_
      refine lv_iload_n hx hb dJ7_fill_53178_11 rfl (lv_at hl 2 rfl) ?_
      refine lv_iload_n hx hb dJ7_fill_53178_12 rfl (lv_at hl 1 rfl) ?_
      refine kv_iast hx hb hK hP hD hS q0 0 wf (vp_in_nI (by omega) hk31) dJ7_fill_53178_13 (hwa g) rfl (hws g) (fun g2 H locs eg2 hP hD hS => ?_)
      refine lv_iinc (v := nI (i + 1)) (lv' := [(2, .int (nI (i + 1))), (0, .ref a), (1, .int v), (3, .int (nI k))]) hx hb dJ7_fill_53178_14 hl (k := 2) rfl (nI_1 i) (by decide) rfl (fun ls hl => ?_)
      refine lv_goto (tgt := 5) hx hb dJ7_fill_53178_17 (by decide) ?_
      exact ih (i + 1) g2 H locs ls (by omega) (by rw [eg2, hg, nI_clamp (by omega)]; exact kv_fill_1 f i v) hP hD hS (lv_sub hl [1, 2, 0, 3] rfl)
  exact key k 0 f _ _ _ (Nat.zero_add k) (kv_fill_0 f v).symm hP hD hS (lv_sub hl [2, 3, 1, 0] rfl)
