-- ===== BASE: the pure functions' own words, and calls over a whole world =====
section KVB
/-- a guard on an index -/
def kv_G {α : Type} (i : Int32) (n : Nat) (x : Option α) : Option α := if i < 0 ∨ n ≤ i.toNatClampNeg then none else x
/-- a guard on the index of a list of at most 12 -/
def kv_L {α : Type} (i : Int32) (n : Nat) (x : Option α) : Option α := if i < 0 ∨ n ≤ i.toNatClampNeg ∨ 12 < n then none else x
theorem kv_L_e {α : Type} {R x : Option α} {i : Int32} {n : Nat} (e : R = kv_L i n x) (h : R ≠ none) : vp_in i n ∧ n ≤ 12 ∧ R = x := by
  unfold kv_L at e
  by_cases c : i < 0 ∨ n ≤ i.toNatClampNeg ∨ 12 < n
  · rw [if_pos c] at e; exact absurd e h
  · rw [if_neg c] at e
    exact ⟨fun q => c (q.elim Or.inl (fun q => Or.inr (Or.inl q))), Nat.not_lt.mp (fun q => c (Or.inr (Or.inr q))), e⟩
/-- a guard on a divisor -/
def kv_Z {α : Type} (y : Int32) (x : Option α) : Option α := if y = 0 then none else x
/-- a name for a value -/
def kv_T {α β : Type} (x : α) (k : α → β) : β := k x
theorem kv_G_e {α : Type} {R x : Option α} {i : Int32} {n : Nat} (e : R = kv_G i n x) (h : R ≠ none) : vp_in i n ∧ R = x := by
  unfold kv_G at e
  by_cases c : i < 0 ∨ n ≤ i.toNatClampNeg
  · rw [if_pos c] at e; exact absurd e h
  · rw [if_neg c] at e; exact ⟨c, e⟩
theorem kv_Z_e {α : Type} {R x : Option α} {y : Int32} (e : R = kv_Z y x) (h : R ≠ none) : ¬ y = 0 ∧ R = x := by
  unfold kv_Z at e
  by_cases c : y = 0
  · rw [if_pos c] at e; exact absurd e h
  · rw [if_neg c] at e; exact ⟨c, e⟩
theorem kv_T_e {α β : Type} {R : β} {x y : α} {k : α → β} (e : R = kv_T x k) (h : y = x) : R = k y := by rw [e, h]; rfl
/-- a guard on an answer that is a truth value -/
def kv_B {α : Type} (x : Int32) (k : Option α) : Option α := if x = 0 then k else if x = 1 then k else none
theorem kv_B_e {α : Type} {R k : Option α} {x : Int32} (e : R = kv_B x k) (h : R ≠ none) : narrow .boolean (.int x) = .int x ∧ R = k := by
  unfold kv_B at e
  by_cases c : x = 0
  · rw [if_pos c] at e; subst c; exact ⟨by decide +kernel, e⟩
  · rw [if_neg c] at e
    by_cases d : x = 1
    · rw [if_pos d] at e; subst d; exact ⟨by decide +kernel, e⟩
    · rw [if_neg d] at e; exact absurd e h
/-- how many turns a loop is given -/
def kv_F : Nat := 70000
/-- calls: of a callee that answers, with n cells' new contents -/
def kv_q0 {β : Type} (x : Option Unit) (k : Option β) : Option β := match x with | none => none | some _ => k
def kv_q1 {A β : Type} (x : Option A) (k : A → Option β) : Option β := match x with | none => none | some u => k u
def kv_q2 {A B β : Type} (x : Option (A × B)) (k : A → B → Option β) : Option β := match x with | none => none | some u => k u.1 u.2
def kv_q3 {A B C β : Type} (x : Option (A × B × C)) (k : A → B → C → Option β) : Option β := match x with | none => none | some u => k u.1 u.2.1 u.2.2
def kv_q4 {A B C E β : Type} (x : Option (A × B × C × E)) (k : A → B → C → E → Option β) : Option β := match x with | none => none | some u => k u.1 u.2.1 u.2.2.1 u.2.2.2
def kv_q5 {A B C E F β : Type} (x : Option (A × B × C × E × F)) (k : A → B → C → E → F → Option β) : Option β := match x with | none => none | some u => k u.1 u.2.1 u.2.2.1 u.2.2.2.1 u.2.2.2.2
def kv_q6 {A B C E F G β : Type} (x : Option (A × B × C × E × F × G)) (k : A → B → C → E → F → G → Option β) : Option β := match x with | none => none | some u => k u.1 u.2.1 u.2.2.1 u.2.2.2.1 u.2.2.2.2.1 u.2.2.2.2.2
def kv_q7 {A B C E F G I β : Type} (x : Option (A × B × C × E × F × G × I)) (k : A → B → C → E → F → G → I → Option β) : Option β := match x with | none => none | some u => k u.1 u.2.1 u.2.2.1 u.2.2.2.1 u.2.2.2.2.1 u.2.2.2.2.2.1 u.2.2.2.2.2.2
def kv_q8 {A B C E F G I J β : Type} (x : Option (A × B × C × E × F × G × I × J)) (k : A → B → C → E → F → G → I → J → Option β) : Option β := match x with | none => none | some u => k u.1 u.2.1 u.2.2.1 u.2.2.2.1 u.2.2.2.2.1 u.2.2.2.2.2.1 u.2.2.2.2.2.2.1 u.2.2.2.2.2.2.2
def kv_q9 {A B C E F G I J K β : Type} (x : Option (A × B × C × E × F × G × I × J × K)) (k : A → B → C → E → F → G → I → J → K → Option β) : Option β := match x with | none => none | some u => k u.1 u.2.1 u.2.2.1 u.2.2.2.1 u.2.2.2.2.1 u.2.2.2.2.2.1 u.2.2.2.2.2.2.1 u.2.2.2.2.2.2.2.1 u.2.2.2.2.2.2.2.2
theorem kv_q9_n {A B C E F G I J K β : Type} {R : Option β} {x : Option (A × B × C × E × F × G × I × J × K)} {k} (e : R = kv_q9 x k) (h : R ≠ none) : x ≠ none := by intro c; rw [e, c] at h; exact h rfl
theorem kv_q9_e {A B C E F G I J K β : Type} {R : Option β} {x : Option (A × B × C × E × F × G × I × J × K)} {k} (e : R = kv_q9 x k) {a b c d f g i j o} (h : x = some (a, b, c, d, f, g, i, j, o)) : R = k a b c d f g i j o := by rw [e, h]; rfl
theorem kv_q0_n {β : Type} {R : Option β} {x : Option Unit} {k} (e : R = kv_q0 x k) (h : R ≠ none) : x ≠ none := by intro c; rw [e, c] at h; exact h rfl
theorem kv_q1_n {A β : Type} {R : Option β} {x : Option A} {k} (e : R = kv_q1 x k) (h : R ≠ none) : x ≠ none := by intro c; rw [e, c] at h; exact h rfl
theorem kv_q2_n {A B β : Type} {R : Option β} {x : Option (A × B)} {k} (e : R = kv_q2 x k) (h : R ≠ none) : x ≠ none := by intro c; rw [e, c] at h; exact h rfl
theorem kv_q3_n {A B C β : Type} {R : Option β} {x : Option (A × B × C)} {k} (e : R = kv_q3 x k) (h : R ≠ none) : x ≠ none := by intro c; rw [e, c] at h; exact h rfl
theorem kv_q4_n {A B C E β : Type} {R : Option β} {x : Option (A × B × C × E)} {k} (e : R = kv_q4 x k) (h : R ≠ none) : x ≠ none := by intro c; rw [e, c] at h; exact h rfl
theorem kv_q5_n {A B C E F β : Type} {R : Option β} {x : Option (A × B × C × E × F)} {k} (e : R = kv_q5 x k) (h : R ≠ none) : x ≠ none := by intro c; rw [e, c] at h; exact h rfl
theorem kv_q6_n {A B C E F G β : Type} {R : Option β} {x : Option (A × B × C × E × F × G)} {k} (e : R = kv_q6 x k) (h : R ≠ none) : x ≠ none := by intro c; rw [e, c] at h; exact h rfl
theorem kv_q7_n {A B C E F G I β : Type} {R : Option β} {x : Option (A × B × C × E × F × G × I)} {k} (e : R = kv_q7 x k) (h : R ≠ none) : x ≠ none := by intro c; rw [e, c] at h; exact h rfl
theorem kv_q8_n {A B C E F G I J β : Type} {R : Option β} {x : Option (A × B × C × E × F × G × I × J)} {k} (e : R = kv_q8 x k) (h : R ≠ none) : x ≠ none := by intro c; rw [e, c] at h; exact h rfl
theorem kv_q0_e {β : Type} {R : Option β} {x : Option Unit} {k} (e : R = kv_q0 x k) (h : x = some ()) : R = k := by rw [e, h]; rfl
theorem kv_q1_e {A β : Type} {R : Option β} {x : Option A} {k} (e : R = kv_q1 x k) {a} (h : x = some a) : R = k a := by rw [e, h]; rfl
theorem kv_q2_e {A B β : Type} {R : Option β} {x : Option (A × B)} {k} (e : R = kv_q2 x k) {a b} (h : x = some (a, b)) : R = k a b := by rw [e, h]; rfl
theorem kv_q3_e {A B C β : Type} {R : Option β} {x : Option (A × B × C)} {k} (e : R = kv_q3 x k) {a b c} (h : x = some (a, b, c)) : R = k a b c := by rw [e, h]; rfl
theorem kv_q4_e {A B C E β : Type} {R : Option β} {x : Option (A × B × C × E)} {k} (e : R = kv_q4 x k) {a b c d} (h : x = some (a, b, c, d)) : R = k a b c d := by rw [e, h]; rfl
theorem kv_q5_e {A B C E F β : Type} {R : Option β} {x : Option (A × B × C × E × F)} {k} (e : R = kv_q5 x k) {a b c d f} (h : x = some (a, b, c, d, f)) : R = k a b c d f := by rw [e, h]; rfl
theorem kv_q6_e {A B C E F G β : Type} {R : Option β} {x : Option (A × B × C × E × F × G)} {k} (e : R = kv_q6 x k) {a b c d f g} (h : x = some (a, b, c, d, f, g)) : R = k a b c d f g := by rw [e, h]; rfl
theorem kv_q7_e {A B C E F G I β : Type} {R : Option β} {x : Option (A × B × C × E × F × G × I)} {k} (e : R = kv_q7 x k) {a b c d f g i} (h : x = some (a, b, c, d, f, g, i)) : R = k a b c d f g i := by rw [e, h]; rfl
theorem kv_q8_e {A B C E F G I J β : Type} {R : Option β} {x : Option (A × B × C × E × F × G × I × J)} {k} (e : R = kv_q8 x k) {a b c d f g i j} (h : x = some (a, b, c, d, f, g, i, j)) : R = k a b c d f g i j := by rw [e, h]; rfl
/-- calls of a callee that answers or throws (the exception's number) -/
def kv_x0 {β : Type} (x : Option (Unit ⊕ Nat)) (k : Option (β ⊕ Nat)) : Option (β ⊕ Nat) := match x with | none => none | some (.inr c) => some (.inr c) | some (.inl _) => k
def kv_x1 {A β : Type} (x : Option (A ⊕ Nat)) (k : A → Option (β ⊕ Nat)) : Option (β ⊕ Nat) := match x with | none => none | some (.inr c) => some (.inr c) | some (.inl u) => k u
theorem kv_x0_n {β : Type} {R : Option (β ⊕ Nat)} {x : Option (Unit ⊕ Nat)} {k} (e : R = kv_x0 x k) (h : R ≠ none) : x ≠ none := by intro c; rw [e, c] at h; exact h rfl
theorem kv_x1_n {A β : Type} {R : Option (β ⊕ Nat)} {x : Option (A ⊕ Nat)} {k} (e : R = kv_x1 x k) (h : R ≠ none) : x ≠ none := by intro c; rw [e, c] at h; exact h rfl
theorem kv_x0_e {β : Type} {R : Option (β ⊕ Nat)} {x : Option (Unit ⊕ Nat)} {k} (e : R = kv_x0 x k) (h : x = some (.inl ())) : R = k := by rw [e, h]; rfl
theorem kv_x1_e {A β : Type} {R : Option (β ⊕ Nat)} {x : Option (A ⊕ Nat)} {k} (e : R = kv_x1 x k) {a} (h : x = some (.inl a)) : R = k a := by rw [e, h]; rfl
theorem kv_x0_t {β : Type} {R : Option (β ⊕ Nat)} {x : Option (Unit ⊕ Nat)} {k} (e : R = kv_x0 x k) {c} (h : x = some (.inr c)) : R = some (.inr c) := by rw [e, h]; rfl
theorem kv_x1_t {A β : Type} {R : Option (β ⊕ Nat)} {x : Option (A ⊕ Nat)} {k} (e : R = kv_x1 x k) {c} (h : x = some (.inr c)) : R = some (.inr c) := by rw [e, h]; rfl
end KVB
section KVC
/-- the array classes of the worlds -/
abbrev kv_tys (ci : Nat → Nat) : List (ClassId × FieldType) := [(ci 0, .int), (ci 0, .int), (ci 2, .object "java/lang/Object"), (ci 3, .array .int)]
def kv_pre (D : va_G) (ci : Nat → Nat) (w0 : va_W) (sz : Nat) (U : State) : Prop := U.heap.size = sz ∧ va_P D vwCl w0 U.heap ∧ va_K D vwCl (kv_tys ci) U ∧ va_D (fun _ => True) w0
def kv_post (D : va_G) (w0 : va_W) (sz : Nat) (w1 : va_W) (t : State) : Prop := va_P D vwCl w1 t.heap ∧ va_D (va_A w0 sz) w1
theorem kv_pre_blind {D : va_G} {ci : Nat → Nat} {w0 : va_W} {sz : Nat} {av : List Value} : FrameBlind (va_Pc av (kv_pre D ci w0 sz)) := fun a U g mk q => by
  obtain ⟨q0, q1, q2, q3, q4⟩ := q
  exact ⟨q0, q1, q2, va_K.moved (u := U) (U := U.calling g mk a) (Vm.Alike.refl U.vm) q3, q4⟩
variable {p : Program} {l : Launch} {e : Env} {R : Room} {s : State} {m : MethodId} {args : Array Value} {below : List Frame} {meth : Method} {c : Code} {H : Heap} {locs : List Loc} {cells slots : Nat} {Q : State → Prop}
variable {pc : Nat} {ls : Array Slot} {rest st0 : List Value} {a : Array Value} {A : Nat → Prop} {H0 : Heap} {mc ms : Nat} {D : va_G} {ci : Nat → Nat} {w0 : va_W}
theorem kv_Q {g : JFrame} (k : ∀ Q1, Q1 = Q → W p l e R s m args below meth c H locs cells slots Q1 g) : W p l e R s m args below meth c H locs cells slots Q g := k Q rfl
theorem kv_free (hD : va_D A w0) (hS : va_S A H0 H locs) (hA : ∀ q, H0.size ≤ q → A q) : ∀ q, va_A w0 H.size q → A q := by
  intro q h
  rcases h with ⟨k, x, hk⟩ | h
  · exact hD.2 k _ hk
  · exact hA q (Nat.le_trans hS.1 h)
theorem kv_preV {C : String} {b : Nat} {As : List Value} (hK : va_K D vwCl (kv_tys ci) s) (hP : va_P D vwCl w0 H) (hD : va_D A w0) {r : vw_C} {q0 k : Nat} {fs : List Value} (hc : vwCl[k]? = some r) (hC : r.1 = C) (he : w0[q0]? = some (b, .inr (k, fs))) : PreV s H C b (va_Pc (.ref b :: As) (kv_pre D ci w0 H.size)) As := by
  subst hC
  exact ⟨kv_pre_blind, va_recv hK hP hc he, fun U hU hW => ⟨rfl, by rw [hU], by rw [hU]; exact hP, va_K.moved hW.alike hK, hD.weaken (fun _ _ _ _ => trivial)⟩⟩
theorem kv_preS {As : List Value} (hK : va_K D vwCl (kv_tys ci) s) (hP : va_P D vwCl w0 H) (hD : va_D A w0) : PreS s H (va_Pc As (kv_pre D ci w0 H.size)) As :=
  ⟨kv_pre_blind, fun U hU hW => ⟨rfl, by rw [hU], by rw [hU]; exact hP, va_K.moved hW.alike hK, hD.weaken (fun _ _ _ _ => trivial)⟩⟩
theorem kv_calli {S : Type} {post : Int32 → S → Prop} {wf : S → va_W} (hr : va_Run p l e R s m args below meth c H locs cells slots mc ms (F0 m pc ls st0) rest (va_Qi post (fun u t => kv_post D w0 H.size (wf u) t) (va_A w0 H.size) a) (va_A w0 H.size)) (hD : va_D A w0) (hS : va_S A H0 H locs) (hA : ∀ q, H0.size ≤ q → A q)
    (kk : ∀ (r : Int32) (u : S) (H1 : Heap) (locs1 : List Loc), post r u → va_P D vwCl (wf u) H1 → va_D A (wf u) → va_S A H0 H1 locs1 → W p l e R s m args below meth c H1 locs1 (cells + mc) (slots + ms) Q (F0 m (pc + 3) ls (.int r :: rest))) : W p l e R s m args below meth c H locs cells slots Q (F0 m pc ls st0) := by
  have hF := kv_free hD hS hA
  refine va_calli hr hS (fun q _ h => hF q h) hF (fun r u t H1 locs1 ht hvm hw hB hz1 hk1 hS1 => ?_)
  obtain ⟨hP1, hD1⟩ := hB
  rw [ht] at hP1
  exact kk r u H1 locs1 hw hP1 (hD1.weaken fun k x hx hq => hF _ hq) hS1
theorem kv_callv {S : Type} {post : S → Prop} {wf : S → va_W} (hr : va_Run p l e R s m args below meth c H locs cells slots mc ms (F0 m pc ls st0) rest (va_Qv post (fun u t => kv_post D w0 H.size (wf u) t) (va_A w0 H.size) a) (va_A w0 H.size)) (hD : va_D A w0) (hS : va_S A H0 H locs) (hA : ∀ q, H0.size ≤ q → A q)
    (kk : ∀ (u : S) (H1 : Heap) (locs1 : List Loc), post u → va_P D vwCl (wf u) H1 → va_D A (wf u) → va_S A H0 H1 locs1 → W p l e R s m args below meth c H1 locs1 (cells + mc) (slots + ms) Q (F0 m (pc + 3) ls rest)) : W p l e R s m args below meth c H locs cells slots Q (F0 m pc ls st0) := by
  have hF := kv_free hD hS hA
  refine va_callv hr hS (fun q _ h => hF q h) hF (fun u t H1 locs1 ht hvm hw hB hz1 hk1 hS1 => ?_)
  obtain ⟨hP1, hD1⟩ := hB
  rw [ht] at hP1
  exact kk u H1 locs1 hw hP1 (hD1.weaken fun k x hx hq => hF _ hq) hS1
/-- rows that name what they read or write -/
theorem kv_iald (hexec : p.tables.exec = Jvm.exec) {cc : ByteArray} (hb : c.code = cc) {tys : List (ClassId × FieldType)} {ws : va_W} {a : Nat} (hK : va_K D vwCl tys s) (hP : va_P D vwCl ws H) (q0 t0 : Nat) {cA : ClassId} {n : Nat} {f : Nat → Int32} {i : Int32} (hin : vp_in i n) (hdg : decode cc pc = .ok (.iaload, 1)) (ha : ws[q0]? = some (a, .inl (cA, n, .inl f))) (ht : tys[t0]? = some (cA, .int))
    (kk : ∀ y : Int32, y = f i.toNatClampNeg → W p l e R s m args below meth c H locs cells slots Q (F0 m (pc + 1) ls (.int y :: rest))) : W p l e R s m args below meth c H locs cells slots Q (F0 m pc ls (.int i :: .ref a :: rest)) := va_iald hexec hb hK hP q0 t0 ha ht hin hdg (kk _ rfl)
theorem kv_zald (hexec : p.tables.exec = Jvm.exec) {cc : ByteArray} (hb : c.code = cc) {tys : List (ClassId × FieldType)} {ws : va_W} {a : Nat} (hK : va_K D vwCl tys s) (hP : va_P D vwCl ws H) (q0 t0 : Nat) {cA : ClassId} {n : Nat} {f : Nat → Int32} {i : Int32} (hin : vp_in i n) (hdg : decode cc pc = .ok (.baload, 1)) (ha : ws[q0]? = some (a, .inl (cA, n, .inl f))) (ht : tys[t0]? = some (cA, .boolean))
    (kk : ∀ y : Int32, y = f i.toNatClampNeg → W p l e R s m args below meth c H locs cells slots Q (F0 m (pc + 1) ls (.int y :: rest))) : W p l e R s m args below meth c H locs cells slots Q (F0 m pc ls (.int i :: .ref a :: rest)) := va_zald hexec hb hK hP q0 t0 ha ht hin hdg (kk _ rfl)
theorem kv_iast (hexec : p.tables.exec = Jvm.exec) {cc : ByteArray} (hb : c.code = cc) {tys : List (ClassId × FieldType)} {ws : va_W} {a : Nat} (hK : va_K D vwCl tys s) (hP : va_P D vwCl ws H) (hD : va_D A ws) (hS : va_S A H0 H locs) (q0 t0 : Nat) {cA : ClassId} {n : Nat} {f : Nat → Int32} {i x : Int32} (wf : (Nat → Int32) → va_W) (hin : vp_in i n) (hdg : decode cc pc = .ok (.iastore, 1)) (ha : ws[q0]? = some (a, .inl (cA, n, .inl f))) (ht : tys[t0]? = some (cA, .int)) (hw : ∀ g, ws.set q0 (a, .inl (cA, n, .inl g)) = wf g)
    (kk : ∀ (g : Nat → Int32) (H1 : Heap) (locs1 : List Loc), g = upd f i.toNatClampNeg x → va_P D vwCl (wf g) H1 → va_D A (wf g) → va_S A H0 H1 locs1 → W p l e R s m args below meth c H1 locs1 cells slots Q (F0 m (pc + 1) ls rest)) : W p l e R s m args below meth c H locs cells slots Q (F0 m pc ls (.int x :: .int i :: .ref a :: rest)) :=
  va_iast hexec hb hK hP hD hS q0 t0 ha ht hin hdg (fun H1 locs1 h1 h2 h3 => kk _ H1 locs1 rfl (by rw [← hw]; exact h1) (by rw [← hw]; exact h2) h3)
theorem kv_zast (hexec : p.tables.exec = Jvm.exec) {cc : ByteArray} (hb : c.code = cc) {tys : List (ClassId × FieldType)} {ws : va_W} {a : Nat} (hK : va_K D vwCl tys s) (hP : va_P D vwCl ws H) (hD : va_D A ws) (hS : va_S A H0 H locs) (q0 t0 : Nat) {cA : ClassId} {n : Nat} {f : Nat → Int32} {i x : Int32} (wf : (Nat → Int32) → va_W) (hin : vp_in i n) (hdg : decode cc pc = .ok (.bastore, 1)) (ha : ws[q0]? = some (a, .inl (cA, n, .inl f))) (ht : tys[t0]? = some (cA, .boolean)) (hw : ∀ g, ws.set q0 (a, .inl (cA, n, .inl g)) = wf g)
    (kk : ∀ (g : Nat → Int32) (H1 : Heap) (locs1 : List Loc), g = upd f i.toNatClampNeg (vp_nar .boolean x) → va_P D vwCl (wf g) H1 → va_D A (wf g) → va_S A H0 H1 locs1 → W p l e R s m args below meth c H1 locs1 cells slots Q (F0 m (pc + 1) ls rest)) : W p l e R s m args below meth c H locs cells slots Q (F0 m pc ls (.int x :: .int i :: .ref a :: rest)) :=
  va_zast hexec hb hK hP hD hS q0 t0 ha ht hin hdg (fun H1 locs1 h1 h2 h3 => kk _ H1 locs1 rfl (by rw [← hw]; exact h1) (by rw [← hw]; exact h2) h3)
end KVC
