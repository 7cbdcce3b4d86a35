section KVW
theorem kv_frame {A : Nat → Prop} {D : va_G} {cl : List vw_C} {w0 w1 Y : va_W} {H H1 : Heap} (hP : va_P D cl (w0 ++ Y) H) (hD : va_D A (w0 ++ Y)) (hk : ∀ q : Nat, q < H.size → ¬ va_A w0 H.size q → H1[q]? = H[q]?) (hF : ∀ q, va_A w0 H.size q → A q) (hP1 : va_P D cl w1 H1) (hD1 : va_D (va_A w0 H.size) w1) : va_P D cl (w1 ++ Y) H1 ∧ va_D A (w1 ++ Y) := by
  rw [kv_D_iff, List.map_append] at hD
  rw [kv_D_iff] at hD1
  obtain ⟨hN, hAll⟩ := hD
  obtain ⟨n1, n2, n3⟩ := List.pairwise_append.mp hN
  have hout : ∀ y ∈ Y, y.1 < H.size ∧ ¬ va_A w0 H.size y.1 := by
    intro y hy
    obtain ⟨i, hi⟩ := List.getElem?_of_mem (List.mem_append_right w0 hy)
    have hlt := (hP i y hi).lt
    refine ⟨hlt, fun h => ?_⟩
    rcases h with ⟨k, x, hx⟩ | h
    · exact n3 _ (List.mem_map.mpr ⟨_, List.mem_of_getElem? hx, rfl⟩) _ (List.mem_map.mpr ⟨y, hy, rfl⟩) rfl
    · omega
  refine ⟨hP1.app fun k y hk2 => ?_, ?_⟩
  · have hy := List.mem_of_getElem? hk2
    obtain ⟨i, hi⟩ := List.getElem?_of_mem (List.mem_append_right w0 hy)
    exact (hP i y hi).kept (hk _ (hout y hy).1 (hout y hy).2)
  · rw [kv_D_iff, List.map_append]
    refine ⟨List.pairwise_append.mpr ⟨hD1.1, n2, fun a ha b hb hab => ?_⟩, fun x hx => ?_⟩
    · obtain ⟨x, hx, rfl⟩ := List.mem_map.mp ha
      obtain ⟨y, hy, rfl⟩ := List.mem_map.mp hb
      exact (hout y hy).2 (hab ▸ hD1.2 x hx)
    · rcases List.mem_append.mp hx with h | h
      · exact hF _ (hD1.2 x h)
      · exact hAll x (List.mem_append_right _ h)
def kv_nc (U : State) : Prop := ∀ a b : Nat, 1 ≤ a → a ≤ 3 → 2 ≤ b → b ≤ 3 → a ≠ b → va_Nc (kv_ex a) (kv_ex b) U
def kv_preW (D : va_G) (ci : Nat → Nat) (aS : Nat) (w0 : va_W) (sz : Nat) (U : State) : Prop := kv_preY D ci aS w0 sz U ∧ kv_nc U
theorem kv_preW_blind {D : va_G} {ci : Nat → Nat} {aS : Nat} {w0 : va_W} {sz : Nat} {av : List Value} : FrameBlind (va_Pc av (kv_preW D ci aS w0 sz)) := fun a U g mk q => ⟨q.1, (kv_preY_blind a U g mk ⟨q.1, q.2.1⟩).2, fun x y h1 h2 h3 h4 h5 => va_Nc.moved (u := U) (U := U.calling g mk a) (Vm.Alike.refl U.vm) (q.2.2 x y h1 h2 h3 h4 h5)⟩
variable {p : Program} {l : Launch} {e : Env} {R : Room} {s : State} {m : MethodId} {args : Array Value} {below : List Frame} {meth : Method} {c : Code} {H : Heap} {locs : List Loc} {cells slots : Nat} {Q : State → Prop}
variable {pc : Nat} {ls : Array Slot} {rest st0 : List Value} {a : Array Value} {A : Nat → Prop} {H0 : Heap} {mc ms : Nat} {D : va_G} {ci : Nat → Nat} {w0 Y : va_W}
theorem kv_Dl (hD : va_D A (w0 ++ Y)) : va_D A w0 := kv_D_sub hD (List.Perm.refl _) (List.sublist_append_left _ _)
theorem kv_Pl {cl : List vw_C} (hP : va_P D cl (w0 ++ Y) H) : va_P D cl w0 H := kv_P_mem hP fun _ h => List.mem_append_left _ h
theorem kv_preSW {aS : Nat} {As : List Value} (hK : va_K D vwCl (kv_tys ci) s) (hP : va_P D vwCl w0 H) (hD : va_D A w0) (hT : kv_thr A s) (hT2 : kv_lst aS A s) (hN : kv_nc s) (hS : va_S A s.heap H locs) (hA : ∀ q, s.heap.size ≤ q → A q) : PreS s H (va_Pc As (kv_preW D ci aS w0 H.size)) As :=
  ⟨kv_preW_blind, fun U hU hW => ⟨rfl, ⟨⟨⟨by rw [hU], by rw [hU]; exact hP, va_K.moved hW.alike hK, hD.weaken (fun _ _ _ _ => trivial)⟩, kv_thr_at hT hS (kv_free hD hS hA) hU hW⟩, kv_lst_at hT2 hS (kv_free hD hS hA) hU hW⟩, fun x y h1 h2 h3 h4 h5 => va_Nc.moved hW.alike (hN x y h1 h2 h3 h4 h5)⟩⟩
theorem kv_xcalliF {S : Type} {post : Int32 → S → Prop} {px : Nat → Prop} {wf : S → va_W} (hr : vx_Run p l e R s m args below meth c H locs cells slots mc ms (F0 m pc ls st0) rest (va_Qi post (fun u t => kv_post D w0 H.size (wf u) t) (va_A w0 H.size) a) (vx_X px (fun E u t => E = kv_ex u ∧ kv_post D w0 H.size w0 t) (va_A w0 H.size)) (va_A w0 H.size)) (hP : va_P D vwCl (w0 ++ Y) H) (hD : va_D A (w0 ++ Y)) (hS : va_S A H0 H locs) (hA : ∀ q, H0.size ≤ q → A q)
    (kx : ∀ (ce : Cell) (q9 : Addr) (u : Nat) (H1 : Heap) (locs1 : List Loc), px u → va_P D vwCl (w0 ++ Y) H1 → va_D A (w0 ++ Y) → va_S A H0 H1 locs1 → H1[q9]? = some ce → ce.vm = .none → s.vm.findClass (kv_ex u) = some ce.cls → vx_W p l e R s m args below meth c H1 locs1 (cells + mc) (slots + ms) Q (F0 m pc ls rest) q9)
    (kk : ∀ (r : Int32) (u : S) (H1 : Heap) (locs1 : List Loc), post r u → va_P D vwCl (wf u ++ Y) H1 → va_D A (wf u ++ Y) → va_S A H0 H1 locs1 → W p l e R s m args below meth c H1 locs1 (cells + mc) (slots + ms) Q (F0 m (pc + 3) ls (.int r :: rest))) : W p l e R s m args below meth c H locs cells slots Q (F0 m pc ls st0) := by
  have hF := kv_free (kv_Dl hD) hS hA
  refine vx_calli hr hS (fun q _ h => hF q h) hF (fun q _ h => hF q h) (fun E ce q9 u t H1 locs1 ht hvm hw hB hz1 hk1 hS1 h1 h2 h3 => ?_) (fun r u t H1 locs1 ht hvm hw hB hz1 hk1 hS1 => ?_)
  · obtain ⟨rfl, hP1, hD1⟩ := hB
    rw [ht] at hP1
    obtain ⟨z1, z2⟩ := kv_frame hP hD hk1 hF hP1 hD1
    exact kx ce q9 u H1 locs1 hw z1 z2 hS1 h1 h2 h3
  · obtain ⟨hP1, hD1⟩ := hB
    rw [ht] at hP1
    obtain ⟨z1, z2⟩ := kv_frame hP hD hk1 hF hP1 hD1
    exact kk r u H1 locs1 hw z1 z2 hS1
theorem kv_calliF {S : Type} {post : Int32 → S → Prop} {wf : S → va_W} (hr : va_Run p l e R s m args below meth c H locs cells slots mc ms (F0 m pc ls st0) rest (va_Qi post (fun u t => kv_post D w0 H.size (wf u) t) (va_A w0 H.size) a) (va_A w0 H.size)) (hP : va_P D vwCl (w0 ++ Y) H) (hD : va_D A (w0 ++ Y)) (hS : va_S A H0 H locs) (hA : ∀ q, H0.size ≤ q → A q)
    (kk : ∀ (r : Int32) (u : S) (H1 : Heap) (locs1 : List Loc), post r u → va_P D vwCl (wf u ++ Y) H1 → va_D A (wf u ++ Y) → va_S A H0 H1 locs1 → W p l e R s m args below meth c H1 locs1 (cells + mc) (slots + ms) Q (F0 m (pc + 3) ls (.int r :: rest))) : W p l e R s m args below meth c H locs cells slots Q (F0 m pc ls st0) := by
  have hF := kv_free (kv_Dl hD) hS hA
  refine va_calli hr hS (fun q _ h => hF q h) hF (fun r u t H1 locs1 ht hvm hw hB hz1 hk1 hS1 => ?_)
  obtain ⟨hP1, hD1⟩ := hB
  rw [ht] at hP1
  obtain ⟨z1, z2⟩ := kv_frame hP hD hk1 hF hP1 hD1
  exact kk r u H1 locs1 hw z1 z2 hS1
theorem kv_callvF {S : Type} {post : S → Prop} {wf : S → va_W} (hr : va_Run p l e R s m args below meth c H locs cells slots mc ms (F0 m pc ls st0) rest (va_Qv post (fun u t => kv_post D w0 H.size (wf u) t) (va_A w0 H.size) a) (va_A w0 H.size)) (hP : va_P D vwCl (w0 ++ Y) H) (hD : va_D A (w0 ++ Y)) (hS : va_S A H0 H locs) (hA : ∀ q, H0.size ≤ q → A q)
    (kk : ∀ (u : S) (H1 : Heap) (locs1 : List Loc), post u → va_P D vwCl (wf u ++ Y) H1 → va_D A (wf u ++ Y) → va_S A H0 H1 locs1 → W p l e R s m args below meth c H1 locs1 (cells + mc) (slots + ms) Q (F0 m (pc + 3) ls rest)) : W p l e R s m args below meth c H locs cells slots Q (F0 m pc ls st0) := by
  have hF := kv_free (kv_Dl hD) hS hA
  refine va_callv hr hS (fun q _ h => hF q h) hF (fun u t H1 locs1 ht hvm hw hB hz1 hk1 hS1 => ?_)
  obtain ⟨hP1, hD1⟩ := hB
  rw [ht] at hP1
  obtain ⟨z1, z2⟩ := kv_frame hP hD hk1 hF hP1 hD1
  exact kk u H1 locs1 hw z1 z2 hS1
end KVW
def kv_lw (ci la : Nat → Nat) (lm lp lr lq : Nat → Int32) : va_W := [((la 0), .inl (ci 0, 20, .inl lm)), ((la 1), .inl (ci 0, 4, .inl lp)), ((la 2), .inl (ci 0, 60, .inl lr)), ((la 3), .inl (ci 0, 3, .inl lq))]
def kv_lkw (ci la ad : Nat → Nat) (lm : Nat → Int32) (lp : Nat → Int32) (lr : Nat → Int32) (lq : Nat → Int32) (kc : Nat → Int32) (kh : Nat → Int32) (ks : Nat → Int32) (fo : Nat → Nat → Int32) (kl : Nat → Int32) (kp : Nat → Int32) (dy : Int32) (mo : Int32) (n : Nat) (pa : Nat → Nat) (aE : Nat) (qp : Nat → Int32) (qm : Nat → Int32) (ql : Nat → Int32) (qv : Nat → Int32) (qc : Nat → Int32) (qe : Nat → Int32) (mt : Nat → Int32) (mv : Nat → Int32) (sw : Nat → Int32) (hv : Int32) (tk : Nat → Int32) (tn : Nat → Int32) (sc : Nat → Int32) : va_W := kv_lw ci la lm lp lr lq ++ kv_kw ci ad kc kh ks fo kl kp dy mo n pa aE qp qm ql qv qc qe mt mv sw hv tk tn sc
