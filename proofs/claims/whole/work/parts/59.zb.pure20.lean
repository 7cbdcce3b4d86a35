section KVP21
theorem kv_spare_b (co ho ve pr : Nat → Int32) (rg : Int32) (rp rm ro : Nat → Int32) (r : Nat) (k43) (all g lo e mid w : Nat) (x4 th : Int32) (rc cn tn tk sp cn' tn' tk' sp' : Nat → Int32) (ba ba' : Int32) (hr : r < 12) (ha : all ≤ 500) (he : e ≤ all) (hx : x4.toInt = (lo : Int) - 1) (hlo : lo < e) (hm : mid = lo - 1 + (e - lo + 1) / 2 ∨ True) (hmid : (mid : Int) = (lo : Int) - 1 + ((e - lo + 1) / 2 : Nat))
    (hl : pf_X3_least co ho ve pr rg rp rm (upd rc r (nI mid)) ro (rp r) cn tn tk sp ba = some (nI w, cn', tn', tk', sp', ba')) :
    pf_X3_spare_43b co ho ve pr rg rp rm ro (nI r) k43 (nI all) (nI g) x4 (nI e) th rc cn tn tk sp ba = if nI w = nI g then k43 (nI all) (nI g) x4 (nI mid) th (upd rc r (nI mid)) cn' tn' tk' sp' ba' else k43 (nI all) (nI g) (nI mid) (nI e) th (upd rc r (nI mid)) cn' tn' tk' sp' ba' := by
  have he2 : (nI e).toInt = e := nI_toInt (by omega)
  have hs : (nI e - x4).toInt = (e : Int) - (lo - 1) := by rw [kv_subI (by omega) (by omega), he2, hx]
  have hd : nI e - x4 = nI (e - lo + 1) := by
    apply Int32.toInt_inj.mp
    rw [hs, nI_toInt (by omega)]
    omega
  have hd2 : nI (e - lo + 1) / 2 = nI ((e - lo + 1) / 2) := pk_div (d := 2) (by omega) (by omega) (by omega)
  have hmm : x4 + nI ((e - lo + 1) / 2) = nI mid := by
    apply Int32.toInt_inj.mp
    rw [kv_addI (by rw [hx, nI_toInt (by omega)]; omega) (by rw [hx, nI_toInt (by omega)]; omega), hx, nI_toInt (by omega), nI_toInt (by omega)]
    omega
  have hc : (nI r).toNatClampNeg = r := nI_clamp (by omega)
  have hg12 : ∀ {α : Type} (z : Option α), kv_G (nI r) 12 z = z := fun z => kv_gN hr (by omega) z
  have h1 : ¬ nI (e - lo + 1) ≤ 1 := fun q => by have := (nI_leI (b := 1) (by omega) (by omega)).mp q; omega
  have hz2 : ∀ {α : Type} (z : Option α), kv_Z 2 z = z := fun z => if_neg (by decide)
  unfold pf_X3_spare_43b
  rw [hd, hd2, hmm, if_neg h1, hz2, hg12, kv_T_s, hc, hg12, kv_T_s, hl, kv_q6_s]
  unfold pf_X3_spare_87 pf_X3_spare_105 pf_X3_spare_123
  have h10 : ¬ ((1 : Int32) = 0) := by decide
  have hu : upd rc r (nI mid) r = nI mid := if_pos rfl
  by_cases c : nI w = nI g
  · rw [if_pos c, if_pos c, if_neg h10, hg12, kv_T_s, hc, if_neg h10, hu]
  · rw [if_neg c, if_neg c, if_pos rfl, if_pos rfl, hg12, kv_T_s, hc, hu]
theorem q_half (co ho ve pr : Nat → Int32) (rg : Int32) (rp rm ro rc0 : Nat → Int32) (r all g M : Nat) (hr : r < 12) (ha : all ≤ 500) (hleast : ∀ (x : Nat) (rc cn tn tk sp : Nat → Int32) (ba : Int32), x ≤ all → (∀ j, j ≠ r → rc j = rc0 j) → rc r = nI x → tk 0 = 0 → sp 0 = 0 → ∃ (w : Nat) (cn' tn' tk' sp' : Nat → Int32) (ba' : Int32), pf_X3_least co ho ve pr rg rp rm rc ro (rp r) cn tn tk sp ba = some (nI w, cn', tn', tk', sp', ba') ∧ tk' 0 = 0 ∧ sp' 0 = 0 ∧ (nI w = nI g ↔ M ≤ x)) :
    ∀ (k f lo e : Nat) (x4 : Int32) (rc cn tn tk sp : Nat → Int32) (ba : Int32), e + 1 - lo ≤ k → k < f → lo ≤ M → M ≤ e → e ≤ all → x4.toInt = (lo : Int) - 1 → (∀ j, j ≠ r → rc j = rc0 j) → tk 0 = 0 → sp 0 = 0 → ∃ (rc' cn' tn' tk' sp' : Nat → Int32) (ba' : Int32), pf_X3_spare_43 co ho ve pr rg rp rm ro (nI r) f (nI all) (nI g) x4 (nI e) 0 rc cn tn tk sp ba = some (nI all - nI M, 0, rc', cn', tn', tk', sp', ba') ∧ (∀ j, j ≠ r → rc' j = rc0 j) ∧ rc' r = nI all ∧ tk' 0 = 0 ∧ sp' 0 = 0 := by
  intro k
  induction k with
  | zero => intro f lo e x4 rc cn tn tk sp ba h1 h2 h3 h4; omega
  | succ k ih =>
    intro f lo e x4 rc cn tn tk sp ba h1 h2 h3 h4 h5 h6 h7 h8 h9
    obtain ⟨f, rfl⟩ : ∃ z, f = z + 1 := ⟨f - 1, by omega⟩
    have he2 : (nI e).toInt = e := nI_toInt (by omega)
    rw [pf_X3_spare_43.eq_2]
    by_cases c : lo < e
    · obtain ⟨mid, hmid⟩ : ∃ mid : Nat, (mid : Int) = (lo : Int) - 1 + ((e - lo + 1) / 2 : Nat) := ⟨lo - 1 + (e - lo + 1) / 2 - (if lo = 0 then 1 else 0), by split <;> omega⟩
      obtain ⟨w, cn', tn', tk', sp', ba', g1, g2, g3, g4⟩ := hleast mid (upd rc r (nI mid)) cn tn tk sp ba (by omega) (fun j hj => by unfold upd; rw [if_neg hj]; exact h7 j hj) (if_pos rfl) h8 h9
      rw [kv_spare_b co ho ve pr rg rp rm ro r _ all g lo e mid w x4 0 rc cn tn tk sp cn' tn' tk' sp' ba ba' hr ha h5 h6 c (Or.inr trivial) hmid g1]
      by_cases q : M ≤ mid
      · rw [if_pos (g4.mpr q)]
        exact ih f lo mid x4 _ cn' tn' tk' sp' ba' (by omega) (by omega) h3 q (by omega) h6 (fun j hj => by unfold upd; rw [if_neg hj]; exact h7 j hj) g2 g3
      · rw [if_neg (fun z => q (g4.mp z))]
        exact ih f (mid + 1) e (nI mid) _ cn' tn' tk' sp' ba' (by omega) (by omega) (by omega) h4 h5 (by rw [nI_toInt (by omega)]; omega) (fun j hj => by unfold upd; rw [if_neg hj]; exact h7 j hj) g2 g3
    · have hs : (nI e - x4).toInt = (e : Int) - (lo - 1) := by rw [kv_subI (by omega) (by omega), he2, h6]
      have hle : nI e - x4 ≤ 1 := by rw [Int32.le_iff_toInt_le, hs, kv_i1]; omega
      have hM : M = e := by omega
      refine ⟨upd rc r (nI all), cn, tn, tk, sp, ba, ?_, fun j hj => by unfold upd; rw [if_neg hj]; exact h7 j hj, if_pos rfl, h8, h9⟩
      unfold pf_X3_spare_43b
      rw [if_pos hle, kv_gN hr (by omega), kv_T_s, nI_clamp (by omega), hM]
end KVP21
