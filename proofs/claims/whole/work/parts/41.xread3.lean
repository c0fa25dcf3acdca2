/-! X: reading, as one answer -/
section
variable {x_textLength : Int32} {x_pairCount : Int32} {x_placeCount : Int32} {x_procedureCount : Int32} {x_continuationCount : Int32} {x_frameCount : Int32} {x_state : Int32} {x_ending : Int32} {x_form : Int64} {x_environment : Int32} {x_frame : Int32} {x_value : Int64} {x_applied : Int64} {x_argumentCount : Int32} {x_countedCount : Int32} {x_consCount : Int32} {x_entryCount : Int32} {x_outputCount : Int32} {x_itemCount : Int32} {x_text : Nat → Int32} {x_firsts : Nat → Int64} {x_rests : Nat → Int64} {x_placeNames : Nat → Int32} {x_placeValues : Nat → Int64} {x_placeOuters : Nat → Int32} {x_procedureParts : Nat → Int64} {x_procedurePlaces : Nat → Int32} {x_continuationFrames : Nat → Int32} {x_frameTasks : Nat → Int32} {x_frameForms : Nat → Int64} {x_frameValues : Nat → Int64} {x_framePlaces : Nat → Int32} {x_frameNexts : Nat → Int32} {x_arguments : Nat → Int64} {x_outputs : Nat → Int32} {x_itemKinds : Nat → Int32} {x_itemNumbers : Nat → Int32} {x_openLists : Nat → Int64}
variable {T : Nat → Nat} {n : Nat}
theorem xe_rf (hR : pz_Rd T n) (hn : n ≤ 70) (hT : ∀ i, i < n → zv_tk (T i) ∧ x_text i = nI (T i)) :
    ∀ i, i ≤ n → ∀ OL F R, xr_I T n i OL F R → ∃ OL' F' R', xr_I T n 0 OL' F' R' ∧ ∀ post : Int64 → SX → Prop, post (cd_xl T n 0) (x_textLength, nI (pz_W T n), x_placeCount, x_procedureCount, x_continuationCount, x_frameCount, x_state, x_ending, x_form, x_environment, x_frame, x_value, x_applied, x_argumentCount, x_countedCount, x_consCount, x_entryCount, x_outputCount, x_itemCount, x_text, F', R', x_placeNames, x_placeValues, x_placeOuters, x_procedureParts, x_procedurePlaces, x_continuationFrames, x_frameTasks, x_frameForms, x_frameValues, x_framePlaces, x_frameNexts, x_arguments, x_outputs, x_itemKinds, x_itemNumbers, OL') →
      wX_readForms_14 post (i + 1) (cd_xl T n i) (nI (pz_dd T i)) (if i = 0 then -1 else nI (i - 1)) x_textLength (nI (pz_W T n - pz_W T i)) x_placeCount x_procedureCount x_continuationCount x_frameCount x_state x_ending x_form x_environment x_frame x_value x_applied x_argumentCount x_countedCount x_consCount x_entryCount x_outputCount x_itemCount x_text F R x_placeNames x_placeValues x_placeOuters x_procedureParts x_procedurePlaces x_continuationFrames x_frameTasks x_frameForms x_frameValues x_framePlaces x_frameNexts x_arguments x_outputs x_itemKinds x_itemNumbers OL := by
  intro i
  induction i with
  | zero =>
    intro _ OL F R hI
    exact ⟨OL, F, R, hI, fun post hp => br_t (by decide) hp⟩
  | succ i ih =>
    intro hi OL F R hI
    rw [if_neg (by omega), Nat.add_sub_cancel]
    have hb := pz_dd_b (T := T) (i := i + 1)
    have hb0 := pz_dd_b (T := T) (i := i)
    obtain ⟨tk, te⟩ := hT i (by omega)
    have tl : T i < 100 := by unfold zv_tk at tk; omega
    have ec : (nI i).toNatClampNeg = i := nI_clamp (by omega)
    have hW := pz_W_le (T := T) (i := n)
    have hWm := pz_W_mono (T := T) (show i + 1 ≤ n by omega)
    have hWs : pz_W T (i + 1) = pz_W T i + pz_w (T i) := rfl
    have pre := (cl_R ec).trans te
    by_cases c1 : T i = 1
    · obtain ⟨e1, hI2⟩ := xr_1 hR (by omega) c1 hI
      obtain ⟨OL', F', R', g1, g2⟩ := ih (by omega) _ F R hI2
      refine ⟨OL', F', R', g1, fun post hp => ?_⟩
      have := g2 post hp
      rw [xr_l1 c1, ← zk_xE, e1, ← xs_x4] at this
      have hw : pz_W T i = pz_W T (i + 1) := by rw [hWs, c1]; rfl
      rw [hw] at this
      have ed : (nI (pz_dd T (i + 1))).toNatClampNeg = pz_dd T (i + 1) := nI_clamp (by omega)
      refine br_f (nI_pos (by omega)) ⟨vp_in_nI (by omega) (by decide), nm_r pre ?_⟩
      rw [c1]
      exact br_t rfl ⟨vp_in_nI (by omega) (by decide), nm_r (cl_L ed) (nm_r (nI_1 _) (nm_e this))⟩
    · have n1 : ¬ nI (T i) = 1 := fun z => c1 ((nI_eq (a := T i) (b := 1) (by omega) (by omega)).mp z)
      by_cases c0 : T i = 0
      · obtain ⟨e1, e2, e3, hI2⟩ := xr_0 hR (by omega) c0 hI
        obtain ⟨OL', F', R', g1, g2⟩ := ih (by omega) _ _ _ hI2
        refine ⟨OL', F', R', g1, fun post hp => ?_⟩
        have := g2 post hp
        rw [xr_l (by omega) (by omega) c1, ← xs_x4] at this
        have hw : pz_W T n - pz_W T i = pz_W T n - pz_W T (i + 1) + 1 := by rw [hWs, c0] at hWm ⊢; have : pz_w 0 = 1 := rfl; omega
        rw [hw] at this
        have ed : (nI (pz_dd T i)).toNatClampNeg = pz_dd T i := nI_clamp (by omega)
        have e4 : nI (pz_dd T (i + 1)) + (-1) = nI (pz_dd T i) := by rw [e1]; exact pk_m1 _
        refine br_f (nI_pos (by omega)) ⟨vp_in_nI (by omega) (by decide), nm_r pre (br_f n1 ?_)⟩
        rw [c0]
        refine br_t rfl (nm_r e4 ⟨vp_in_nI (by omega) (by decide), ?_⟩)
        rw [(cl_R ed).trans e2]
        exact xs_newPair (by omega) (nm_e this)
      · have n0 : ¬ nI (T i) = 0 := fun z => c0 ((nI_eq (a := T i) (b := 0) (by omega) (by omega)).mp z)
        by_cases c2 : T i = 2
        · obtain ⟨e1, e2, e3, e4, e5, e6, e7, hI2⟩ := xr_2 hR (by omega) c2 hI
          obtain ⟨OL', F', R', g1, g2⟩ := ih (by omega) _ _ _ hI2
          refine ⟨OL', F', R', g1, fun post hp => ?_⟩
          have := g2 post hp
          rw [e5, ← xs_x4, ← e1] at this
          have hw : pz_W T n - pz_W T i = pz_W T n - pz_W T (i + 1) + 1 + 1 := by rw [hWs, c2] at hWm ⊢; have : pz_w 2 = 2 := rfl; omega
          rw [hw] at this
          refine br_f (nI_pos (by omega)) ⟨vp_in_nI (by omega) (by decide), nm_r pre (br_f n1 (br_f n0 ?_))⟩
          rw [c2, e4]
          have hin : vp_in (zv_c 2 (pz_AX T n 0 (i + 1))).toInt32 1400 := zv_in (by omega) (by decide)
          have ea : (zv_c 2 (pz_AX T n 0 (i + 1))).toInt32.toNatClampNeg = pz_AX T n 0 (i + 1) := zv_cl (by omega)
          refine br_t rfl ⟨hin, ?_⟩
          rw [(cl_R ea).trans e7, zk_xE, zk_40]
          exact xs_newPair (by omega) (xs_newPair (by omega) ⟨hin, nm_r (cl_L ea) (nm_e this)⟩)
        · have n2 : ¬ nI (T i) = 2 := fun z => c2 ((nI_eq (a := T i) (b := 2) (by omega) (by omega)).mp z)
          obtain ⟨e1, hI2⟩ := xr_a hR (by omega) (by omega) hI
          obtain ⟨OL', F', R', g1, g2⟩ := ih (by omega) _ _ _ hI2
          refine ⟨OL', F', R', g1, fun post hp => ?_⟩
          have := g2 post hp
          rw [xr_l (by omega) c2 c1, ← xs_x4, ← e1] at this
          have hw : pz_W T n - pz_W T i = pz_W T n - pz_W T (i + 1) + 1 := by
            have : pz_w (T i) = 1 := by unfold pz_w; rw [if_neg c1, if_neg c2]
            rw [hWs, this] at hWm ⊢; omega
          rw [hw] at this
          refine br_f (nI_pos (by omega)) ⟨vp_in_nI (by omega) (by decide), nm_r pre (br_f n1 (br_f n0 (br_f n2 ?_)))⟩
          exact xs_formOf tk (by omega) (xs_newPair (by omega) (nm_e this))
theorem xe_readForms (hR : pz_Rd T n) (hn : n ≤ 70) (hT : ∀ i, i < n → zv_tk (T i) ∧ x_text i = nI (T i)) :
    ∃ OL F R, xr_I T n 0 OL F R ∧ ∀ post : Int64 → SX → Prop, post (cd_xl T n 0) (nI n, nI (pz_W T n), x_placeCount, x_procedureCount, x_continuationCount, x_frameCount, x_state, x_ending, x_form, x_environment, x_frame, x_value, x_applied, x_argumentCount, x_countedCount, x_consCount, x_entryCount, x_outputCount, x_itemCount, x_text, F, R, x_placeNames, x_placeValues, x_placeOuters, x_procedureParts, x_procedurePlaces, x_continuationFrames, x_frameTasks, x_frameForms, x_frameValues, x_framePlaces, x_frameNexts, x_arguments, x_outputs, x_itemKinds, x_itemNumbers, OL) → wpX_readForms post (nI n, 0, x_placeCount, x_procedureCount, x_continuationCount, x_frameCount, x_state, x_ending, x_form, x_environment, x_frame, x_value, x_applied, x_argumentCount, x_countedCount, x_consCount, x_entryCount, x_outputCount, x_itemCount, x_text, x_firsts, x_rests, x_placeNames, x_placeValues, x_placeOuters, x_procedureParts, x_procedurePlaces, x_continuationFrames, x_frameTasks, x_frameForms, x_frameValues, x_framePlaces, x_frameNexts, x_arguments, x_outputs, x_itemKinds, x_itemNumbers, x_openLists) := by
  obtain ⟨OL, F, R, h1, h2⟩ := xe_rf (x_textLength := nI n) (x_placeCount := x_placeCount) (x_procedureCount := x_procedureCount) (x_continuationCount := x_continuationCount) (x_frameCount := x_frameCount) (x_state := x_state) (x_ending := x_ending) (x_form := x_form) (x_environment := x_environment) (x_frame := x_frame) (x_value := x_value) (x_applied := x_applied) (x_argumentCount := x_argumentCount) (x_countedCount := x_countedCount) (x_consCount := x_consCount) (x_entryCount := x_entryCount) (x_outputCount := x_outputCount) (x_itemCount := x_itemCount) (x_placeNames := x_placeNames) (x_placeValues := x_placeValues) (x_placeOuters := x_placeOuters) (x_procedureParts := x_procedureParts) (x_procedurePlaces := x_procedurePlaces) (x_continuationFrames := x_continuationFrames) (x_frameTasks := x_frameTasks) (x_frameForms := x_frameForms) (x_frameValues := x_frameValues) (x_framePlaces := x_framePlaces) (x_frameNexts := x_frameNexts) (x_arguments := x_arguments) (x_outputs := x_outputs) (x_itemKinds := x_itemKinds) (x_itemNumbers := x_itemNumbers) hR hn hT n (Nat.le_refl _) x_openLists x_firsts x_rests xr_start
  refine ⟨OL, F, R, h1, fun post hp => ?_⟩
  have h := h2 post hp
  rw [Nat.sub_self, xr_ln, hR.2.1, ← xs_x4, ← zk_xE] at h
  exact nm_r (Int32.sub_eq_add_neg (nI n) 1) ⟨n + 1, h⟩
end
