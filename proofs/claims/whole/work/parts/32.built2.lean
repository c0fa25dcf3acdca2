/-! built-in procedures: pairs, numbers, print -/
section
variable {x_textLength : Int32} {x_pairCount : Int32} {x_placeCount : Int32} {x_procedureCount : Int32} {x_continuationCount : Int32} {x_frameCount : Int32} {x_state : Int32} {x_ending : Int32} {x_form : Int64} {x_environment : Int32} {x_frame : Int32} {x_value : Int64} {x_applied : Int64} {x_argumentCount : Int32} {x_countedCount : Int32} {x_consCount : Int32} {x_entryCount : Int32} {x_outputCount : Int32} {x_itemCount : Int32} {x_text : Nat → Int32} {x_firsts : Nat → Int64} {x_rests : Nat → Int64} {x_placeNames : Nat → Int32} {x_placeValues : Nat → Int64} {x_placeOuters : Nat → Int32} {x_procedureParts : Nat → Int64} {x_procedurePlaces : Nat → Int32} {x_continuationFrames : Nat → Int32} {x_frameTasks : Nat → Int32} {x_frameForms : Nat → Int64} {x_frameValues : Nat → Int64} {x_framePlaces : Nat → Int32} {x_frameNexts : Nat → Int32} {x_arguments : Nat → Int64} {x_outputs : Nat → Int32} {x_itemKinds : Nat → Int32} {x_itemNumbers : Nat → Int32} {x_openLists : Nat → Int64}
variable {y_size : Int32} {y_pairs : Int32} {y_open : Int32} {y_formCount : Int32} {y_places : Int32} {y_procedures : Int32} {y_continuationCount : Int32} {y_things : Int32} {y_foundCount : Int32} {y_argumentCount : Int32} {y_value : Int64} {y_form : Int64} {y_wherein : Int32} {y_next : Int32} {y_working : Int32} {y_ending : Int32} {y_counts : Int32} {y_made : Int32} {y_entered : Int32} {y_printCount : Int32} {y_itemCount : Int32} {y_text : Nat → Int32} {y_firsts : Nat → Int64} {y_rests : Nat → Int64} {y_heads : Nat → Int32} {y_lasts : Nat → Int32} {y_globals : Nat → Int64} {y_placeNames : Nat → Int32} {y_placeValues : Nat → Int64} {y_placeNexts : Nat → Int32} {y_procedureForms : Nat → Int64} {y_procedurePlaces : Nat → Int32} {y_continuations : Nat → Int32} {y_whats : Nat → Int32} {y_withs : Nat → Int64} {y_whereins : Nat → Int32} {y_soFars : Nat → Int32} {y_afters : Nat → Int32} {y_found : Nat → Int64} {y_foundNexts : Nat → Int32} {y_arguments : Nat → Int64} {y_prints : Nat → Int32} {y_itemKinds : Nat → Int32} {y_itemNumbers : Nat → Int32} {y_pile : Nat → Int64}
variable {T : Nat → Nat} {n px py pl np nc nf fo co cn et pc : Nat} {M : Nat → Nat → Prop} {G : Nat → Nat}
theorem zv_Vpair {y x : Int64} (h : zv_V M np nc y x) : (∃ k l, M k l ∧ k < 4294967296 ∧ l < 4294967296 ∧ y = zv_c 3 k ∧ x = zv_c 2 l) ∨ (∃ t k s l, t < 9 ∧ s < 9 ∧ t ≠ 3 ∧ s ≠ 2 ∧ k < 4294967296 ∧ l < 4294967296 ∧ y = zv_c t k ∧ x = zv_c s l) := by
  obtain ⟨t, a, s, l, v1, v2, v3, v4, vK⟩ := h
  have vb := zv_K_b vK
  have vp := zv_K_p vK
  by_cases z : t = 3
  · have := vp.1.mp z
    subst z this
    exact Or.inl ⟨a, l, vp.2.1 rfl, v1, v2, v3, v4⟩
  · exact Or.inr ⟨t, a, s, l, vb.1, vb.2, z, fun y => z (vp.1.mpr y), v1, v2, v3, v4⟩
theorem zv_Vn {y x : Int64} (h : zv_V M np nc y x) : (∃ k, k < 4294967296 ∧ y = zv_c 0 k ∧ x = zv_c 0 k) ∨ (∃ t k s l, t < 9 ∧ s < 9 ∧ t ≠ 0 ∧ s ≠ 0 ∧ k < 4294967296 ∧ l < 4294967296 ∧ y = zv_c t k ∧ x = zv_c s l) := by
  obtain ⟨t, a, s, l, v1, v2, v3, v4, vK⟩ := h
  have vb := zv_K_b vK
  have vp := zv_K_p vK
  by_cases z : t = 0
  · have hs := vp.2.2.2.1.mp z
    have hl := vp.2.2.2.2.2.2.2 (by omega)
    subst z hs hl
    exact Or.inl ⟨_, v1, v3, v4⟩
  · exact Or.inr ⟨t, a, s, l, vb.1, vb.2, z, fun y => z (vp.2.2.2.1.mpr y), v1, v2, v3, v4⟩
theorem zk_s2 {s l : Nat} (hs : s < 9) (hl : l < 4294967296) : zv_c s l >>> ((32 : Int32).toInt64 &&& 63) = 2 ↔ s = 2 := by
  rw [zv_sh (by omega) hl]
  exact pk_lEQ (a := s) (b := 2) (by omega) (by omega)
theorem zk_s0 {s l : Nat} (hs : s < 9) (hl : l < 4294967296) : zv_c s l >>> ((32 : Int32).toInt64 &&& 63) = 0 ↔ s = 0 := by
  rw [zv_sh (by omega) hl]
  exact pk_lEQ (a := s) (b := 0) (by omega) (by omega)
/-- X's and Y's ways to the pair -/
theorem xb_pair {post : SX → Prop} {k : Nat} {z : Int32} (hk : (k = 51 ∧ z = 1) ∨ (k = 52 ∧ z = 1) ∨ (k = 60 ∧ z = 2) ∨ (k = 61 ∧ z = 2)) (hp : wpX_usePair (fun u => match u with | (x_textLength, x_pairCount, x_placeCount, x_procedureCount, x_continuationCount, x_frameCount, x_state, x_ending, x_form, x_environment, x_frame, x_value, x_applied, x_argumentCount, x_countedCount, x_consCount, x_entryCount, x_outputCount, x_itemCount, x_text, x_firsts, x_rests, x_placeNames, x_placeValues, x_placeOuters, x_procedureParts, x_procedurePlaces, x_continuationFrames, x_frameTasks, x_frameForms, x_frameValues, x_framePlaces, x_frameNexts, x_arguments, x_outputs, x_itemKinds, x_itemNumbers, x_openLists) => post (x_textLength, x_pairCount, x_placeCount, x_procedureCount, x_continuationCount, x_frameCount, x_state, x_ending, x_form, x_environment, x_frame, x_value, x_applied, x_argumentCount, x_countedCount, x_consCount, x_entryCount, x_outputCount, x_itemCount, x_text, x_firsts, x_rests, x_placeNames, x_placeValues, x_placeOuters, x_procedureParts, x_procedurePlaces, x_continuationFrames, x_frameTasks, x_frameForms, x_frameValues, x_framePlaces, x_frameNexts, x_arguments, x_outputs, x_itemKinds, x_itemNumbers, x_openLists)) (x_textLength, x_pairCount, x_placeCount, x_procedureCount, x_continuationCount, x_frameCount, x_state, x_ending, x_form, x_environment, x_frame, x_value, x_applied, x_argumentCount, x_countedCount, x_consCount, x_entryCount, x_outputCount, x_itemCount, x_text, x_firsts, x_rests, x_placeNames, x_placeValues, x_placeOuters, x_procedureParts, x_procedurePlaces, x_continuationFrames, x_frameTasks, x_frameForms, x_frameValues, x_framePlaces, x_frameNexts, x_arguments, x_outputs, x_itemKinds, x_itemNumbers, x_openLists) (nI k)) : wX_applyBuiltIn_43 post (nI k) z z x_textLength x_pairCount x_placeCount x_procedureCount x_continuationCount x_frameCount x_state x_ending x_form x_environment x_frame x_value x_applied x_argumentCount x_countedCount x_consCount x_entryCount x_outputCount x_itemCount x_text x_firsts x_rests x_placeNames x_placeValues x_placeOuters x_procedureParts x_procedurePlaces x_continuationFrames x_frameTasks x_frameForms x_frameValues x_framePlaces x_frameNexts x_arguments x_outputs x_itemKinds x_itemNumbers x_openLists := by
  rcases hk with ⟨rfl, rfl⟩ | ⟨rfl, rfl⟩ | ⟨rfl, rfl⟩ | ⟨rfl, rfl⟩
  · exact br_t rfl (br_f (by decide) (br_f (by decide) (br_f (by decide) (br_t rfl hp))))
  · exact br_t rfl (br_f (by decide) (br_f (by decide) (br_f (by decide) (br_f (by decide) (br_t rfl hp)))))
  · exact br_t rfl (br_f (by decide) (br_f (by decide) (br_f (by decide) (br_f (by decide) (br_f (by decide) (br_f (by decide) (br_f (by decide) (br_f (by decide) (br_f (by decide) (br_f (by decide) (br_f (by decide) (br_f (by decide) (br_t rfl hp)))))))))))))
  · exact br_t rfl (br_f (by decide) (br_f (by decide) (br_f (by decide) (br_f (by decide) (br_f (by decide) (br_f (by decide) (br_f (by decide) (br_f (by decide) (br_f (by decide) (br_f (by decide) (br_f (by decide) (br_f (by decide) (br_f (by decide) (br_t rfl hp))))))))))))))
theorem yb_pair {post : SY → Prop} {k : Nat} {a b : Int64} (hk : k = 51 ∨ k = 52 ∨ k = 60 ∨ k = 61) (hp : wpY_applyToPair (fun u => match u with | (y_size, y_pairs, y_open, y_formCount, y_places, y_procedures, y_continuationCount, y_things, y_foundCount, y_argumentCount, y_value, y_form, y_wherein, y_next, y_working, y_ending, y_counts, y_made, y_entered, y_printCount, y_itemCount, y_text, y_firsts, y_rests, y_heads, y_lasts, y_globals, y_placeNames, y_placeValues, y_placeNexts, y_procedureForms, y_procedurePlaces, y_continuations, y_whats, y_withs, y_whereins, y_soFars, y_afters, y_found, y_foundNexts, y_arguments, y_prints, y_itemKinds, y_itemNumbers, y_pile) => post (y_size, y_pairs, y_open, y_formCount, y_places, y_procedures, y_continuationCount, y_things, y_foundCount, y_argumentCount, y_value, y_form, y_wherein, y_next, y_working, y_ending, y_counts, y_made, y_entered, y_printCount, y_itemCount, y_text, y_firsts, y_rests, y_heads, y_lasts, y_globals, y_placeNames, y_placeValues, y_placeNexts, y_procedureForms, y_procedurePlaces, y_continuations, y_whats, y_withs, y_whereins, y_soFars, y_afters, y_found, y_foundNexts, y_arguments, y_prints, y_itemKinds, y_itemNumbers, y_pile)) (y_size, y_pairs, y_open, y_formCount, y_places, y_procedures, y_continuationCount, y_things, y_foundCount, y_argumentCount, y_value, y_form, y_wherein, y_next, y_working, y_ending, y_counts, y_made, y_entered, y_printCount, y_itemCount, y_text, y_firsts, y_rests, y_heads, y_lasts, y_globals, y_placeNames, y_placeValues, y_placeNexts, y_procedureForms, y_procedurePlaces, y_continuations, y_whats, y_withs, y_whereins, y_soFars, y_afters, y_found, y_foundNexts, y_arguments, y_prints, y_itemKinds, y_itemNumbers, y_pile) (nI k) a b) : wpY_applyBuiltIn post (y_size, y_pairs, y_open, y_formCount, y_places, y_procedures, y_continuationCount, y_things, y_foundCount, y_argumentCount, y_value, y_form, y_wherein, y_next, y_working, y_ending, y_counts, y_made, y_entered, y_printCount, y_itemCount, y_text, y_firsts, y_rests, y_heads, y_lasts, y_globals, y_placeNames, y_placeValues, y_placeNexts, y_procedureForms, y_procedurePlaces, y_continuations, y_whats, y_withs, y_whereins, y_soFars, y_afters, y_found, y_foundNexts, y_arguments, y_prints, y_itemKinds, y_itemNumbers, y_pile) (nI k) a b := by
  rcases hk with rfl | rfl | rfl | rfl
  · exact br_f (by decide) (br_f (by decide) (br_f (by decide) (br_f (by decide) (br_t rfl hp))))
  · exact br_f (by decide) (br_f (by decide) (br_f (by decide) (br_f (by decide) (br_f (by decide) (br_t rfl hp)))))
  · exact br_f (by decide) (br_f (by decide) (br_f (by decide) (br_f (by decide) (br_f (by decide) (br_f (by decide) (br_t rfl hp))))))
  · exact br_f (by decide) (br_f (by decide) (br_f (by decide) (br_f (by decide) (br_f (by decide) (br_f (by decide) (br_f (by decide) (br_t rfl hp)))))))
theorem bi_pair {k : Nat} {z : Int32} (h : sm_R T n M G px py pl np nc nf fo co cn et pc (x_textLength, x_pairCount, x_placeCount, x_procedureCount, x_continuationCount, x_frameCount, x_state, -1, x_form, x_environment, x_frame, x_value, x_applied, x_argumentCount, x_countedCount, x_consCount, x_entryCount, x_outputCount, x_itemCount, x_text, x_firsts, x_rests, x_placeNames, x_placeValues, x_placeOuters, x_procedureParts, x_procedurePlaces, x_continuationFrames, x_frameTasks, x_frameForms, x_frameValues, x_framePlaces, x_frameNexts, x_arguments, x_outputs, x_itemKinds, x_itemNumbers, x_openLists) (y_size, y_pairs, y_open, y_formCount, y_places, y_procedures, y_continuationCount, y_things, y_foundCount, y_argumentCount, y_value, y_form, y_wherein, y_next, y_working, -1000000003, y_counts, y_made, y_entered, y_printCount, y_itemCount, y_text, y_firsts, y_rests, y_heads, y_lasts, y_globals, y_placeNames, y_placeValues, y_placeNexts, y_procedureForms, y_procedurePlaces, y_continuations, y_whats, y_withs, y_whereins, y_soFars, y_afters, y_found, y_foundNexts, y_arguments, y_prints, y_itemKinds, y_itemNumbers, y_pile)) (hb : fo ≤ co ∧ nf ≤ co) (hf : x_frame = y_next) (hf2 : fm_N nf y_next) (hk : (k = 51 ∧ z = 1) ∨ (k = 52 ∧ z = 1) ∨ (k = 60 ∧ z = 2) ∨ (k = 61 ∧ z = 2)) (h0 : zv_V M np nc (y_arguments 0) (x_arguments 0)) (h1 : 60 ≤ k → zv_V M np nc (y_arguments 1) (x_arguments 1)) :
    ∃ u' v', (∀ post : SX → Prop, post u' → wX_applyBuiltIn_43 post (nI k) z z x_textLength x_pairCount x_placeCount x_procedureCount x_continuationCount x_frameCount x_state (-1) x_form x_environment x_frame x_value x_applied x_argumentCount x_countedCount x_consCount x_entryCount x_outputCount x_itemCount x_text x_firsts x_rests x_placeNames x_placeValues x_placeOuters x_procedureParts x_procedurePlaces x_continuationFrames x_frameTasks x_frameForms x_frameValues x_framePlaces x_frameNexts x_arguments x_outputs x_itemKinds x_itemNumbers x_openLists) ∧ (∀ post : SY → Prop, post v' → wpY_applyBuiltIn post (y_size, y_pairs, y_open, y_formCount, y_places, y_procedures, y_continuationCount, y_things, y_foundCount, y_argumentCount, y_value, y_form, y_wherein, y_next, y_working, -1000000003, y_counts, y_made, y_entered, y_printCount, y_itemCount, y_text, y_firsts, y_rests, y_heads, y_lasts, y_globals, y_placeNames, y_placeValues, y_placeNexts, y_procedureForms, y_procedurePlaces, y_continuations, y_whats, y_withs, y_whereins, y_soFars, y_afters, y_found, y_foundNexts, y_arguments, y_prints, y_itemKinds, y_itemNumbers, y_pile) (nI k) (y_arguments 0) (y_arguments 1)) ∧ sm_to T n co u' v' := by
  have hr := h
  obtain ⟨a0, _, _, b0, c1, c2, _⟩ := hr
  rcases zv_Vpair h0 with ⟨p, q, hM, p1, q1, ey, ex⟩ | ⟨t, a, s, l, t1, s1, t2, s2, a1, l1, ey, ex⟩
  · obtain ⟨p2, q2⟩ := c2.1.1 _ _ hM
    obtain ⟨w1, w2⟩ := c2.1.2.2.2.1 _ _ hM
    have hx : x_arguments 0 >>> ((32 : Int32).toInt64 &&& 63) = 2 := by rw [ex]; exact (zk_s2 (by decide) q1).mpr rfl
    have hxi : (x_arguments 0).toInt32 = nI q := by rw [ex, zv_lo]
    have eq : (nI q).toNatClampNeg = q := nI_clamp (by omega)
    have hiq : vp_in (nI q) 1400 := vp_in_nI (by omega) (by decide)
    have ep : (zv_c 3 p).toInt32.toNatClampNeg = p := zv_cl (by omega)
    have hip : vp_in (zv_c 3 p).toInt32 900 := zv_in (by omega) (by decide)
    rcases hk with ⟨rfl, rfl⟩ | ⟨rfl, rfl⟩ | ⟨rfl, rfl⟩ | ⟨rfl, rfl⟩
    · have ht := sm_toV h hb rfl rfl w1 hf hf2
      refine ⟨_, _, fun post hp => xb_pair (Or.inl ⟨rfl, rfl⟩) (br_t hx (nm_r hxi (br_t rfl ⟨hiq, ?_⟩))), fun post hp => yb_pair (by omega) ?_, ht⟩
      · rw [eq]; exact hp
      · rw [ey]
        unfold wpY_applyToPair
        exact ys_isPair_t p1 (br_f (by decide) (br_f (by decide) (br_t rfl (ys_firstOf (by omega) hp))))
    · have ht := sm_toV h hb rfl rfl w2 hf hf2
      refine ⟨_, _, fun post hp => xb_pair (Or.inr (Or.inl ⟨rfl, rfl⟩)) (br_t hx (nm_r hxi (br_f (by decide) (br_t rfl ⟨hiq, ?_⟩)))), fun post hp => yb_pair (by omega) ?_, ht⟩
      · rw [eq]; exact hp
      · rw [ey]
        unfold wpY_applyToPair
        exact ys_isPair_t p1 (br_f (by decide) (br_f (by decide) (br_f (by decide) (ys_restOf (by omega) hp))))
    · have hs := rk_set h hM (h1 (by decide)) w2
      rw [up_self x_rests q] at hs
      have ht := sm_toV hs hb rfl rfl zv_Vnoth hf hf2
      refine ⟨_, _, fun post hp => xb_pair (Or.inr (Or.inr (Or.inl ⟨rfl, rfl⟩))) (br_t hx (nm_r hxi (br_f (by decide) (br_f (by decide) (br_t rfl ⟨hiq, nm_r (cl_L eq) ?_⟩))))), fun post hp => yb_pair (by omega) ?_, ht⟩
      · rw [zk_xN]; exact hp
      · rw [ey]
        unfold wpY_applyToPair
        refine ys_isPair_t p1 (br_f (by decide) (br_t (by decide) (br_t rfl ⟨hip, nm_r (cl_L ep) (br_f (by decide) ⟨hip, hip, ?_⟩)⟩)))
        rw [(cl_R ep : y_rests (zv_c 3 p).toInt32.toNatClampNeg = y_rests p)]
        exact nm_r (cl_L ep) (ys_thing (t := 8) (k := 0) rfl rfl (by decide) (by decide) hp)
    · have hs := rk_set h hM w1 (h1 (by decide))
      rw [up_self x_firsts q] at hs
      have ht := sm_toV hs hb rfl rfl zv_Vnoth hf hf2
      refine ⟨_, _, fun post hp => xb_pair (Or.inr (Or.inr (Or.inr ⟨rfl, rfl⟩))) (br_t hx (nm_r hxi (br_f (by decide) (br_f (by decide) (br_f (by decide) ⟨hiq, nm_r (cl_L eq) ?_⟩))))), fun post hp => yb_pair (by omega) ?_, ht⟩
      · rw [zk_xN]; exact hp
      · rw [ey]
        unfold wpY_applyToPair
        refine ys_isPair_t p1 (br_f (by decide) (br_t (by decide) (br_f (by decide) ⟨hip, hip, ?_⟩)))
        rw [(cl_R ep : y_firsts (zv_c 3 p).toInt32.toNatClampNeg = y_firsts p)]
        exact nm_r (cl_L ep) (br_t rfl ⟨hip, nm_r (cl_L ep) (ys_thing (t := 8) (k := 0) rfl rfl (by decide) (by decide) hp)⟩)
  · have hE := sm_E_R (e := 7) h (by decide) (by decide)
    refine ⟨_, _, fun post hp => xb_pair hk (br_f (by rw [ex]; exact fun y => s2 ((zk_s2 s1 l1).mp y)) hp), fun post hp => yb_pair (by omega) ?_, Or.inl hE⟩
    rw [ey]
    unfold wpY_applyToPair
    exact ys_isPair_f (by omega) t2 a1 (br_t rfl hp)
theorem xs_giveNumber {post : SX → Prop} {x : Int32} {r : Nat} (hr : r < 4294967296) (hx : x = nI r) (hp : post (x_textLength, x_pairCount, x_placeCount, x_procedureCount, x_continuationCount, x_frameCount, 2, x_ending, x_form, x_environment, x_frame, zv_c 0 r, x_applied, x_argumentCount, x_countedCount, x_consCount, x_entryCount, x_outputCount, x_itemCount, x_text, x_firsts, x_rests, x_placeNames, x_placeValues, x_placeOuters, x_procedureParts, x_procedurePlaces, x_continuationFrames, x_frameTasks, x_frameForms, x_frameValues, x_framePlaces, x_frameNexts, x_arguments, x_outputs, x_itemKinds, x_itemNumbers, x_openLists)) : wpX_giveNumber post (x_textLength, x_pairCount, x_placeCount, x_procedureCount, x_continuationCount, x_frameCount, x_state, x_ending, x_form, x_environment, x_frame, x_value, x_applied, x_argumentCount, x_countedCount, x_consCount, x_entryCount, x_outputCount, x_itemCount, x_text, x_firsts, x_rests, x_placeNames, x_placeValues, x_placeOuters, x_procedureParts, x_procedurePlaces, x_continuationFrames, x_frameTasks, x_frameForms, x_frameValues, x_framePlaces, x_frameNexts, x_arguments, x_outputs, x_itemKinds, x_itemNumbers, x_openLists) x := by
  subst hx
  refine nm_r ?_ hp
  rw [zv_sx hr, Int64.zero_or]
  unfold zv_c
  rw [Nat.zero_mul, Nat.zero_add]
theorem xb_calc {post : SX → Prop} {k : Nat} (h1 : 56 ≤ k) (h2 : k ≤ 59) (hp : wpX_calculate (fun u => match u with | (x_textLength, x_pairCount, x_placeCount, x_procedureCount, x_continuationCount, x_frameCount, x_state, x_ending, x_form, x_environment, x_frame, x_value, x_applied, x_argumentCount, x_countedCount, x_consCount, x_entryCount, x_outputCount, x_itemCount, x_text, x_firsts, x_rests, x_placeNames, x_placeValues, x_placeOuters, x_procedureParts, x_procedurePlaces, x_continuationFrames, x_frameTasks, x_frameForms, x_frameValues, x_framePlaces, x_frameNexts, x_arguments, x_outputs, x_itemKinds, x_itemNumbers, x_openLists) => post (x_textLength, x_pairCount, x_placeCount, x_procedureCount, x_continuationCount, x_frameCount, x_state, x_ending, x_form, x_environment, x_frame, x_value, x_applied, x_argumentCount, x_countedCount, x_consCount, x_entryCount, x_outputCount, x_itemCount, x_text, x_firsts, x_rests, x_placeNames, x_placeValues, x_placeOuters, x_procedureParts, x_procedurePlaces, x_continuationFrames, x_frameTasks, x_frameForms, x_frameValues, x_framePlaces, x_frameNexts, x_arguments, x_outputs, x_itemKinds, x_itemNumbers, x_openLists)) (x_textLength, x_pairCount, x_placeCount, x_procedureCount, x_continuationCount, x_frameCount, x_state, x_ending, x_form, x_environment, x_frame, x_value, x_applied, x_argumentCount, x_countedCount, x_consCount, x_entryCount, x_outputCount, x_itemCount, x_text, x_firsts, x_rests, x_placeNames, x_placeValues, x_placeOuters, x_procedureParts, x_procedurePlaces, x_continuationFrames, x_frameTasks, x_frameForms, x_frameValues, x_framePlaces, x_frameNexts, x_arguments, x_outputs, x_itemKinds, x_itemNumbers, x_openLists) (nI k)) : wX_applyBuiltIn_43 post (nI k) 2 2 x_textLength x_pairCount x_placeCount x_procedureCount x_continuationCount x_frameCount x_state x_ending x_form x_environment x_frame x_value x_applied x_argumentCount x_countedCount x_consCount x_entryCount x_outputCount x_itemCount x_text x_firsts x_rests x_placeNames x_placeValues x_placeOuters x_procedureParts x_procedurePlaces x_continuationFrames x_frameTasks x_frameForms x_frameValues x_framePlaces x_frameNexts x_arguments x_outputs x_itemKinds x_itemNumbers x_openLists := by
  have hk : k = 56 ∨ k = 57 ∨ k = 58 ∨ k = 59 := by omega
  rcases hk with rfl | rfl | rfl | rfl
  · exact br_t rfl (br_f (by decide) (br_f (by decide) (br_f (by decide) (br_f (by decide) (br_f (by decide) (br_f (by decide) (br_f (by decide) (br_f (by decide) (br_t rfl hp)))))))))
  · exact br_t rfl (br_f (by decide) (br_f (by decide) (br_f (by decide) (br_f (by decide) (br_f (by decide) (br_f (by decide) (br_f (by decide) (br_f (by decide) (br_f (by decide) (br_t rfl hp))))))))))
  · exact br_t rfl (br_f (by decide) (br_f (by decide) (br_f (by decide) (br_f (by decide) (br_f (by decide) (br_f (by decide) (br_f (by decide) (br_f (by decide) (br_f (by decide) (br_f (by decide) (br_t rfl hp)))))))))))
  · exact br_t rfl (br_f (by decide) (br_f (by decide) (br_f (by decide) (br_f (by decide) (br_f (by decide) (br_f (by decide) (br_f (by decide) (br_f (by decide) (br_f (by decide) (br_f (by decide) (br_f (by decide) (br_t rfl hp))))))))))))
theorem yb_calc {post : SY → Prop} {k t a t' a' : Nat} (h1 : 56 ≤ k) (h2 : k ≤ 59) (ht : t < 9) (ha : a < 4294967296) (ht' : t' < 9) (ha' : a' < 4294967296) (hp : t = 0 → t' = 0 → wY_applyBuiltIn_178 post (nI k) (zv_c t a) (zv_c t' a') y_size y_pairs y_open y_formCount y_places y_procedures y_continuationCount y_things y_foundCount y_argumentCount y_value y_form y_wherein y_next y_working y_ending y_counts y_made y_entered y_printCount y_itemCount y_text y_firsts y_rests y_heads y_lasts y_globals y_placeNames y_placeValues y_placeNexts y_procedureForms y_procedurePlaces y_continuations y_whats y_withs y_whereins y_soFars y_afters y_found y_foundNexts y_arguments y_prints y_itemKinds y_itemNumbers y_pile) (hq : ¬ (t = 0 ∧ t' = 0) → post (y_size, y_pairs, y_open, y_formCount, y_places, y_procedures, y_continuationCount, y_things, y_foundCount, y_argumentCount, y_value, y_form, y_wherein, y_next, y_working, 7, y_counts, y_made, y_entered, y_printCount, y_itemCount, y_text, y_firsts, y_rests, y_heads, y_lasts, y_globals, y_placeNames, y_placeValues, y_placeNexts, y_procedureForms, y_procedurePlaces, y_continuations, y_whats, y_withs, y_whereins, y_soFars, y_afters, y_found, y_foundNexts, y_arguments, y_prints, y_itemKinds, y_itemNumbers, y_pile)) : wpY_applyBuiltIn post (y_size, y_pairs, y_open, y_formCount, y_places, y_procedures, y_continuationCount, y_things, y_foundCount, y_argumentCount, y_value, y_form, y_wherein, y_next, y_working, y_ending, y_counts, y_made, y_entered, y_printCount, y_itemCount, y_text, y_firsts, y_rests, y_heads, y_lasts, y_globals, y_placeNames, y_placeValues, y_placeNexts, y_procedureForms, y_procedurePlaces, y_continuations, y_whats, y_withs, y_whereins, y_soFars, y_afters, y_found, y_foundNexts, y_arguments, y_prints, y_itemKinds, y_itemNumbers, y_pile) (nI k) (zv_c t a) (zv_c t' a') := by
  have hn : ∀ j, j < 56 ∨ 59 < j → j < 100 → ¬ nI k = nI j := fun j h h3 => ne_I (by omega) (by omega) (by omega)
  refine br_f (hn 50 (by omega) (by omega)) (br_f (hn 53 (by omega) (by omega)) (br_f (hn 54 (by omega) (by omega)) (br_f (hn 55 (by omega) (by omega)) (br_f (hn 51 (by omega) (by omega)) (br_f (hn 52 (by omega) (by omega)) (br_f (hn 60 (by omega) (by omega)) (br_f (hn 61 (by omega) (by omega)) (ys_tag (by omega) ha ?_))))))))
  by_cases z : t = 0
  · refine br_t (by rw [z]; rfl) (br_f (hn 62 (by omega) (by omega)) (ys_tag (by omega) ha' ?_))
    by_cases z' : t' = 0
    · exact br_t (by rw [z']; rfl) (hp z z')
    · exact br_f (ne_I (b := 0) z' (by omega) (by decide)) (hq (fun w => z' w.2))
  · exact br_f (ne_I (b := 0) z (by omega) (by decide)) (hq (fun w => z w.1))
theorem bi_calc {k : Nat} (h : sm_R T n M G px py pl np nc nf fo co cn et pc (x_textLength, x_pairCount, x_placeCount, x_procedureCount, x_continuationCount, x_frameCount, x_state, -1, x_form, x_environment, x_frame, x_value, x_applied, x_argumentCount, x_countedCount, x_consCount, x_entryCount, x_outputCount, x_itemCount, x_text, x_firsts, x_rests, x_placeNames, x_placeValues, x_placeOuters, x_procedureParts, x_procedurePlaces, x_continuationFrames, x_frameTasks, x_frameForms, x_frameValues, x_framePlaces, x_frameNexts, x_arguments, x_outputs, x_itemKinds, x_itemNumbers, x_openLists) (y_size, y_pairs, y_open, y_formCount, y_places, y_procedures, y_continuationCount, y_things, y_foundCount, y_argumentCount, y_value, y_form, y_wherein, y_next, y_working, -1000000003, y_counts, y_made, y_entered, y_printCount, y_itemCount, y_text, y_firsts, y_rests, y_heads, y_lasts, y_globals, y_placeNames, y_placeValues, y_placeNexts, y_procedureForms, y_procedurePlaces, y_continuations, y_whats, y_withs, y_whereins, y_soFars, y_afters, y_found, y_foundNexts, y_arguments, y_prints, y_itemKinds, y_itemNumbers, y_pile)) (hb : fo ≤ co ∧ nf ≤ co) (hf : x_frame = y_next) (hf2 : fm_N nf y_next) (k1 : 56 ≤ k) (k2 : k ≤ 59) (h0 : zv_V M np nc (y_arguments 0) (x_arguments 0)) (h1 : zv_V M np nc (y_arguments 1) (x_arguments 1)) :
    ∃ u' v', (∀ post : SX → Prop, post u' → wX_applyBuiltIn_43 post (nI k) 2 2 x_textLength x_pairCount x_placeCount x_procedureCount x_continuationCount x_frameCount x_state (-1) x_form x_environment x_frame x_value x_applied x_argumentCount x_countedCount x_consCount x_entryCount x_outputCount x_itemCount x_text x_firsts x_rests x_placeNames x_placeValues x_placeOuters x_procedureParts x_procedurePlaces x_continuationFrames x_frameTasks x_frameForms x_frameValues x_framePlaces x_frameNexts x_arguments x_outputs x_itemKinds x_itemNumbers x_openLists) ∧ (∀ post : SY → Prop, post v' → wpY_applyBuiltIn post (y_size, y_pairs, y_open, y_formCount, y_places, y_procedures, y_continuationCount, y_things, y_foundCount, y_argumentCount, y_value, y_form, y_wherein, y_next, y_working, -1000000003, y_counts, y_made, y_entered, y_printCount, y_itemCount, y_text, y_firsts, y_rests, y_heads, y_lasts, y_globals, y_placeNames, y_placeValues, y_placeNexts, y_procedureForms, y_procedurePlaces, y_continuations, y_whats, y_withs, y_whereins, y_soFars, y_afters, y_found, y_foundNexts, y_arguments, y_prints, y_itemKinds, y_itemNumbers, y_pile) (nI k) (y_arguments 0) (y_arguments 1)) ∧ sm_to T n co u' v' := by
  have hE := sm_E_R (e := 7) h (by decide) (by decide)
  rcases zv_Vn h0 with ⟨a, a1, ey, ex⟩ | ⟨t, a, s, l, t1, s1, t2, s2, a1, l1, ey, ex⟩
  · have hx0 : x_arguments 0 >>> ((32 : Int32).toInt64 &&& 63) = 0 := by rw [ex]; exact (zk_s0 (by decide) a1).mpr rfl
    have hi0 : (x_arguments 0).toInt32 = nI a := by rw [ex, zv_lo]
    rcases zv_Vn h1 with ⟨b, b1, fy, fx⟩ | ⟨t, b, s, l, t1, s1, t2, s2, b1, l1, fy, fx⟩
    · have hx1 : x_arguments 1 >>> ((32 : Int32).toInt64 &&& 63) = 0 := by rw [fx]; exact (zk_s0 (by decide) b1).mpr rfl
      have hi1 : (x_arguments 1).toInt32 = nI b := by rw [fx, zv_lo]
      have hk : k = 56 ∨ k = 57 ∨ k = 58 ∨ k = 59 := by omega
      rcases hk with rfl | rfl | rfl | rfl
      · obtain ⟨r, r1, r2⟩ := wb_of32 (nI a + nI b)
        have ht := sm_toV h hb rfl rfl (zv_Vnum (k := r) (by omega)) hf hf2
        refine ⟨_, _, fun post hp => xb_calc (by decide) (by decide) (br_t hx0 (br_t hx1 (nm_r hi0 (nm_r hi1 (br_f (by decide) (br_f (by decide) (br_t rfl (xs_giveNumber (by omega) r2 hp)))))))), fun post hp => ?_, ht⟩
        rw [ey, fy]
        refine yb_calc (by decide) (by decide) (by decide) a1 (by decide) b1 (fun _ _ => ?_) (fun w => absurd ⟨rfl, rfl⟩ w)
        refine br_f (by decide) (br_f (by decide) (br_t rfl ?_))
        rw [zv_lo, zv_lo, r2]
        exact ys_thing (t := 0) (k := r) rfl rfl (by decide) (by omega) hp
      · obtain ⟨r, r1, r2⟩ := wb_of32 (nI a - nI b)
        have ht := sm_toV h hb rfl rfl (zv_Vnum (k := r) (by omega)) hf hf2
        refine ⟨_, _, fun post hp => xb_calc (by decide) (by decide) (br_t hx0 (br_t hx1 (nm_r hi0 (nm_r hi1 (br_f (by decide) (br_f (by decide) (br_f (by decide) (br_t rfl (xs_giveNumber (by omega) r2 hp))))))))), fun post hp => ?_, ht⟩
        rw [ey, fy]
        refine yb_calc (by decide) (by decide) (by decide) a1 (by decide) b1 (fun _ _ => ?_) (fun w => absurd ⟨rfl, rfl⟩ w)
        refine br_f (by decide) (br_f (by decide) (br_f (by decide) (br_t rfl ?_)))
        rw [zv_lo, zv_lo, r2]
        exact ys_thing (t := 0) (k := r) rfl rfl (by decide) (by omega) hp
      · obtain ⟨r, r1, r2⟩ := wb_of32 (nI a * nI b)
        have ht := sm_toV h hb rfl rfl (zv_Vnum (k := r) (by omega)) hf hf2
        refine ⟨_, _, fun post hp => xb_calc (by decide) (by decide) (br_t hx0 (br_t hx1 (nm_r hi0 (nm_r hi1 (br_f (by decide) (br_f (by decide) (br_f (by decide) (br_f (by decide) (br_t rfl (xs_giveNumber (by omega) r2 hp)))))))))), fun post hp => ?_, ht⟩
        rw [ey, fy]
        refine yb_calc (by decide) (by decide) (by decide) a1 (by decide) b1 (fun _ _ => ?_) (fun w => absurd ⟨rfl, rfl⟩ w)
        refine br_f (by decide) (br_f (by decide) (br_f (by decide) (br_f (by decide) ?_)))
        rw [zv_lo, zv_lo, r2]
        exact ys_thing (t := 0) (k := r) rfl rfl (by decide) (by omega) hp
      · by_cases c : nI b ≤ nI a
        · have ht := sm_toV h hb rfl rfl (zv_Vtruth (b := 0) (by decide)) hf hf2
          refine ⟨_, _, fun post hp => xb_calc (by decide) (by decide) (br_t hx0 (br_t hx1 (nm_r hi0 (nm_r hi1 (br_f (by decide) (br_t (by decide) (br_t c (xs_truth (b := 0) (by decide) hp)))))))), fun post hp => ?_, ht⟩
          rw [ey, fy]
          refine yb_calc (by decide) (by decide) (by decide) a1 (by decide) b1 (fun _ _ => ?_) (fun w => absurd ⟨rfl, rfl⟩ w)
          exact br_f (by decide) (br_t rfl (br_t (by rw [zv_lo, zv_lo]; exact c) (ys_truth (b := 0) (by decide) hp)))
        · have ht := sm_toV h hb rfl rfl (zv_Vtruth (b := 1) (by decide)) hf hf2
          refine ⟨_, _, fun post hp => xb_calc (by decide) (by decide) (br_t hx0 (br_t hx1 (nm_r hi0 (nm_r hi1 (br_f (by decide) (br_t (by decide) (br_f c (xs_truth (b := 1) (by decide) hp)))))))), fun post hp => ?_, ht⟩
          rw [ey, fy]
          refine yb_calc (by decide) (by decide) (by decide) a1 (by decide) b1 (fun _ _ => ?_) (fun w => absurd ⟨rfl, rfl⟩ w)
          exact br_f (by decide) (br_t rfl (br_f (by rw [zv_lo, zv_lo]; exact c) (ys_truth (b := 1) (by decide) hp)))
    · refine ⟨_, _, fun post hp => xb_calc k1 k2 (br_t hx0 (br_f (by rw [fx]; exact fun y => s2 ((zk_s0 s1 l1).mp y)) hp)), fun post hp => ?_, Or.inl hE⟩
      rw [ey, fy]
      exact yb_calc k1 k2 (by decide) a1 t1 b1 (fun _ w => absurd w t2) (fun _ => hp)
  · obtain ⟨t', b, s', l', b1, _, fy, _, vK⟩ := h1
    have vb := zv_K_b vK
    refine ⟨_, _, fun post hp => xb_calc k1 k2 (br_f (by rw [ex]; exact fun y => s2 ((zk_s0 s1 l1).mp y)) hp), fun post hp => ?_, Or.inl hE⟩
    rw [ey, fy]
    exact yb_calc k1 k2 t1 a1 vb.1 b1 (fun w => absurd w t2) (fun _ => hp)
theorem bi_print (h : sm_R T n M G px py pl np nc nf fo co cn et pc (x_textLength, x_pairCount, x_placeCount, x_procedureCount, x_continuationCount, x_frameCount, x_state, -1, x_form, x_environment, x_frame, x_value, x_applied, x_argumentCount, x_countedCount, x_consCount, x_entryCount, x_outputCount, x_itemCount, x_text, x_firsts, x_rests, x_placeNames, x_placeValues, x_placeOuters, x_procedureParts, x_procedurePlaces, x_continuationFrames, x_frameTasks, x_frameForms, x_frameValues, x_framePlaces, x_frameNexts, x_arguments, x_outputs, x_itemKinds, x_itemNumbers, x_openLists) (y_size, y_pairs, y_open, y_formCount, y_places, y_procedures, y_continuationCount, y_things, y_foundCount, y_argumentCount, y_value, y_form, y_wherein, y_next, y_working, -1000000003, y_counts, y_made, y_entered, y_printCount, y_itemCount, y_text, y_firsts, y_rests, y_heads, y_lasts, y_globals, y_placeNames, y_placeValues, y_placeNexts, y_procedureForms, y_procedurePlaces, y_continuations, y_whats, y_withs, y_whereins, y_soFars, y_afters, y_found, y_foundNexts, y_arguments, y_prints, y_itemKinds, y_itemNumbers, y_pile)) (hb : fo ≤ co ∧ nf ≤ co) (hf : x_frame = y_next) (hf2 : fm_N nf y_next) (h0 : zv_V M np nc (y_arguments 0) (x_arguments 0)) :
    ∃ u' v', (∀ post : SX → Prop, post u' → wX_applyBuiltIn_43 post (nI 62) 1 1 x_textLength x_pairCount x_placeCount x_procedureCount x_continuationCount x_frameCount x_state (-1) x_form x_environment x_frame x_value x_applied x_argumentCount x_countedCount x_consCount x_entryCount x_outputCount x_itemCount x_text x_firsts x_rests x_placeNames x_placeValues x_placeOuters x_procedureParts x_procedurePlaces x_continuationFrames x_frameTasks x_frameForms x_frameValues x_framePlaces x_frameNexts x_arguments x_outputs x_itemKinds x_itemNumbers x_openLists) ∧ (∀ post : SY → Prop, post v' → wpY_applyBuiltIn post (y_size, y_pairs, y_open, y_formCount, y_places, y_procedures, y_continuationCount, y_things, y_foundCount, y_argumentCount, y_value, y_form, y_wherein, y_next, y_working, -1000000003, y_counts, y_made, y_entered, y_printCount, y_itemCount, y_text, y_firsts, y_rests, y_heads, y_lasts, y_globals, y_placeNames, y_placeValues, y_placeNexts, y_procedureForms, y_procedurePlaces, y_continuations, y_whats, y_withs, y_whereins, y_soFars, y_afters, y_found, y_foundNexts, y_arguments, y_prints, y_itemKinds, y_itemNumbers, y_pile) (nI 62) (y_arguments 0) (y_arguments 1)) ∧ sm_to T n co u' v' := by
  have hX : ∀ post : SX → Prop, wpX_printNumber (fun u => match u with | (x_textLength, x_pairCount, x_placeCount, x_procedureCount, x_continuationCount, x_frameCount, x_state, x_ending, x_form, x_environment, x_frame, x_value, x_applied, x_argumentCount, x_countedCount, x_consCount, x_entryCount, x_outputCount, x_itemCount, x_text, x_firsts, x_rests, x_placeNames, x_placeValues, x_placeOuters, x_procedureParts, x_procedurePlaces, x_continuationFrames, x_frameTasks, x_frameForms, x_frameValues, x_framePlaces, x_frameNexts, x_arguments, x_outputs, x_itemKinds, x_itemNumbers, x_openLists) => post (x_textLength, x_pairCount, x_placeCount, x_procedureCount, x_continuationCount, x_frameCount, x_state, x_ending, x_form, x_environment, x_frame, x_value, x_applied, x_argumentCount, x_countedCount, x_consCount, x_entryCount, x_outputCount, x_itemCount, x_text, x_firsts, x_rests, x_placeNames, x_placeValues, x_placeOuters, x_procedureParts, x_procedurePlaces, x_continuationFrames, x_frameTasks, x_frameForms, x_frameValues, x_framePlaces, x_frameNexts, x_arguments, x_outputs, x_itemKinds, x_itemNumbers, x_openLists)) (x_textLength, x_pairCount, x_placeCount, x_procedureCount, x_continuationCount, x_frameCount, x_state, -1, x_form, x_environment, x_frame, x_value, x_applied, x_argumentCount, x_countedCount, x_consCount, x_entryCount, x_outputCount, x_itemCount, x_text, x_firsts, x_rests, x_placeNames, x_placeValues, x_placeOuters, x_procedureParts, x_procedurePlaces, x_continuationFrames, x_frameTasks, x_frameForms, x_frameValues, x_framePlaces, x_frameNexts, x_arguments, x_outputs, x_itemKinds, x_itemNumbers, x_openLists) → wX_applyBuiltIn_43 post (nI 62) 1 1 x_textLength x_pairCount x_placeCount x_procedureCount x_continuationCount x_frameCount x_state (-1) x_form x_environment x_frame x_value x_applied x_argumentCount x_countedCount x_consCount x_entryCount x_outputCount x_itemCount x_text x_firsts x_rests x_placeNames x_placeValues x_placeOuters x_procedureParts x_procedurePlaces x_continuationFrames x_frameTasks x_frameForms x_frameValues x_framePlaces x_frameNexts x_arguments x_outputs x_itemKinds x_itemNumbers x_openLists := fun post hp =>
    br_t rfl (br_f (by decide) (br_f (by decide) (br_f (by decide) (br_f (by decide) (br_f (by decide) (br_f (by decide) (br_f (by decide) (br_f (by decide) (br_f (by decide) (br_f (by decide) (br_f (by decide) (br_f (by decide) (br_f (by decide) (br_f (by decide) (br_t rfl hp)))))))))))))))
  have hY : ∀ (post : SY → Prop) (t a : Nat), t < 9 → a < 4294967296 → y_arguments 0 = zv_c t a → (t = 0 → wY_applyBuiltIn_178 post (nI 62) (zv_c t a) (y_arguments 1) y_size y_pairs y_open y_formCount y_places y_procedures y_continuationCount y_things y_foundCount y_argumentCount y_value y_form y_wherein y_next y_working (-1000000003) y_counts y_made y_entered y_printCount y_itemCount y_text y_firsts y_rests y_heads y_lasts y_globals y_placeNames y_placeValues y_placeNexts y_procedureForms y_procedurePlaces y_continuations y_whats y_withs y_whereins y_soFars y_afters y_found y_foundNexts y_arguments y_prints y_itemKinds y_itemNumbers y_pile) → (t ≠ 0 → post (y_size, y_pairs, y_open, y_formCount, y_places, y_procedures, y_continuationCount, y_things, y_foundCount, y_argumentCount, y_value, y_form, y_wherein, y_next, y_working, 7, y_counts, y_made, y_entered, y_printCount, y_itemCount, y_text, y_firsts, y_rests, y_heads, y_lasts, y_globals, y_placeNames, y_placeValues, y_placeNexts, y_procedureForms, y_procedurePlaces, y_continuations, y_whats, y_withs, y_whereins, y_soFars, y_afters, y_found, y_foundNexts, y_arguments, y_prints, y_itemKinds, y_itemNumbers, y_pile)) → wpY_applyBuiltIn post (y_size, y_pairs, y_open, y_formCount, y_places, y_procedures, y_continuationCount, y_things, y_foundCount, y_argumentCount, y_value, y_form, y_wherein, y_next, y_working, -1000000003, y_counts, y_made, y_entered, y_printCount, y_itemCount, y_text, y_firsts, y_rests, y_heads, y_lasts, y_globals, y_placeNames, y_placeValues, y_placeNexts, y_procedureForms, y_procedurePlaces, y_continuations, y_whats, y_withs, y_whereins, y_soFars, y_afters, y_found, y_foundNexts, y_arguments, y_prints, y_itemKinds, y_itemNumbers, y_pile) (nI 62) (y_arguments 0) (y_arguments 1) := by
    intro post t a t1 a1 e p q
    rw [e]
    refine br_f (by decide) (br_f (by decide) (br_f (by decide) (br_f (by decide) (br_f (by decide) (br_f (by decide) (br_f (by decide) (br_f (by decide) (ys_tag (by omega) a1 ?_))))))))
    by_cases z : t = 0
    · exact br_t (by rw [z]; rfl) (br_t rfl (p z))
    · exact br_f (ne_I (b := 0) z (by omega) (by decide)) (q z)
  have h' := h
  obtain ⟨a0, ⟨n1, n2, n3, n4, n5, n6, n7, n8, n9, n10, n11⟩, ⟨m1, m2, m3, m4, m5, m6, m7, m8, m9, m10, m11⟩, b0, _⟩ := h
  subst n10 m11
  rcases zv_Vn h0 with ⟨a, a1, ey, ex⟩ | ⟨t, a, s, l, t1, s1, t2, s2, a1, l1, ey, ex⟩
  · have hx0 : x_arguments 0 >>> ((32 : Int32).toInt64 &&& 63) = 0 := by rw [ex]; exact (zk_s0 (by decide) a1).mpr rfl
    have hi0 : (x_arguments 0).toInt32 = nI a := by rw [ex, zv_lo]
    by_cases hc : pc < 20
    · have hk := rk_print (x := nI a) h' hc
      have ht := sm_toV hk hb rfl rfl h0 hf hf2
      have e : (nI pc).toNatClampNeg = pc := nI_clamp (by omega)
      refine ⟨_, _, fun post hp => hX post (br_t hx0 (br_t (nI_lt (b := 20) hc (by decide)) ⟨vp_in_nI hc (by decide), ?_⟩)), fun post hp => hY post 0 a (by decide) a1 ey (fun _ => ?_) (fun w => absurd rfl w), ht⟩
      · rw [hi0]
        exact nm_r (cl_I e) (nm_r (nI_1 pc) hp)
      · refine br_t rfl ?_
        rw [zv_lo]
        rw [ey] at hp
        exact br_f (ne_I (b := 20) (by omega) (by omega) (by decide)) ⟨vp_in_nI hc (by decide), nm_r (cl_I e) (nm_r (nI_1 pc) hp)⟩
    · have : pc = 20 := by omega
      subst this
      have hE := sm_Eg (e := 8) (q1 := x_state) (q3 := x_form) (q4 := x_environment) (q5 := x_frame) (q6 := x_value) (q7 := x_applied) (q8 := x_argumentCount) (q9 := x_arguments) (r3 := y_argumentCount) (r4 := zv_c 0 a) (r5 := y_form) (r6 := y_wherein) (r7 := y_next) (r8 := 0) (r13 := y_arguments) (r17 := y_globals) h' (by decide) (by decide)
      refine ⟨_, _, fun post hp => hX post (br_t hx0 (br_f (by decide) hp)), fun post hp => hY post 0 a (by decide) a1 ey (fun _ => br_t rfl (br_t rfl hp)) (fun w => absurd rfl w), Or.inl hE⟩
  · have hE := sm_E_R (e := 7) h' (by decide) (by decide)
    exact ⟨_, _, fun post hp => hX post (br_f (by rw [ex]; exact fun y => s2 ((zk_s0 s1 l1).mp y)) hp), fun post hp => hY post t a t1 a1 ey (fun w => absurd w t2) (fun _ => hp), Or.inl hE⟩
end
