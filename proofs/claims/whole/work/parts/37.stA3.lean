/-! something is applied -/
section
variable {x_textLength : Int32} {x_pairCount : Int32} {x_placeCount : Int32} {x_procedureCount : Int32} {x_continuationCount : Int32} {x_frameCount : Int32} {x_state : Int32} {x_ending : Int32} {x_form : Int64} {x_environment : Int32} {x_frame : Int32} {x_value : Int64} {x_applied : Int64} {x_argumentCount : Int32} {x_countedCount : Int32} {x_consCount : Int32} {x_entryCount : Int32} {x_outputCount : Int32} {x_itemCount : Int32} {x_text : Nat → Int32} {x_firsts : Nat → Int64} {x_rests : Nat → Int64} {x_placeNames : Nat → Int32} {x_placeValues : Nat → Int64} {x_placeOuters : Nat → Int32} {x_procedureParts : Nat → Int64} {x_procedurePlaces : Nat → Int32} {x_continuationFrames : Nat → Int32} {x_frameTasks : Nat → Int32} {x_frameForms : Nat → Int64} {x_frameValues : Nat → Int64} {x_framePlaces : Nat → Int32} {x_frameNexts : Nat → Int32} {x_arguments : Nat → Int64} {x_outputs : Nat → Int32} {x_itemKinds : Nat → Int32} {x_itemNumbers : Nat → Int32} {x_openLists : Nat → Int64}
variable {y_size : Int32} {y_pairs : Int32} {y_open : Int32} {y_formCount : Int32} {y_places : Int32} {y_procedures : Int32} {y_continuationCount : Int32} {y_things : Int32} {y_foundCount : Int32} {y_argumentCount : Int32} {y_value : Int64} {y_form : Int64} {y_wherein : Int32} {y_next : Int32} {y_working : Int32} {y_ending : Int32} {y_counts : Int32} {y_made : Int32} {y_entered : Int32} {y_printCount : Int32} {y_itemCount : Int32} {y_text : Nat → Int32} {y_firsts : Nat → Int64} {y_rests : Nat → Int64} {y_heads : Nat → Int32} {y_lasts : Nat → Int32} {y_globals : Nat → Int64} {y_placeNames : Nat → Int32} {y_placeValues : Nat → Int64} {y_placeNexts : Nat → Int32} {y_procedureForms : Nat → Int64} {y_procedurePlaces : Nat → Int32} {y_continuations : Nat → Int32} {y_whats : Nat → Int32} {y_withs : Nat → Int64} {y_whereins : Nat → Int32} {y_soFars : Nat → Int32} {y_afters : Nat → Int32} {y_found : Nat → Int64} {y_foundNexts : Nat → Int32} {y_arguments : Nat → Int64} {y_prints : Nat → Int32} {y_itemKinds : Nat → Int32} {y_itemNumbers : Nat → Int32} {y_pile : Nat → Int64}
variable {T : Nat → Nat} {n px py pl np nc nf fo co cn et pc : Nat} {M : Nat → Nat → Prop} {G : Nat → Nat}
theorem xa_5 {u' : SX} {k : Nat} (hc : co < 600) (hk : k < 4294967296) (hw : ∀ post : SX → Prop, post u' → wpX_enterProcedure post (x_textLength, x_pairCount, x_placeCount, x_procedureCount, x_continuationCount, x_frameCount, x_state, x_ending, x_form, x_environment, x_frame, x_value, zv_c 5 k, x_argumentCount, nI (co + 1), x_consCount, x_entryCount, x_outputCount, x_itemCount, x_text, x_firsts, x_rests, x_placeNames, x_placeValues, x_placeOuters, x_procedureParts, x_procedurePlaces, x_continuationFrames, x_frameTasks, x_frameForms, x_frameValues, x_framePlaces, x_frameNexts, x_arguments, x_outputs, x_itemKinds, x_itemNumbers, x_openLists) (nI k)) : ∀ post : SX → Prop, post u' → wpX_applyNow post (x_textLength, x_pairCount, x_placeCount, x_procedureCount, x_continuationCount, x_frameCount, x_state, x_ending, x_form, x_environment, x_frame, x_value, zv_c 5 k, x_argumentCount, nI co, x_consCount, x_entryCount, x_outputCount, x_itemCount, x_text, x_firsts, x_rests, x_placeNames, x_placeValues, x_placeOuters, x_procedureParts, x_procedurePlaces, x_continuationFrames, x_frameTasks, x_frameForms, x_frameValues, x_framePlaces, x_frameNexts, x_arguments, x_outputs, x_itemKinds, x_itemNumbers, x_openLists) := by
  intro post hp
  unfold wpX_applyNow
  refine xs_countOne hc (br_f (by decide) (xs_tagOf (by decide) hk (br_f (by decide) (br_f (by decide) (br_t rfl ?_)))))
  rw [zv_lo]
  refine hw _ ?_
  obtain ⟨x_textLength, x_pairCount, x_placeCount, x_procedureCount, x_continuationCount, x_frameCount, x_state, x_ending, x_form, x_environment, x_frame, x_value, x_applied, x_argumentCount, x_countedCount, x_consCount, x_entryCount, x_outputCount, x_itemCount, x_text, x_firsts, x_rests, x_placeNames, x_placeValues, x_placeOuters, x_procedureParts, x_procedurePlaces, x_continuationFrames, x_frameTasks, x_frameForms, x_frameValues, x_framePlaces, x_frameNexts, x_arguments, x_outputs, x_itemKinds, x_itemNumbers, x_openLists⟩ := u'
  exact hp
theorem xa_6 {u' : SX} {k : Nat} (hc : co < 600) (hk : k < 4294967296) (hw : ∀ post : SX → Prop, post u' → wpX_applyBuiltIn post (x_textLength, x_pairCount, x_placeCount, x_procedureCount, x_continuationCount, x_frameCount, x_state, x_ending, x_form, x_environment, x_frame, x_value, zv_c 6 k, x_argumentCount, nI (co + 1), x_consCount, x_entryCount, x_outputCount, x_itemCount, x_text, x_firsts, x_rests, x_placeNames, x_placeValues, x_placeOuters, x_procedureParts, x_procedurePlaces, x_continuationFrames, x_frameTasks, x_frameForms, x_frameValues, x_framePlaces, x_frameNexts, x_arguments, x_outputs, x_itemKinds, x_itemNumbers, x_openLists) (nI k)) : ∀ post : SX → Prop, post u' → wpX_applyNow post (x_textLength, x_pairCount, x_placeCount, x_procedureCount, x_continuationCount, x_frameCount, x_state, x_ending, x_form, x_environment, x_frame, x_value, zv_c 6 k, x_argumentCount, nI co, x_consCount, x_entryCount, x_outputCount, x_itemCount, x_text, x_firsts, x_rests, x_placeNames, x_placeValues, x_placeOuters, x_procedureParts, x_procedurePlaces, x_continuationFrames, x_frameTasks, x_frameForms, x_frameValues, x_framePlaces, x_frameNexts, x_arguments, x_outputs, x_itemKinds, x_itemNumbers, x_openLists) := by
  intro post hp
  unfold wpX_applyNow
  refine xs_countOne hc (br_f (by decide) (xs_tagOf (by decide) hk (br_f (by decide) (br_f (by decide) (br_f (by decide) (br_t rfl ?_))))))
  rw [zv_lo]
  refine hw _ ?_
  obtain ⟨x_textLength, x_pairCount, x_placeCount, x_procedureCount, x_continuationCount, x_frameCount, x_state, x_ending, x_form, x_environment, x_frame, x_value, x_applied, x_argumentCount, x_countedCount, x_consCount, x_entryCount, x_outputCount, x_itemCount, x_text, x_firsts, x_rests, x_placeNames, x_placeValues, x_placeOuters, x_procedureParts, x_procedurePlaces, x_continuationFrames, x_frameTasks, x_frameForms, x_frameValues, x_framePlaces, x_frameNexts, x_arguments, x_outputs, x_itemKinds, x_itemNumbers, x_openLists⟩ := u'
  exact hp
theorem xa_7 {u' : SX} {k : Nat} (hc : co < 600) (hk : k < 4294967296) (hw : ∀ post : SX → Prop, post u' → wpX_enterContinuation post (x_textLength, x_pairCount, x_placeCount, x_procedureCount, x_continuationCount, x_frameCount, x_state, x_ending, x_form, x_environment, x_frame, x_value, zv_c 7 k, x_argumentCount, nI (co + 1), x_consCount, x_entryCount, x_outputCount, x_itemCount, x_text, x_firsts, x_rests, x_placeNames, x_placeValues, x_placeOuters, x_procedureParts, x_procedurePlaces, x_continuationFrames, x_frameTasks, x_frameForms, x_frameValues, x_framePlaces, x_frameNexts, x_arguments, x_outputs, x_itemKinds, x_itemNumbers, x_openLists) (nI k)) : ∀ post : SX → Prop, post u' → wpX_applyNow post (x_textLength, x_pairCount, x_placeCount, x_procedureCount, x_continuationCount, x_frameCount, x_state, x_ending, x_form, x_environment, x_frame, x_value, zv_c 7 k, x_argumentCount, nI co, x_consCount, x_entryCount, x_outputCount, x_itemCount, x_text, x_firsts, x_rests, x_placeNames, x_placeValues, x_placeOuters, x_procedureParts, x_procedurePlaces, x_continuationFrames, x_frameTasks, x_frameForms, x_frameValues, x_framePlaces, x_frameNexts, x_arguments, x_outputs, x_itemKinds, x_itemNumbers, x_openLists) := by
  intro post hp
  unfold wpX_applyNow
  refine xs_countOne hc (br_f (by decide) (xs_tagOf (by decide) hk (br_f (by decide) (br_f (by decide) (br_f (by decide) (br_f (by decide) (br_t rfl ?_)))))))
  rw [zv_lo]
  refine hw _ ?_
  obtain ⟨x_textLength, x_pairCount, x_placeCount, x_procedureCount, x_continuationCount, x_frameCount, x_state, x_ending, x_form, x_environment, x_frame, x_value, x_applied, x_argumentCount, x_countedCount, x_consCount, x_entryCount, x_outputCount, x_itemCount, x_text, x_firsts, x_rests, x_placeNames, x_placeValues, x_placeOuters, x_procedureParts, x_procedurePlaces, x_continuationFrames, x_frameTasks, x_frameForms, x_frameValues, x_framePlaces, x_frameNexts, x_arguments, x_outputs, x_itemKinds, x_itemNumbers, x_openLists⟩ := u'
  exact hp
theorem st_A {g : Int64} (h : sm_A T n co g (x_textLength, x_pairCount, x_placeCount, x_procedureCount, x_continuationCount, x_frameCount, x_state, x_ending, x_form, x_environment, x_frame, x_value, x_applied, x_argumentCount, x_countedCount, x_consCount, x_entryCount, x_outputCount, x_itemCount, x_text, x_firsts, x_rests, x_placeNames, x_placeValues, x_placeOuters, x_procedureParts, x_procedurePlaces, x_continuationFrames, x_frameTasks, x_frameForms, x_frameValues, x_framePlaces, x_frameNexts, x_arguments, x_outputs, x_itemKinds, x_itemNumbers, x_openLists) (y_size, y_pairs, y_open, y_formCount, y_places, y_procedures, y_continuationCount, y_things, y_foundCount, y_argumentCount, y_value, y_form, y_wherein, y_next, y_working, y_ending, y_counts, y_made, y_entered, y_printCount, y_itemCount, y_text, y_firsts, y_rests, y_heads, y_lasts, y_globals, y_placeNames, y_placeValues, y_placeNexts, y_procedureForms, y_procedurePlaces, y_continuations, y_whats, y_withs, y_whereins, y_soFars, y_afters, y_found, y_foundNexts, y_arguments, y_prints, y_itemKinds, y_itemNumbers, y_pile)) :
    (∃ u' v', (∀ post : SX → Prop, post u' → wpX_applyNow post (x_textLength, x_pairCount, x_placeCount, x_procedureCount, x_continuationCount, x_frameCount, x_state, x_ending, x_form, x_environment, x_frame, x_value, x_applied, x_argumentCount, x_countedCount, x_consCount, x_entryCount, x_outputCount, x_itemCount, x_text, x_firsts, x_rests, x_placeNames, x_placeValues, x_placeOuters, x_procedureParts, x_procedurePlaces, x_continuationFrames, x_frameTasks, x_frameForms, x_frameValues, x_framePlaces, x_frameNexts, x_arguments, x_outputs, x_itemKinds, x_itemNumbers, x_openLists)) ∧ (∀ (post : SY → Prop) (F : Nat), post v' → yA_loop post (F + 2) g (y_size, y_pairs, y_open, y_formCount, y_places, y_procedures, y_continuationCount, y_things, y_foundCount, y_argumentCount, y_value, y_form, y_wherein, y_next, y_working, y_ending, y_counts, y_made, y_entered, y_printCount, y_itemCount, y_text, y_firsts, y_rests, y_heads, y_lasts, y_globals, y_placeNames, y_placeValues, y_placeNexts, y_procedureForms, y_procedurePlaces, y_continuations, y_whats, y_withs, y_whereins, y_soFars, y_afters, y_found, y_foundNexts, y_arguments, y_prints, y_itemKinds, y_itemNumbers, y_pile)) ∧ (sm_E T n u' v' ∨ (co < 600 ∧ sm_to T n (co + 1) u' v'))) ∨
    (∃ u' v' g', (∀ post : SX → Prop, post u' → wpX_applyNow post (x_textLength, x_pairCount, x_placeCount, x_procedureCount, x_continuationCount, x_frameCount, x_state, x_ending, x_form, x_environment, x_frame, x_value, x_applied, x_argumentCount, x_countedCount, x_consCount, x_entryCount, x_outputCount, x_itemCount, x_text, x_firsts, x_rests, x_placeNames, x_placeValues, x_placeOuters, x_procedureParts, x_procedurePlaces, x_continuationFrames, x_frameTasks, x_frameForms, x_frameValues, x_framePlaces, x_frameNexts, x_arguments, x_outputs, x_itemKinds, x_itemNumbers, x_openLists)) ∧ (∀ (post : SY → Prop) (F : Nat), yA_loop post F g' v' → yA_loop post (F + 1) g (y_size, y_pairs, y_open, y_formCount, y_places, y_procedures, y_continuationCount, y_things, y_foundCount, y_argumentCount, y_value, y_form, y_wherein, y_next, y_working, y_ending, y_counts, y_made, y_entered, y_printCount, y_itemCount, y_text, y_firsts, y_rests, y_heads, y_lasts, y_globals, y_placeNames, y_placeValues, y_placeNexts, y_procedureForms, y_procedurePlaces, y_continuations, y_whats, y_withs, y_whereins, y_soFars, y_afters, y_found, y_foundNexts, y_arguments, y_prints, y_itemKinds, y_itemNumbers, y_pile)) ∧ co < 600 ∧ sm_A T n (co + 1) g' u' v') := by
  obtain ⟨M, G, px, py, pl, np, nc, nf, fo, cn, et, pc, ac, h, ⟨hb1, hb2, hac⟩, s1, s2, s3, s4, hV, s5, s6, harg, hf, hf2⟩ := h
  have hr := h
  obtain ⟨a0, ⟨n1, n2, n3, n4, n5, n6, n7, n8, n9, n10, n11⟩, ⟨m1, m2, m3, m4, m5, m6, m7, m8, m9, m10, m11⟩, b0, _⟩ := hr
  obtain ⟨t, a, s, l, v1, v2, v3, v4, vK⟩ := hV
  have vb := zv_K_b vK
  subst s1 s2 s3 s4 s5 s6 n7 m8 v3 v4
  by_cases hc6 : co = 600
  · subst hc6
    refine Or.inl ⟨(x_textLength, x_pairCount, x_placeCount, x_procedureCount, x_continuationCount, x_frameCount, 1, 2, x_form, x_environment, x_frame, x_value, zv_c s l, nI ac, nI 600, x_consCount, x_entryCount, x_outputCount, x_itemCount, x_text, x_firsts, x_rests, x_placeNames, x_placeValues, x_placeOuters, x_procedureParts, x_procedurePlaces, x_continuationFrames, x_frameTasks, x_frameForms, x_frameValues, x_framePlaces, x_frameNexts, x_arguments, x_outputs, x_itemKinds, x_itemNumbers, x_openLists), (y_size, y_pairs, y_open, y_formCount, y_places, y_procedures, y_continuationCount, y_things, y_foundCount, nI ac, y_value, y_form, y_wherein, y_next, 0, 2, nI 600, y_made, y_entered, y_printCount, y_itemCount, y_text, y_firsts, y_rests, y_heads, y_lasts, y_globals, y_placeNames, y_placeValues, y_placeNexts, y_procedureForms, y_procedurePlaces, y_continuations, y_whats, y_withs, y_whereins, y_soFars, y_afters, y_found, y_foundNexts, y_arguments, y_prints, y_itemKinds, y_itemNumbers, y_pile), fun post hp => ?_, fun post F hp => ya_tired (by omega) v1 post F hp, Or.inl (sm_E_R (e := 2) h (by decide) (by decide))⟩
    unfold wpX_applyNow
    exact xs_tired (br_t rfl hp)
  · have hlt : co < 600 := by omega
    have hk := rk_count h hlt
    have hbb : fo ≤ co + 1 ∧ nf ≤ co + 1 := by omega
    have none : (s < 5 ∨ s = 8) → t ≠ 5 → t ≠ 6 → t ≠ 7 → ∃ u' v', (∀ post : SX → Prop, post u' → wpX_applyNow post (x_textLength, x_pairCount, x_placeCount, x_procedureCount, x_continuationCount, x_frameCount, 1, -1, x_form, x_environment, x_frame, x_value, zv_c s l, nI ac, nI co, x_consCount, x_entryCount, x_outputCount, x_itemCount, x_text, x_firsts, x_rests, x_placeNames, x_placeValues, x_placeOuters, x_procedureParts, x_procedurePlaces, x_continuationFrames, x_frameTasks, x_frameForms, x_frameValues, x_framePlaces, x_frameNexts, x_arguments, x_outputs, x_itemKinds, x_itemNumbers, x_openLists)) ∧ (∀ (post : SY → Prop) (F : Nat), post v' → yA_loop post (F + 2) (zv_c t a) (y_size, y_pairs, y_open, y_formCount, y_places, y_procedures, y_continuationCount, y_things, y_foundCount, nI ac, y_value, y_form, y_wherein, y_next, 0, -1000000003, nI co, y_made, y_entered, y_printCount, y_itemCount, y_text, y_firsts, y_rests, y_heads, y_lasts, y_globals, y_placeNames, y_placeValues, y_placeNexts, y_procedureForms, y_procedurePlaces, y_continuations, y_whats, y_withs, y_whereins, y_soFars, y_afters, y_found, y_foundNexts, y_arguments, y_prints, y_itemKinds, y_itemNumbers, y_pile)) ∧ (sm_E T n u' v' ∨ (co < 600 ∧ sm_to T n (co + 1) u' v')) := by
      intro q1 q2 q3 q4
      have hE := sm_E_R (e := 5) hk (by decide) (by decide)
      refine ⟨_, _, fun post hp => ?_, ya_app hlt (by omega) v1 (fun z => q3 z.1) (fun z => absurd z q3) (fun q hq => ?_), Or.inl hE⟩
      · unfold wpX_applyNow
        refine xs_countOne hlt (br_f (by decide) (xs_tagOf (by omega) v2 ?_))
        rcases q1 with q1 | q1
        · exact br_t (nI_lt (b := 5) q1 (by decide)) hp
        · subst q1
          exact br_f (by decide) (br_t (by decide) hp)
      · unfold wpY_apply
        exact ys_tag (by omega) v1 (br_f (ne_I (b := 5) q2 (by omega) (by decide)) (ys_tag (by omega) v1 (br_f (ne_I (b := 6) q3 (by omega) (by decide)) (ys_tag (by omega) v1 (br_f (ne_I (b := 7) q4 (by omega) (by decide)) hq)))))
    rcases vK with w | w | w | w | w | ⟨rfl, rfl, rfl, w⟩ | ⟨rfl, rfl, rfl, w1, w2⟩ | ⟨rfl, rfl, rfl, w⟩ | w
    · exact Or.inl (none (by omega) (by omega) (by omega) (by omega))
    · exact Or.inl (none (by omega) (by omega) (by omega) (by omega))
    · exact Or.inl (none (by omega) (by omega) (by omega) (by omega))
    · exact Or.inl (none (by omega) (by omega) (by omega) (by omega))
    · exact Or.inl (none (by omega) (by omega) (by omega) (by omega))
    · obtain ⟨u', v', hX, hY, ht⟩ := ap_proc hk (by omega) (by omega) hac hf hf2 w harg
      exact Or.inl ⟨u', v', xa_5 hlt v1 hX, ya_app hlt (by decide) v1 (fun z => by omega) (fun z => by omega) hY, Or.inr ⟨hlt, ht⟩⟩
    · by_cases c : l ≤ 62
      · obtain ⟨u', v', hX, hY, ht⟩ := ap_built hk hbb (by omega) hac hf hf2 w1 c harg
        exact Or.inl ⟨u', v', xa_6 hlt v1 hX, ya_app hlt (by decide) v1 (fun z => by omega) (fun z => by omega) hY, Or.inr ⟨hlt, ht⟩⟩
      · subst hf
        by_cases c2 : l = 63
        · subst c2
          by_cases c3 : ac = 1
          · subst c3
            obtain ⟨u', v', hX, hY, hm, hA⟩ := ap_callcc hk (by omega) (by omega) hf2 (harg 0 (by decide))
            exact Or.inr ⟨u', v', _, xa_6 hlt v1 hX, ya_hand hlt (Or.inl rfl) hm hY, hlt, hA⟩
          · have hE := sm_E_R (e := 6) hk (by decide) (by decide)
            refine Or.inl ⟨_, _, xa_6 hlt v1 (fun post hp => xb_go (by decide) (by decide) (br_f (ne_I (b := 1) c3 (by omega) (by decide)) hp)), ya_nohand hlt (Or.inl rfl) (by decide : (6 : Int32) ≠ -1000000003) (fun q hq => ?_), Or.inl hE⟩
            exact br_f (by rw [zv_lo]; decide) (br_t rfl (br_f (ne_I (b := 1) c3 (by omega) (by decide)) hq))
        · have : l = 64 := by omega
          subst this
          by_cases c3 : ac = 2
          · subst c3
            rcases ap_apply hk (by omega) hf2 (harg 0 (by decide)) (harg 1 (by decide)) with ⟨u', v', hX, hY, hm, hA⟩ | ⟨u', v', hX, hY, hm, hE⟩
            · exact Or.inr ⟨u', v', _, xa_6 hlt v1 hX, ya_hand hlt (Or.inr rfl) hm hY, hlt, hA⟩
            · exact Or.inl ⟨u', v', xa_6 hlt v1 hX, ya_nohand hlt (Or.inr rfl) hm hY, Or.inl hE⟩
          · have hE := sm_E_R (e := 6) hk (by decide) (by decide)
            refine Or.inl ⟨_, _, xa_6 hlt v1 (fun post hp => xb_go (by decide) (by decide) (br_f (ne_I (b := 2) c3 (by omega) (by decide)) hp)), ya_nohand hlt (Or.inr rfl) (by decide : (6 : Int32) ≠ -1000000003) (fun q hq => ?_), Or.inl hE⟩
            exact br_t (by rw [zv_lo]; rfl) (br_f (by decide) (br_f (ne_I (b := 2) c3 (by omega) (by decide)) hq))
    · obtain ⟨u', v', hX, hY, ht⟩ := ap_cont hk hbb hac w harg
      exact Or.inl ⟨u', v', xa_7 hlt v1 hX, ya_app hlt (by decide) v1 (fun z => by omega) (fun z => by omega) hY, Or.inr ⟨hlt, ht⟩⟩
    · exact Or.inl (none (by omega) (by omega) (by omega) (by omega))
end
