/-! a form is worked out: all cases -/
section
variable {x_textLength : Int32} {x_pairCount : Int32} {x_placeCount : Int32} {x_procedureCount : Int32} {x_continuationCount : Int32} {x_frameCount : Int32} {x_state : Int32} {x_ending : Int32} {x_form : Int64} {x_environment : Int32} {x_frame : Int32} {x_value : Int64} {x_applied : Int64} {x_argumentCount : Int32} {x_countedCount : Int32} {x_consCount : Int32} {x_entryCount : Int32} {x_outputCount : Int32} {x_itemCount : Int32} {x_text : Nat → Int32} {x_firsts : Nat → Int64} {x_rests : Nat → Int64} {x_placeNames : Nat → Int32} {x_placeValues : Nat → Int64} {x_placeOuters : Nat → Int32} {x_procedureParts : Nat → Int64} {x_procedurePlaces : Nat → Int32} {x_continuationFrames : Nat → Int32} {x_frameTasks : Nat → Int32} {x_frameForms : Nat → Int64} {x_frameValues : Nat → Int64} {x_framePlaces : Nat → Int32} {x_frameNexts : Nat → Int32} {x_arguments : Nat → Int64} {x_outputs : Nat → Int32} {x_itemKinds : Nat → Int32} {x_itemNumbers : Nat → Int32} {x_openLists : Nat → Int64}
variable {y_size : Int32} {y_pairs : Int32} {y_open : Int32} {y_formCount : Int32} {y_places : Int32} {y_procedures : Int32} {y_continuationCount : Int32} {y_things : Int32} {y_foundCount : Int32} {y_argumentCount : Int32} {y_value : Int64} {y_form : Int64} {y_wherein : Int32} {y_next : Int32} {y_working : Int32} {y_ending : Int32} {y_counts : Int32} {y_made : Int32} {y_entered : Int32} {y_printCount : Int32} {y_itemCount : Int32} {y_text : Nat → Int32} {y_firsts : Nat → Int64} {y_rests : Nat → Int64} {y_heads : Nat → Int32} {y_lasts : Nat → Int32} {y_globals : Nat → Int64} {y_placeNames : Nat → Int32} {y_placeValues : Nat → Int64} {y_placeNexts : Nat → Int32} {y_procedureForms : Nat → Int64} {y_procedurePlaces : Nat → Int32} {y_continuations : Nat → Int32} {y_whats : Nat → Int32} {y_withs : Nat → Int64} {y_whereins : Nat → Int32} {y_soFars : Nat → Int32} {y_afters : Nat → Int32} {y_found : Nat → Int64} {y_foundNexts : Nat → Int32} {y_arguments : Nat → Int64} {y_prints : Nat → Int32} {y_itemKinds : Nat → Int32} {y_itemNumbers : Nat → Int32} {y_pile : Nat → Int64}
variable {T : Nat → Nat} {n px py pl np nc nf fo co cn et pc : Nat} {M : Nat → Nat → Prop} {G : Nat → Nat}
/-- (quote D) -/
theorem st_quote {a b k : Nat} (hr : sm_R T n M G px py pl np nc nf fo (co + 1) cn et pc (x_textLength, x_pairCount, x_placeCount, x_procedureCount, x_continuationCount, x_frameCount, x_state, x_ending, zv_c 2 b, x_environment, x_frame, x_value, x_applied, x_argumentCount, nI (co + 1), x_consCount, x_entryCount, x_outputCount, x_itemCount, x_text, x_firsts, x_rests, x_placeNames, x_placeValues, x_placeOuters, x_procedureParts, x_procedurePlaces, x_continuationFrames, x_frameTasks, x_frameForms, x_frameValues, x_framePlaces, x_frameNexts, x_arguments, x_outputs, x_itemKinds, x_itemNumbers, x_openLists) (y_size, y_pairs, y_open, y_formCount, y_places, y_procedures, y_continuationCount, y_things, y_foundCount, y_argumentCount, y_value, zv_c 3 a, y_wherein, y_next, y_working, y_ending, nI (co + 1), y_made, y_entered, y_printCount, y_itemCount, y_text, y_firsts, y_rests, y_heads, y_lasts, y_globals, y_placeNames, y_placeValues, y_placeNexts, y_procedureForms, y_procedurePlaces, y_continuations, y_whats, y_withs, y_whereins, y_soFars, y_afters, y_found, y_foundNexts, y_arguments, y_prints, y_itemKinds, y_itemNumbers, y_pile)) (hc : co < 600) (hb : fo ≤ co + 1 ∧ nf ≤ co + 1) (hx : x_ending = -1) (hy : y_ending = -1000000003) (hf : x_frame = y_next) (hf2 : fm_N nf y_next)
    (q1 : a < py) (q2 : b < px) (q3 : y_firsts a = zv_c 4 40) (q4 : x_firsts b = zv_c 1 40) (k1 : ch_N y_rests (zv_c 3) (zv_c 2 0) py k (y_rests a)) (k2 : ch_N x_rests (zv_c 2) (zv_c 3 0) px k (x_rests b))
    (k3 : k = 1 → ∃ a' b', a' < py ∧ b' < px ∧ y_rests a = zv_c 3 a' ∧ x_rests b = zv_c 2 b' ∧ zv_V M np nc (y_firsts a') (x_firsts b')) :
    ∃ u' v', (∀ post : SX → Prop, post u' → wpX_workOut post (x_textLength, x_pairCount, x_placeCount, x_procedureCount, x_continuationCount, x_frameCount, x_state, x_ending, zv_c 2 b, x_environment, x_frame, x_value, x_applied, x_argumentCount, nI co, x_consCount, x_entryCount, x_outputCount, x_itemCount, x_text, x_firsts, x_rests, x_placeNames, x_placeValues, x_placeOuters, x_procedureParts, x_procedurePlaces, x_continuationFrames, x_frameTasks, x_frameForms, x_frameValues, x_framePlaces, x_frameNexts, x_arguments, x_outputs, x_itemKinds, x_itemNumbers, x_openLists)) ∧ (∀ post : SY → Prop, post v' → wpY_work post (y_size, y_pairs, y_open, y_formCount, y_places, y_procedures, y_continuationCount, y_things, y_foundCount, y_argumentCount, y_value, zv_c 3 a, y_wherein, y_next, y_working, y_ending, nI co, y_made, y_entered, y_printCount, y_itemCount, y_text, y_firsts, y_rests, y_heads, y_lasts, y_globals, y_placeNames, y_placeValues, y_placeNexts, y_procedureForms, y_procedurePlaces, y_continuations, y_whats, y_withs, y_whereins, y_soFars, y_afters, y_found, y_foundNexts, y_arguments, y_prints, y_itemKinds, y_itemNumbers, y_pile)) ∧ sm_to T n (co + 1) u' v' := by
  subst hx hy
  have hr' := hr
  obtain ⟨a0, ⟨n1, n2, n3, n4, n5, n6, n7, n8, n9, n10, n11⟩, ⟨m1, m2, m3, m4, m5, m6, m7, m8, m9, m10, m11⟩, b0, c1, c2, c3, c4, c5, c6, c7, c8⟩ := hr
  subst n2
  have hpx : px ≤ 1400 := by omega
  have hpy : py ≤ 900 := by omega
  have hkb : k ≤ py := ch_len (ch_Y0 (by omega)) (ch_inj (by decide) (by omega)) k1
  by_cases hk : k = 1
  · subst hk
    obtain ⟨a', b', a1, b1, e1, e2, hV⟩ := k3 rfl
    obtain ⟨f, hf9, hv⟩ := sm_mkV hr' hb rfl rfl hV hf hf2
    have hin : vp_in (zv_c 2 b').toInt32 1400 := zv_in (by omega) (by decide)
    have hcl : (zv_c 2 b').toInt32.toNatClampNeg = b' := zv_cl (by omega)
    refine ⟨_, _, xs_toWord hc hpx q2 q4 (by decide) (by decide) (fun post hp => ?_), ys_toSpecial hc rfl hpy q1 q3 (by decide) (by decide) (fun post hp => ?_), Or.inr (Or.inr ⟨f, hf9, hv⟩)⟩
    · unfold wpX_workOutWord wpX_hasShape
      refine xs_len_ch hpx k2 (br_f (by decide) (br_f (by decide) (br_t rfl (br_t rfl (br_f (by decide) ?_)))))
      rw [e2]
      exact ⟨hin, nm_r (cl_R hcl) ⟨hin, nm_e (br_f (by decide) (br_f (by decide) (br_t rfl hp)))⟩⟩
    · unfold wpY_workSpecial
      refine ys_len_ch hpy k1 (br_f (by decide) (br_t rfl (br_t rfl ?_)))
      rw [e1]
      exact ys_firstOf (by omega) hp
  · have hE := sm_E_R (e := 4) hr' (by decide) (by decide)
    refine ⟨_, _, xs_toWord hc hpx q2 q4 (by decide) (by decide) (fun post hp => ?_), ys_toSpecial hc rfl hpy q1 q3 (by decide) (by decide) (fun post hp => ?_), Or.inl hE⟩
    · unfold wpX_workOutWord wpX_hasShape
      exact xs_len_ch hpx k2 (br_f (by decide) (br_f (by decide) (br_t rfl (br_f (ne_I (b := 1) hk (by omega) (by decide)) (br_t rfl hp)))))
    · have h30 : ∀ z, wY_workSpecial_30 post (nI 40) (y_rests a) (nI k) z y_size y_pairs y_open y_formCount y_places y_procedures y_continuationCount y_things y_foundCount y_argumentCount y_value (zv_c 3 a) y_wherein y_next y_working (-1000000003) (nI (co + 1)) y_made y_entered y_printCount y_itemCount y_text y_firsts y_rests y_heads y_lasts y_globals y_placeNames y_placeValues y_placeNexts y_procedureForms y_procedurePlaces y_continuations y_whats y_withs y_whereins y_soFars y_afters y_found y_foundNexts y_arguments y_prints y_itemKinds y_itemNumbers y_pile := fun z =>
        br_t rfl (br_f (ne_I (b := 1) hk (by omega) (by decide)) (br_f (by decide) (br_f (by decide) (br_f (by decide) (br_f (by decide) (br_f (by decide) hp))))))
      unfold wpY_workSpecial
      refine ys_len_ch hpy k1 (pk_eq k 2 (fun z => ?_) (fun z => h30 0))
      subst z
      obtain ⟨c, r1, r2, r3⟩ := id k1
      have h30' := h30
      rw [r2] at h30' ⊢
      refine ys_firstOf (by omega) ?_
      have : ∀ v, wpY_isName (fun r => ((r = 0 → wY_workSpecial_29 post (nI 40) (zv_c 3 c) (nI 2) y_size y_pairs y_open y_formCount y_places y_procedures y_continuationCount y_things y_foundCount y_argumentCount y_value (zv_c 3 a) y_wherein y_next y_working (-1000000003) (nI (co + 1)) y_made y_entered y_printCount y_itemCount y_text y_firsts y_rests y_heads y_lasts y_globals y_placeNames y_placeValues y_placeNexts y_procedureForms y_procedurePlaces y_continuations y_whats y_withs y_whereins y_soFars y_afters y_found y_foundNexts y_arguments y_prints y_itemKinds y_itemNumbers y_pile) ∧ (¬ r = 0 → wY_workSpecial_30 post (nI 40) (zv_c 3 c) (nI 2) 1 y_size y_pairs y_open y_formCount y_places y_procedures y_continuationCount y_things y_foundCount y_argumentCount y_value (zv_c 3 a) y_wherein y_next y_working (-1000000003) (nI (co + 1)) y_made y_entered y_printCount y_itemCount y_text y_firsts y_rests y_heads y_lasts y_globals y_placeNames y_placeValues y_placeNexts y_procedureForms y_procedurePlaces y_continuations y_whats y_withs y_whereins y_soFars y_afters y_found y_foundNexts y_arguments y_prints y_itemKinds y_itemNumbers y_pile))) (y_size, y_pairs, y_open, y_formCount, y_places, y_procedures, y_continuationCount, y_things, y_foundCount, y_argumentCount, y_value, zv_c 3 a, y_wherein, y_next, y_working, -1000000003, nI (co + 1), y_made, y_entered, y_printCount, y_itemCount, y_text, y_firsts, y_rests, y_heads, y_lasts, y_globals, y_placeNames, y_placeValues, y_placeNexts, y_procedureForms, y_procedurePlaces, y_continuations, y_whats, y_withs, y_whereins, y_soFars, y_afters, y_found, y_foundNexts, y_arguments, y_prints, y_itemKinds, y_itemNumbers, y_pile) v := by
        intro v
        unfold wpY_isName wpY_tag
        refine br_c (fun z => br_c (fun y => br_t rfl (h30' 0)) (fun y => br_f (by decide) (h30' 1))) (fun z => br_t rfl (h30' 0))
      exact this _
theorem st_F (h : sm_F T n co (x_textLength, x_pairCount, x_placeCount, x_procedureCount, x_continuationCount, x_frameCount, x_state, x_ending, x_form, x_environment, x_frame, x_value, x_applied, x_argumentCount, x_countedCount, x_consCount, x_entryCount, x_outputCount, x_itemCount, x_text, x_firsts, x_rests, x_placeNames, x_placeValues, x_placeOuters, x_procedureParts, x_procedurePlaces, x_continuationFrames, x_frameTasks, x_frameForms, x_frameValues, x_framePlaces, x_frameNexts, x_arguments, x_outputs, x_itemKinds, x_itemNumbers, x_openLists) (y_size, y_pairs, y_open, y_formCount, y_places, y_procedures, y_continuationCount, y_things, y_foundCount, y_argumentCount, y_value, y_form, y_wherein, y_next, y_working, y_ending, y_counts, y_made, y_entered, y_printCount, y_itemCount, y_text, y_firsts, y_rests, y_heads, y_lasts, y_globals, y_placeNames, y_placeValues, y_placeNexts, y_procedureForms, y_procedurePlaces, y_continuations, y_whats, y_withs, y_whereins, y_soFars, y_afters, y_found, y_foundNexts, y_arguments, y_prints, y_itemKinds, y_itemNumbers, y_pile)) : ∃ u' v', (∀ post : SX → Prop, post u' → wpX_workOut post (x_textLength, x_pairCount, x_placeCount, x_procedureCount, x_continuationCount, x_frameCount, x_state, x_ending, x_form, x_environment, x_frame, x_value, x_applied, x_argumentCount, x_countedCount, x_consCount, x_entryCount, x_outputCount, x_itemCount, x_text, x_firsts, x_rests, x_placeNames, x_placeValues, x_placeOuters, x_procedureParts, x_procedurePlaces, x_continuationFrames, x_frameTasks, x_frameForms, x_frameValues, x_framePlaces, x_frameNexts, x_arguments, x_outputs, x_itemKinds, x_itemNumbers, x_openLists)) ∧ (∀ post : SY → Prop, post v' → wpY_work post (y_size, y_pairs, y_open, y_formCount, y_places, y_procedures, y_continuationCount, y_things, y_foundCount, y_argumentCount, y_value, y_form, y_wherein, y_next, y_working, y_ending, y_counts, y_made, y_entered, y_printCount, y_itemCount, y_text, y_firsts, y_rests, y_heads, y_lasts, y_globals, y_placeNames, y_placeValues, y_placeNexts, y_procedureForms, y_procedurePlaces, y_continuations, y_whats, y_withs, y_whereins, y_soFars, y_afters, y_found, y_foundNexts, y_arguments, y_prints, y_itemKinds, y_itemNumbers, y_pile)) ∧ (sm_E T n u' v' ∨ (co < 600 ∧ sm_to T n (co + 1) u' v')) := by
  by_cases hc6 : co = 600
  · obtain ⟨u', v', a, b, c⟩ := st_tired h hc6
    exact ⟨u', v', a, b, Or.inl c⟩
  · obtain ⟨M, G, px, py, pl, np, nc, nf, fo, cn, et, pc, j, h, hb, s1, s2, s3, s4, ⟨j1, j2, j3⟩, s6, s7, he, hf, hf2⟩ := h
    have hr' := h
    obtain ⟨a0, ⟨n1, n2, n3, n4, n5, n6, n7, n8, n9, n10, n11⟩, ⟨m1, m2, m3, m4, m5, m6, m7, m8, m9, m10, m11⟩, b0, c1, c2, c3, c4, c5, c6, c7, c8⟩ := h
    have hlt : co < 600 := by omega
    subst n7 m8
    have hk := rk_count hr' hlt
    have key : (∃ u' v', (∀ post : SX → Prop, post u' → wpX_workOut post (x_textLength, x_pairCount, x_placeCount, x_procedureCount, x_continuationCount, x_frameCount, x_state, x_ending, x_form, x_environment, x_frame, x_value, x_applied, x_argumentCount, nI co, x_consCount, x_entryCount, x_outputCount, x_itemCount, x_text, x_firsts, x_rests, x_placeNames, x_placeValues, x_placeOuters, x_procedureParts, x_procedurePlaces, x_continuationFrames, x_frameTasks, x_frameForms, x_frameValues, x_framePlaces, x_frameNexts, x_arguments, x_outputs, x_itemKinds, x_itemNumbers, x_openLists)) ∧ (∀ post : SY → Prop, post v' → wpY_work post (y_size, y_pairs, y_open, y_formCount, y_places, y_procedures, y_continuationCount, y_things, y_foundCount, y_argumentCount, y_value, y_form, y_wherein, y_next, y_working, y_ending, nI co, y_made, y_entered, y_printCount, y_itemCount, y_text, y_firsts, y_rests, y_heads, y_lasts, y_globals, y_placeNames, y_placeValues, y_placeNexts, y_procedureForms, y_procedurePlaces, y_continuations, y_whats, y_withs, y_whereins, y_soFars, y_afters, y_found, y_foundNexts, y_arguments, y_prints, y_itemKinds, y_itemNumbers, y_pile)) ∧ sm_to T n (co + 1) u' v') → ∃ u' v', (∀ post : SX → Prop, post u' → wpX_workOut post (x_textLength, x_pairCount, x_placeCount, x_procedureCount, x_continuationCount, x_frameCount, x_state, x_ending, x_form, x_environment, x_frame, x_value, x_applied, x_argumentCount, nI co, x_consCount, x_entryCount, x_outputCount, x_itemCount, x_text, x_firsts, x_rests, x_placeNames, x_placeValues, x_placeOuters, x_procedureParts, x_procedurePlaces, x_continuationFrames, x_frameTasks, x_frameForms, x_frameValues, x_framePlaces, x_frameNexts, x_arguments, x_outputs, x_itemKinds, x_itemNumbers, x_openLists)) ∧ (∀ post : SY → Prop, post v' → wpY_work post (y_size, y_pairs, y_open, y_formCount, y_places, y_procedures, y_continuationCount, y_things, y_foundCount, y_argumentCount, y_value, y_form, y_wherein, y_next, y_working, y_ending, nI co, y_made, y_entered, y_printCount, y_itemCount, y_text, y_firsts, y_rests, y_heads, y_lasts, y_globals, y_placeNames, y_placeValues, y_placeNexts, y_procedureForms, y_procedurePlaces, y_continuations, y_whats, y_withs, y_whereins, y_soFars, y_afters, y_found, y_foundNexts, y_arguments, y_prints, y_itemKinds, y_itemNumbers, y_pile)) ∧ (sm_E T n u' v' ∨ (co < 600 ∧ sm_to T n (co + 1) u' v')) :=
      fun ⟨u', v', a, b, c⟩ => ⟨u', v', a, b, Or.inr ⟨hlt, c⟩⟩
    apply key
    rcases cd_cases a0.1 a0.2.1 a0.2.2.1 c1 c2.1 c2.2 j1 j2 j3 with ⟨t, s, k, k1, k2, k3, k4⟩ | ⟨k, k1, k2, k3, k4⟩ | ⟨k, k1, k2, k3, k4⟩ | (⟨k3, k4⟩ | ⟨k, k1, k2, k3, k4⟩) | ⟨a, b, h, q1, q2, k3, k4, q3, q4, q5, q6, q7, q8, q9, q10, q11⟩ | ⟨a, b, w, q1, q2, k3, k4, q3, q4, q5⟩
    · have e6 := s6.trans k4
      have e7 := s7.trans k3
      subst e6 e7
      exact st_self hk hlt hb s2 s3 hf hf2 k1 k2
    · have e6 := s6.trans k4
      have e7 := s7.trans k3
      subst e6 e7
      exact st_name hk hlt hb s2 s3 hf hf2 he k1 k2
    · have e6 := s6.trans k4
      have e7 := s7.trans k3
      subst e6 e7
      exact st_builtin hk hlt hb s2 s3 hf hf2 k1 k2
    · have e6 := s6.trans k4
      have e7 := s7.trans k3
      subst e6 e7
      exact st_syntax hk hlt s3 (Or.inl ⟨rfl, rfl, rfl⟩)
    · have e6 := s6.trans k4
      have e7 := s7.trans k3
      subst e6 e7
      exact st_syntax hk hlt s3 (Or.inr ⟨rfl, rfl, k1, k2⟩)
    · have e6 := s6.trans k4
      have e7 := s7.trans k3
      subst e6 e7
      exact st_app hk hlt hb s2 s1 s3 hf hf2 he q1 q2 q3 q4 q5 q6 q7 q8 q9 q10 q11
    · have e6 := s6.trans k4
      have e7 := s7.trans k3
      subst e6 e7
      rcases q5 with ⟨rfl, k, g1, g2, g3⟩ | ⟨g1, g2, p, g3, g4, g5⟩
      · exact st_quote hk hlt hb s2 s3 hf hf2 q1 q2 q3 q4 g1 g2 g3
      · exact st_word hk hlt (by omega) hb s2 s1 s3 hf hf2 he q1 q2 q3 q4 g1 g2 g3 g4 g5
end
