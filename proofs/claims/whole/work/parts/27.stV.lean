/-! a value is given to a frame -/
def yA_loop (post : SY → Prop) (f : Nat) (g : Int64) (v : SY) : Prop := match v with
  | (y_size, y_pairs, y_open, y_formCount, y_places, y_procedures, y_continuationCount, y_things, y_foundCount, y_argumentCount, y_value, y_form, y_wherein, y_next, y_working, y_ending, y_counts, y_made, y_entered, y_printCount, y_itemCount, y_text, y_firsts, y_rests, y_heads, y_lasts, y_globals, y_placeNames, y_placeValues, y_placeNexts, y_procedureForms, y_procedurePlaces, y_continuations, y_whats, y_withs, y_whereins, y_soFars, y_afters, y_found, y_foundNexts, y_arguments, y_prints, y_itemKinds, y_itemNumbers, y_pile) => wY_applyFound_86 post f g 1 y_size y_pairs y_open y_formCount y_places y_procedures y_continuationCount y_things y_foundCount y_argumentCount y_value y_form y_wherein y_next y_working y_ending y_counts y_made y_entered y_printCount y_itemCount y_text y_firsts y_rests y_heads y_lasts y_globals y_placeNames y_placeValues y_placeNexts y_procedureForms y_procedurePlaces y_continuations y_whats y_withs y_whereins y_soFars y_afters y_found y_foundNexts y_arguments y_prints y_itemKinds y_itemNumbers y_pile
section
variable {x_textLength : Int32} {x_pairCount : Int32} {x_placeCount : Int32} {x_procedureCount : Int32} {x_continuationCount : Int32} {x_frameCount : Int32} {x_state : Int32} {x_ending : Int32} {x_form : Int64} {x_environment : Int32} {x_frame : Int32} {x_value : Int64} {x_applied : Int64} {x_argumentCount : Int32} {x_countedCount : Int32} {x_consCount : Int32} {x_entryCount : Int32} {x_outputCount : Int32} {x_itemCount : Int32} {x_text : Nat → Int32} {x_firsts : Nat → Int64} {x_rests : Nat → Int64} {x_placeNames : Nat → Int32} {x_placeValues : Nat → Int64} {x_placeOuters : Nat → Int32} {x_procedureParts : Nat → Int64} {x_procedurePlaces : Nat → Int32} {x_continuationFrames : Nat → Int32} {x_frameTasks : Nat → Int32} {x_frameForms : Nat → Int64} {x_frameValues : Nat → Int64} {x_framePlaces : Nat → Int32} {x_frameNexts : Nat → Int32} {x_arguments : Nat → Int64} {x_outputs : Nat → Int32} {x_itemKinds : Nat → Int32} {x_itemNumbers : Nat → Int32} {x_openLists : Nat → Int64}
variable {y_size : Int32} {y_pairs : Int32} {y_open : Int32} {y_formCount : Int32} {y_places : Int32} {y_procedures : Int32} {y_continuationCount : Int32} {y_things : Int32} {y_foundCount : Int32} {y_argumentCount : Int32} {y_value : Int64} {y_form : Int64} {y_wherein : Int32} {y_next : Int32} {y_working : Int32} {y_ending : Int32} {y_counts : Int32} {y_made : Int32} {y_entered : Int32} {y_printCount : Int32} {y_itemCount : Int32} {y_text : Nat → Int32} {y_firsts : Nat → Int64} {y_rests : Nat → Int64} {y_heads : Nat → Int32} {y_lasts : Nat → Int32} {y_globals : Nat → Int64} {y_placeNames : Nat → Int32} {y_placeValues : Nat → Int64} {y_placeNexts : Nat → Int32} {y_procedureForms : Nat → Int64} {y_procedurePlaces : Nat → Int32} {y_continuations : Nat → Int32} {y_whats : Nat → Int32} {y_withs : Nat → Int64} {y_whereins : Nat → Int32} {y_soFars : Nat → Int32} {y_afters : Nat → Int32} {y_found : Nat → Int64} {y_foundNexts : Nat → Int32} {y_arguments : Nat → Int64} {y_prints : Nat → Int32} {y_itemKinds : Nat → Int32} {y_itemNumbers : Nat → Int32} {y_pile : Nat → Int64}
variable {T : Nat → Nat} {n px py pl np nc nf fo co cn et pc m : Nat} {M : Nat → Nat → Prop} {G : Nat → Nat}
theorem sm_mkVb {y x : Int64} {b : Nat} (h : sm_R T n M G px py pl np nc nf fo co cn et pc (x_textLength, x_pairCount, x_placeCount, x_procedureCount, x_continuationCount, x_frameCount, x_state, x_ending, x_form, x_environment, x_frame, x_value, x_applied, x_argumentCount, x_countedCount, x_consCount, x_entryCount, x_outputCount, x_itemCount, x_text, x_firsts, x_rests, x_placeNames, x_placeValues, x_placeOuters, x_procedureParts, x_procedurePlaces, x_continuationFrames, x_frameTasks, x_frameForms, x_frameValues, x_framePlaces, x_frameNexts, x_arguments, x_outputs, x_itemKinds, x_itemNumbers, x_openLists) (y_size, y_pairs, y_open, y_formCount, y_places, y_procedures, y_continuationCount, y_things, y_foundCount, y_argumentCount, y_value, y_form, y_wherein, y_next, y_working, y_ending, y_counts, y_made, y_entered, y_printCount, y_itemCount, y_text, y_firsts, y_rests, y_heads, y_lasts, y_globals, y_placeNames, y_placeValues, y_placeNexts, y_procedureForms, y_procedurePlaces, y_continuations, y_whats, y_withs, y_whereins, y_soFars, y_afters, y_found, y_foundNexts, y_arguments, y_prints, y_itemKinds, y_itemNumbers, y_pile)) (hb : fo ≤ co ∧ nf ≤ co) (hx : x_ending = -1) (hy : y_ending = -1000000003) (hV : zv_V M np nc y x) (hf : x_frame = y_next) (hb2 : b ≤ nf) (hf2 : fm_N b y_next) :
    ∃ f, f ≤ b ∧ sm_V T n co f (x_textLength, x_pairCount, x_placeCount, x_procedureCount, x_continuationCount, x_frameCount, 2, x_ending, x_form, x_environment, x_frame, x, x_applied, x_argumentCount, x_countedCount, x_consCount, x_entryCount, x_outputCount, x_itemCount, x_text, x_firsts, x_rests, x_placeNames, x_placeValues, x_placeOuters, x_procedureParts, x_procedurePlaces, x_continuationFrames, x_frameTasks, x_frameForms, x_frameValues, x_framePlaces, x_frameNexts, x_arguments, x_outputs, x_itemKinds, x_itemNumbers, x_openLists) (y_size, y_pairs, y_open, y_formCount, y_places, y_procedures, y_continuationCount, y_things, y_foundCount, y_argumentCount, y, y_form, y_wherein, y_next, 0, y_ending, y_counts, y_made, y_entered, y_printCount, y_itemCount, y_text, y_firsts, y_rests, y_heads, y_lasts, y_globals, y_placeNames, y_placeValues, y_placeNexts, y_procedureForms, y_procedurePlaces, y_continuations, y_whats, y_withs, y_whereins, y_soFars, y_afters, y_found, y_foundNexts, y_arguments, y_prints, y_itemKinds, y_itemNumbers, y_pile) := by
  rcases hf2 with z | ⟨m, m1, z⟩
  · exact ⟨0, by omega, M, G, px, py, pl, np, nc, nf, fo, cn, et, pc, h, hb, rfl, hx, hy, rfl, hV, hf, Or.inl ⟨rfl, z⟩⟩
  · exact ⟨m + 1, by omega, M, G, px, py, pl, np, nc, nf, fo, cn, et, pc, h, hb, rfl, hx, hy, rfl, hV, hf, Or.inr ⟨m, by omega, rfl, z⟩⟩
theorem zv_Vnoth : zv_V M np nc (zv_c 8 0) (zv_c 8 0) := ⟨8, 0, 8, 0, by decide, by decide, rfl, rfl, Or.inr (Or.inr (Or.inr (Or.inr (Or.inr (Or.inr (Or.inr (Or.inr ⟨rfl, rfl, rfl, rfl⟩)))))))⟩
/-- where goOn may lead -/
def sm_go (T : Nat → Nat) (n co m : Nat) (u : SX) (v : SY) : Prop := sm_E T n u v ∨ sm_F T n co u v ∨ ∃ f, f ≤ m ∧ sm_V T n co f u v
theorem st_V0 {p : Nat} (h : sm_R T n M G px py pl np nc nf fo co cn et pc (x_textLength, x_pairCount, x_placeCount, x_procedureCount, x_continuationCount, x_frameCount, x_state, -1, x_form, x_environment, nI m, x_value, x_applied, x_argumentCount, x_countedCount, x_consCount, x_entryCount, x_outputCount, x_itemCount, x_text, x_firsts, x_rests, x_placeNames, x_placeValues, x_placeOuters, x_procedureParts, x_procedurePlaces, x_continuationFrames, x_frameTasks, x_frameForms, x_frameValues, x_framePlaces, x_frameNexts, x_arguments, x_outputs, x_itemKinds, x_itemNumbers, x_openLists) (y_size, y_pairs, y_open, y_formCount, y_places, y_procedures, y_continuationCount, y_things, y_foundCount, y_argumentCount, y_value, y_form, y_wherein, nI m, 0, -1000000003, y_counts, y_made, y_entered, y_printCount, y_itemCount, y_text, y_firsts, y_rests, y_heads, y_lasts, y_globals, y_placeNames, y_placeValues, y_placeNexts, y_procedureForms, y_procedurePlaces, y_continuations, y_whats, y_withs, y_whereins, y_soFars, y_afters, y_found, y_foundNexts, y_arguments, y_prints, y_itemKinds, y_itemNumbers, y_pile)) (hb : fo ≤ co ∧ nf ≤ co) (hm : m < nf) (he : en_R pl (y_whereins m) (x_framePlaces m)) (hf : fm_N m (y_afters m)) (hn : x_frameNexts m = y_afters m)
    (h1 : y_whats m = nI 0) (h2 : x_frameTasks m = nI 0) (h3 : ls_P T n p) (h4 : p < n) (h5 : T p ≠ 1) (h6 : y_withs m = cd_yl T n p) (h7 : x_frameForms m = cd_xl T n p) :
    ∃ u' v', (∀ post : SX → Prop, post u' → wpX_goOn post (x_textLength, x_pairCount, x_placeCount, x_procedureCount, x_continuationCount, x_frameCount, x_state, -1, x_form, x_environment, nI m, x_value, x_applied, x_argumentCount, x_countedCount, x_consCount, x_entryCount, x_outputCount, x_itemCount, x_text, x_firsts, x_rests, x_placeNames, x_placeValues, x_placeOuters, x_procedureParts, x_procedurePlaces, x_continuationFrames, x_frameTasks, x_frameForms, x_frameValues, x_framePlaces, x_frameNexts, x_arguments, x_outputs, x_itemKinds, x_itemNumbers, x_openLists)) ∧ (∀ post : SY → Prop, post v' → wpY_goOn post (y_size, y_pairs, y_open, y_formCount, y_places, y_procedures, y_continuationCount, y_things, y_foundCount, y_argumentCount, y_value, y_form, y_wherein, nI m, 0, -1000000003, y_counts, y_made, y_entered, y_printCount, y_itemCount, y_text, y_firsts, y_rests, y_heads, y_lasts, y_globals, y_placeNames, y_placeValues, y_placeNexts, y_procedureForms, y_procedurePlaces, y_continuations, y_whats, y_withs, y_whereins, y_soFars, y_afters, y_found, y_foundNexts, y_arguments, y_prints, y_itemKinds, y_itemNumbers, y_pile)) ∧ sm_go T n co m u' v' := by
  have hco : co ≤ 600 := h.2.2.2.1.1
  have e : (nI m).toNatClampNeg = m := nI_clamp (by omega)
  have hi : vp_in (nI m) 700 := vp_in_nI (by omega) (by decide)
  have hj : vp_in (nI m) 3400 := vp_in_nI (by omega) (by decide)
  have h' : sm_R T n M G px py pl np nc nf fo co cn et pc (x_textLength, x_pairCount, x_placeCount, x_procedureCount, x_continuationCount, x_frameCount, x_state, -1, x_form, x_framePlaces m, x_frameNexts m, x_value, x_applied, x_argumentCount, x_countedCount, x_consCount, x_entryCount, x_outputCount, x_itemCount, x_text, x_firsts, x_rests, x_placeNames, x_placeValues, x_placeOuters, x_procedureParts, x_procedurePlaces, x_continuationFrames, x_frameTasks, x_frameForms, x_frameValues, x_framePlaces, x_frameNexts, x_arguments, x_outputs, x_itemKinds, x_itemNumbers, x_openLists) (y_size, y_pairs, y_open, y_formCount, y_places, y_procedures, y_continuationCount, y_things, y_foundCount, y_argumentCount, y_value, y_form, y_wherein, y_afters m, 0, -1000000003, y_counts, y_made, y_entered, y_printCount, y_itemCount, y_text, y_firsts, y_rests, y_heads, y_lasts, y_globals, y_placeNames, y_placeValues, y_placeNexts, y_procedureForms, y_procedurePlaces, y_continuations, y_whats, y_withs, y_whereins, y_soFars, y_afters, y_found, y_foundNexts, y_arguments, y_prints, y_itemKinds, y_itemNumbers, y_pile) := rk_ig h
  obtain ⟨u', v', hX, hY, hF⟩ := sm_all (w := y_whereins m) h' rfl rfl (by omega) he hn (fm_mono (by omega) hf) h3 h4 h5
  refine ⟨u', v', fun post hp => ?_, fun post hp => ?_, Or.inr (Or.inl hF)⟩
  · refine br_f (ap_m1 (by omega)) ⟨hi, nm_r ((cl_R e).trans h7) ⟨hi, nm_r (cl_R e) ⟨hi, nm_r (cl_R e) ⟨hi, nm_r ((cl_R e).trans h2) (br_f (by decide) (br_f (by decide) (br_t rfl (hX _ ?_))))⟩⟩⟩⟩
    obtain ⟨x_textLength, x_pairCount, x_placeCount, x_procedureCount, x_continuationCount, x_frameCount, x_state, x_ending, x_form, x_environment, x_frame, x_value, x_applied, x_argumentCount, x_countedCount, x_consCount, x_entryCount, x_outputCount, x_itemCount, x_text, x_firsts, x_rests, x_placeNames, x_placeValues, x_placeOuters, x_procedureParts, x_procedurePlaces, x_continuationFrames, x_frameTasks, x_frameForms, x_frameValues, x_framePlaces, x_frameNexts, x_arguments, x_outputs, x_itemKinds, x_itemNumbers, x_openLists⟩ := u'
    exact hp
  · have ew : y_whats (nI m).toNatClampNeg = 0 := (cl_R e).trans h1
    refine ⟨hj, nm_r ((cl_R e).trans h6) ⟨hj, nm_r (cl_R e) ⟨hj, nm_r (cl_R e) ⟨hj, br_t ew (hY _ ?_)⟩⟩⟩⟩
    obtain ⟨y_size, y_pairs, y_open, y_formCount, y_places, y_procedures, y_continuationCount, y_things, y_foundCount, y_argumentCount, y_value, y_form, y_wherein, y_next, y_working, y_ending, y_counts, y_made, y_entered, y_printCount, y_itemCount, y_text, y_firsts, y_rests, y_heads, y_lasts, y_globals, y_placeNames, y_placeValues, y_placeNexts, y_procedureForms, y_procedurePlaces, y_continuations, y_whats, y_withs, y_whereins, y_soFars, y_afters, y_found, y_foundNexts, y_arguments, y_prints, y_itemKinds, y_itemNumbers, y_pile⟩ := v'
    exact hp
theorem st_V1 {p : Nat} (h : sm_R T n M G px py pl np nc nf fo co cn et pc (x_textLength, x_pairCount, x_placeCount, x_procedureCount, x_continuationCount, x_frameCount, x_state, -1, x_form, x_environment, nI m, x_value, x_applied, x_argumentCount, x_countedCount, x_consCount, x_entryCount, x_outputCount, x_itemCount, x_text, x_firsts, x_rests, x_placeNames, x_placeValues, x_placeOuters, x_procedureParts, x_procedurePlaces, x_continuationFrames, x_frameTasks, x_frameForms, x_frameValues, x_framePlaces, x_frameNexts, x_arguments, x_outputs, x_itemKinds, x_itemNumbers, x_openLists) (y_size, y_pairs, y_open, y_formCount, y_places, y_procedures, y_continuationCount, y_things, y_foundCount, y_argumentCount, y_value, y_form, y_wherein, nI m, 0, -1000000003, y_counts, y_made, y_entered, y_printCount, y_itemCount, y_text, y_firsts, y_rests, y_heads, y_lasts, y_globals, y_placeNames, y_placeValues, y_placeNexts, y_procedureForms, y_procedurePlaces, y_continuations, y_whats, y_withs, y_whereins, y_soFars, y_afters, y_found, y_foundNexts, y_arguments, y_prints, y_itemKinds, y_itemNumbers, y_pile)) (hb : fo ≤ co ∧ nf ≤ co) (hV : zv_V M np nc y_value x_value) (hm : m < nf) (he : en_R pl (y_whereins m) (x_framePlaces m)) (hf : fm_N m (y_afters m)) (hn : x_frameNexts m = y_afters m)
    (h1 : y_whats m = nI 1) (h2 : x_frameTasks m = nI 1) (h3 : ls_P T n p) (h4 : p < n) (h5 : T p ≠ 1) (h6 : y_withs m = cd_yl T n p) (h7 : x_frameForms m = cd_xl T n p) :
    ∃ u' v', (∀ post : SX → Prop, post u' → wpX_goOn post (x_textLength, x_pairCount, x_placeCount, x_procedureCount, x_continuationCount, x_frameCount, x_state, -1, x_form, x_environment, nI m, x_value, x_applied, x_argumentCount, x_countedCount, x_consCount, x_entryCount, x_outputCount, x_itemCount, x_text, x_firsts, x_rests, x_placeNames, x_placeValues, x_placeOuters, x_procedureParts, x_procedurePlaces, x_continuationFrames, x_frameTasks, x_frameForms, x_frameValues, x_framePlaces, x_frameNexts, x_arguments, x_outputs, x_itemKinds, x_itemNumbers, x_openLists)) ∧ (∀ post : SY → Prop, post v' → wpY_goOn post (y_size, y_pairs, y_open, y_formCount, y_places, y_procedures, y_continuationCount, y_things, y_foundCount, y_argumentCount, y_value, y_form, y_wherein, nI m, 0, -1000000003, y_counts, y_made, y_entered, y_printCount, y_itemCount, y_text, y_firsts, y_rests, y_heads, y_lasts, y_globals, y_placeNames, y_placeValues, y_placeNexts, y_procedureForms, y_procedurePlaces, y_continuations, y_whats, y_withs, y_whereins, y_soFars, y_afters, y_found, y_foundNexts, y_arguments, y_prints, y_itemKinds, y_itemNumbers, y_pile)) ∧ sm_go T n co m u' v' := by
  have hr := h
  obtain ⟨a0, _, _, b0, c1, c2, _⟩ := hr
  have hR := a0.1
  have hbb := c2.1.2.2.2.2.2
  have e : (nI m).toNatClampNeg = m := nI_clamp (by omega)
  have hi : vp_in (nI m) 700 := vp_in_nI (by omega) (by decide)
  have hj : vp_in (nI m) 3400 := vp_in_nI (by omega) (by decide)
  have ew : y_whats (nI m).toNatClampNeg = 1 := (cl_R e).trans h1
  have ew0 : ¬ y_whats (nI m).toNatClampNeg = 0 := by rw [ew]; decide
  obtain ⟨e1, e2, e3, e4, e5, e6⟩ := cd_cell c1 hbb h4 h5 h3.2.2 (pz_CL_nD0 h3.2.1)
  rw [cd_yl_p h4 h5] at h6
  rw [cd_xl_p h4 h5] at h7
  have hin : vp_in (zv_c 2 (pz_AX T n 0 p)).toInt32 1400 := zv_in (by omega) (by decide)
  have hcl : (zv_c 2 (pz_AX T n 0 p)).toInt32.toNatClampNeg = pz_AX T n 0 p := zv_cl (by omega)
  have hls := ls_nx hR h3 h4 h5
  obtain ⟨t, k, s, l, v1, v2, v3, v4, vK⟩ := hV
  have vb := zv_K_b vK
  have vp := zv_K_p vK
  subst v3 v4
  by_cases hfal : t = 1 ∧ k = 0
  · obtain ⟨rfl, rfl⟩ := hfal
    have hfal : 1 = 1 ∧ 0 = 0 := ⟨rfl, rfl⟩
    have hxf : zv_c s l = 17179869184 := by
      rw [zk_xF]
      have := vp.2.2.2.2.2.1.mp hfal.1
      have := vp.2.2.2.2.2.2.2 (by omega)
      rw [zv_eq (by omega) v2 (by decide) (by decide)]
      omega
    by_cases c : pz_nx T n p < n ∧ T (pz_nx T n p) ≠ 1
    · obtain ⟨r1, r2, r3, r4, r5, r6⟩ := cd_cell c1 hbb c.1 c.2 hls.2.2 (pz_CL_nD0 hls.2.1)
      have hin' : vp_in (zv_c 2 (pz_AX T n 0 (pz_nx T n p))).toInt32 1400 := zv_in (by omega) (by decide)
      have hcl' : (zv_c 2 (pz_AX T n 0 (pz_nx T n p))).toInt32.toNatClampNeg = pz_AX T n 0 (pz_nx T n p) := zv_cl (by omega)
      have e6' := e6.trans (cd_xl_p c.1 c.2)
      have e4' := e4.trans (cd_yl_p c.1 c.2)
      refine ⟨(x_textLength, x_pairCount, x_placeCount, x_procedureCount, x_continuationCount, x_frameCount, 0, -1, cd_xv T n (pz_nx T n p), x_framePlaces m, x_frameNexts m, zv_c s l, x_applied, x_argumentCount, x_countedCount, x_consCount, x_entryCount, x_outputCount, x_itemCount, x_text, x_firsts, x_rests, x_placeNames, x_placeValues, x_placeOuters, x_procedureParts, x_procedurePlaces, x_continuationFrames, x_frameTasks, x_frameForms, x_frameValues, x_framePlaces, x_frameNexts, x_arguments, x_outputs, x_itemKinds, x_itemNumbers, x_openLists), (y_size, y_pairs, y_open, y_formCount, y_places, y_procedures, y_continuationCount, y_things, y_foundCount, y_argumentCount, zv_c 1 0, cd_yv T n (pz_nx T n p), y_whereins m, y_afters m, 1, -1000000003, y_counts, y_made, y_entered, y_printCount, y_itemCount, y_text, y_firsts, y_rests, y_heads, y_lasts, y_globals, y_placeNames, y_placeValues, y_placeNexts, y_procedureForms, y_procedurePlaces, y_continuations, y_whats, y_withs, y_whereins, y_soFars, y_afters, y_found, y_foundNexts, y_arguments, y_prints, y_itemKinds, y_itemNumbers, y_pile), fun post hp => ?_, fun post hp => ?_,
        Or.inr (Or.inl ⟨M, G, px, py, pl, np, nc, nf, fo, cn, et, pc, _, rk_ig h, by omega, rfl, rfl, rfl, rfl, ⟨c.1, c.2, ls_CF hls⟩, rfl, rfl, he, hn, fm_mono (by omega) hf⟩)⟩
      · refine br_f (ap_m1 (by omega)) ⟨hi, nm_r ((cl_R e).trans h7) ⟨hi, nm_r (cl_R e) ⟨hi, nm_r (cl_R e) ⟨hi, nm_r ((cl_R e).trans h2) (br_f (by decide) (br_f (by decide) (br_f (by decide) (br_t rfl ?_))))⟩⟩⟩⟩
        refine ⟨hin, nm_r ((cl_R hcl).trans e6') (br_t hxf (br_f ?_ ⟨hin', nm_r ((cl_R hcl').trans r5) hp⟩))⟩
        rw [zk_xE]
        exact ch_X0 (B := px) (by omega) _ r2
      · refine ⟨hj, nm_r ((cl_R e).trans h6) ⟨hj, nm_r (cl_R e) ⟨hj, nm_r (cl_R e) ⟨hj, br_f ew0 ⟨hj, br_t ew ?_⟩⟩⟩⟩⟩
        refine ys_tag (by decide) v1 (br_t rfl (br_t (by rw [zv_lo]; rfl) ?_))
        unfold wY_goOn_84
        refine ys_restOf (by omega) ?_
        rw [e4']
        refine br_f (by decide) (ys_isPair_t (by omega) (br_f (by decide) (ys_firstOf (by omega) ?_)))
        rw [r3]
        exact hp
    · obtain ⟨f, hf9, hv⟩ := sm_mkVb (y := zv_c 8 0) (x := zv_c 8 0) (show sm_R T n M G px py pl np nc nf fo co cn et pc (x_textLength, x_pairCount, x_placeCount, x_procedureCount, x_continuationCount, x_frameCount, x_state, -1, x_form, x_framePlaces m, x_frameNexts m, zv_c s l, x_applied, x_argumentCount, x_countedCount, x_consCount, x_entryCount, x_outputCount, x_itemCount, x_text, x_firsts, x_rests, x_placeNames, x_placeValues, x_placeOuters, x_procedureParts, x_procedurePlaces, x_continuationFrames, x_frameTasks, x_frameForms, x_frameValues, x_framePlaces, x_frameNexts, x_arguments, x_outputs, x_itemKinds, x_itemNumbers, x_openLists) (y_size, y_pairs, y_open, y_formCount, y_places, y_procedures, y_continuationCount, y_things, y_foundCount, y_argumentCount, zv_c 1 0, y_form, y_wherein, y_afters m, 0, -1000000003, y_counts, y_made, y_entered, y_printCount, y_itemCount, y_text, y_firsts, y_rests, y_heads, y_lasts, y_globals, y_placeNames, y_placeValues, y_placeNexts, y_procedureForms, y_procedurePlaces, y_continuations, y_whats, y_withs, y_whereins, y_soFars, y_afters, y_found, y_foundNexts, y_arguments, y_prints, y_itemKinds, y_itemNumbers, y_pile) from rk_ig h) hb rfl rfl zv_Vnoth hn (Nat.le_of_lt hm) hf
      refine ⟨_, _, fun post hp => ?_, fun post hp => ?_, Or.inr (Or.inr ⟨f, hf9, hv⟩)⟩
      · refine br_f (ap_m1 (by omega)) ⟨hi, nm_r ((cl_R e).trans h7) ⟨hi, nm_r (cl_R e) ⟨hi, nm_r (cl_R e) ⟨hi, nm_r ((cl_R e).trans h2) (br_f (by decide) (br_f (by decide) (br_f (by decide) (br_t rfl ?_))))⟩⟩⟩⟩
        refine ⟨hin, nm_r ((cl_R hcl).trans e6) (br_t hxf (br_t (by rw [cd_xl_e c, zk_xE]) ?_))⟩
        rw [zk_xN]
        exact hp
      · refine ⟨hj, nm_r ((cl_R e).trans h6) ⟨hj, nm_r (cl_R e) ⟨hj, nm_r (cl_R e) ⟨hj, br_f ew0 ⟨hj, br_t ew ?_⟩⟩⟩⟩⟩
        refine ys_tag (by decide) v1 (br_t rfl (br_t (by rw [zv_lo]; rfl) ?_))
        unfold wY_goOn_84
        refine ys_restOf (by omega) ?_
        rw [e4, cd_yl_e c]
        exact br_f (by decide) (ys_isPair_f (by decide) (by decide) (by decide) (br_t rfl (ys_thing (t := 8) (k := 0) rfl rfl (by decide) (by decide) hp)))
  · have hxf : ¬ zv_c s l = 17179869184 := by
      rw [zk_xF, zv_eq (by omega) v2 (by decide) (by decide)]
      intro z
      have := vp.2.2.2.2.2.1.mpr z.1
      have := vp.2.2.2.2.2.2.2 (by omega)
      omega
    refine ⟨(x_textLength, x_pairCount, x_placeCount, x_procedureCount, x_continuationCount, x_frameCount, 0, -1, cd_xv T n p, x_framePlaces m, x_frameNexts m, zv_c s l, x_applied, x_argumentCount, x_countedCount, x_consCount, x_entryCount, x_outputCount, x_itemCount, x_text, x_firsts, x_rests, x_placeNames, x_placeValues, x_placeOuters, x_procedureParts, x_procedurePlaces, x_continuationFrames, x_frameTasks, x_frameForms, x_frameValues, x_framePlaces, x_frameNexts, x_arguments, x_outputs, x_itemKinds, x_itemNumbers, x_openLists), (y_size, y_pairs, y_open, y_formCount, y_places, y_procedures, y_continuationCount, y_things, y_foundCount, y_argumentCount, zv_c t k, cd_yv T n p, y_whereins m, y_afters m, 1, -1000000003, y_counts, y_made, y_entered, y_printCount, y_itemCount, y_text, y_firsts, y_rests, y_heads, y_lasts, y_globals, y_placeNames, y_placeValues, y_placeNexts, y_procedureForms, y_procedurePlaces, y_continuations, y_whats, y_withs, y_whereins, y_soFars, y_afters, y_found, y_foundNexts, y_arguments, y_prints, y_itemKinds, y_itemNumbers, y_pile), fun post hp => ?_, fun post hp => ?_,
      Or.inr (Or.inl ⟨M, G, px, py, pl, np, nc, nf, fo, cn, et, pc, p, rk_ig h, by omega, rfl, rfl, rfl, rfl, ⟨h4, h5, ls_CF h3⟩, rfl, rfl, he, hn, fm_mono (by omega) hf⟩)⟩
    · refine br_f (ap_m1 (by omega)) ⟨hi, nm_r ((cl_R e).trans h7) ⟨hi, nm_r (cl_R e) ⟨hi, nm_r (cl_R e) ⟨hi, nm_r ((cl_R e).trans h2) (br_f (by decide) (br_f (by decide) (br_f (by decide) (br_t rfl ?_))))⟩⟩⟩⟩
      exact ⟨hin, nm_e (br_f hxf ⟨hin, nm_r ((cl_R hcl).trans e5) hp⟩)⟩
    · have h84 : wY_goOn_84 post (zv_c 3 (pz_AY T n 0 p)) (y_whereins m) 0 y_size y_pairs y_open y_formCount y_places y_procedures y_continuationCount y_things y_foundCount y_argumentCount (zv_c t k) y_form y_wherein (y_afters m) 0 (-1000000003) y_counts y_made y_entered y_printCount y_itemCount y_text y_firsts y_rests y_heads y_lasts y_globals y_placeNames y_placeValues y_placeNexts y_procedureForms y_procedurePlaces y_continuations y_whats y_withs y_whereins y_soFars y_afters y_found y_foundNexts y_arguments y_prints y_itemKinds y_itemNumbers y_pile := by
        unfold wY_goOn_84
        refine ys_restOf (by omega) (br_t rfl (ys_firstOf (by omega) ?_))
        rw [e3]
        exact hp
      refine ⟨hj, nm_r ((cl_R e).trans h6) ⟨hj, nm_r (cl_R e) ⟨hj, nm_r (cl_R e) ⟨hj, br_f ew0 ⟨hj, br_t ew ?_⟩⟩⟩⟩⟩
      refine ys_tag (by omega) v1 ?_
      by_cases z : t = 1
      · have hk : k < 2 := by rcases vK with w | w | w | w | w | w | w | w | w <;> omega
        exact br_t (by rw [z]; rfl) (br_f (by rw [zv_lo]; exact ne_I (b := 0) (by omega) (by omega) (by decide)) h84)
      · exact br_f (ne_I (b := 1) z (by omega) (by decide)) h84
end
