/-! a procedure is applied -/
section
variable {x_textLength : Int32} {x_pairCount : Int32} {x_placeCount : Int32} {x_procedureCount : Int32} {x_continuationCount : Int32} {x_frameCount : Int32} {x_state : Int32} {x_ending : Int32} {x_form : Int64} {x_environment : Int32} {x_frame : Int32} {x_value : Int64} {x_applied : Int64} {x_argumentCount : Int32} {x_countedCount : Int32} {x_consCount : Int32} {x_entryCount : Int32} {x_outputCount : Int32} {x_itemCount : Int32} {x_text : Nat → Int32} {x_firsts : Nat → Int64} {x_rests : Nat → Int64} {x_placeNames : Nat → Int32} {x_placeValues : Nat → Int64} {x_placeOuters : Nat → Int32} {x_procedureParts : Nat → Int64} {x_procedurePlaces : Nat → Int32} {x_continuationFrames : Nat → Int32} {x_frameTasks : Nat → Int32} {x_frameForms : Nat → Int64} {x_frameValues : Nat → Int64} {x_framePlaces : Nat → Int32} {x_frameNexts : Nat → Int32} {x_arguments : Nat → Int64} {x_outputs : Nat → Int32} {x_itemKinds : Nat → Int32} {x_itemNumbers : Nat → Int32} {x_openLists : Nat → Int64}
variable {y_size : Int32} {y_pairs : Int32} {y_open : Int32} {y_formCount : Int32} {y_places : Int32} {y_procedures : Int32} {y_continuationCount : Int32} {y_things : Int32} {y_foundCount : Int32} {y_argumentCount : Int32} {y_value : Int64} {y_form : Int64} {y_wherein : Int32} {y_next : Int32} {y_working : Int32} {y_ending : Int32} {y_counts : Int32} {y_made : Int32} {y_entered : Int32} {y_printCount : Int32} {y_itemCount : Int32} {y_text : Nat → Int32} {y_firsts : Nat → Int64} {y_rests : Nat → Int64} {y_heads : Nat → Int32} {y_lasts : Nat → Int32} {y_globals : Nat → Int64} {y_placeNames : Nat → Int32} {y_placeValues : Nat → Int64} {y_placeNexts : Nat → Int32} {y_procedureForms : Nat → Int64} {y_procedurePlaces : Nat → Int32} {y_continuations : Nat → Int32} {y_whats : Nat → Int32} {y_withs : Nat → Int64} {y_whereins : Nat → Int32} {y_soFars : Nat → Int32} {y_afters : Nat → Int32} {y_found : Nat → Int64} {y_foundNexts : Nat → Int32} {y_arguments : Nat → Int64} {y_prints : Nat → Int32} {y_itemKinds : Nat → Int32} {y_itemNumbers : Nat → Int32} {y_pile : Nat → Int64}
variable {T : Nat → Nat} {n px py np nc nf fo co cn et pc : Nat} {M : Nat → Nat → Prop} {G : Nat → Nat}
theorem na_pos {p c : Nat} (hR : pz_Rd T n) (hp : p < n) (hl : ls_P T n p) (h : na_L T p c) : ∀ i, i ≤ c → p + 1 + i < n ∧ ¬ pz_mk T (p + 1 + i) ∧ ¬ pz_D0 T (p + 1 + i) ∧ 1 ≤ pz_dd T (p + 1 + i) := by
  intro i
  induction i with
  | zero =>
    intro _
    obtain ⟨d1, d2, d3, _⟩ := cd_in hR hp h.1 (ls_CF hl)
    exact ⟨d1, d2, d3, by rw [Nat.add_zero, pz_dd_o h.1]; omega⟩
  | succ i ih =>
    intro hi
    obtain ⟨a1, a2, a3, a4⟩ := ih (by omega)
    have hn := h.2.2.1 i (by omega)
    obtain ⟨b1, b2⟩ := pz_nx_ok hR a1 (show T (p + 1 + i) ≠ 1 by omega)
    rw [pz_nx_a (by omega)] at b1 b2
    rw [show p + 1 + (i + 1) = p + 1 + i + 1 by omega]
    have hd : 1 ≤ pz_dd T (p + 1 + i + 1) := by rw [pz_Fm_dd b2]; exact a4
    exact ⟨na_q hR hd b1, pz_Fm_nmk b2, pz_D0n_e b2 a3, hd⟩
theorem na_len {p c : Nat} (hR : pz_Rd T n) (hp : p < n) (hl : ls_P T n p) (h : na_L T p c) : ∀ d i, i + d = c → pz_Ln T n d (p + 1 + i) := by
  intro d
  induction d with
  | zero =>
    intro i hi z
    have : i = c := by omega
    subst this
    exact z.2 h.2.2.2
  | succ d ih =>
    intro i hi
    have hn := h.2.2.1 i (by omega)
    have := ih (i + 1) (by omega)
    rw [show p + 1 + (i + 1) = p + 1 + i + 1 by omega] at this
    exact ⟨(na_pos hR hp hl h i (by omega)).1, by omega, by rw [pz_nx_a (by omega)]; exact this⟩
theorem pl_loop {p c kk : Nat} (hL : na_L T p c) (hp : p < n) (h1 : T p ≠ 1) (hl : ls_P T n p) (hb1 : pz_nx T n p < n) (hb2 : T (pz_nx T n p) ≠ 1) (harg : ∀ i, i < c → zv_V M np nc (y_arguments i) (x_arguments i)) (hpf : y_procedureForms kk = cd_yl T n p) (hkk : kk < 801) (hb : fo ≤ co + 1 ∧ nf ≤ co) (hf : x_frame = y_next) (hf2 : fm_N nf y_next) :
    ∀ d i, i + d = c → ∀ (pl : Nat) (w ex : Int32) (xa : Nat → Int32) (xb : Nat → Int64) (xc ya : Nat → Int32) (yb : Nat → Int64) (yc : Nat → Int32),
      sm_R T n M G px py pl np nc nf fo co cn et pc (x_textLength, nI px, nI (pl + 10), x_procedureCount, x_continuationCount, x_frameCount, x_state, -1, x_form, ex, x_frame, x_value, x_applied, nI c, x_countedCount, x_consCount, x_entryCount, x_outputCount, x_itemCount, x_text, x_firsts, x_rests, xa, xb, xc, x_procedureParts, x_procedurePlaces, x_continuationFrames, x_frameTasks, x_frameForms, x_frameValues, x_framePlaces, x_frameNexts, x_arguments, x_outputs, x_itemKinds, x_itemNumbers, x_openLists) (y_size, y_pairs, y_open, y_formCount, nI pl, y_procedures, y_continuationCount, y_things, y_foundCount, nI c, y_value, y_form, y_wherein, y_next, y_working, -1000000003, y_counts, y_made, y_entered, y_printCount, y_itemCount, y_text, y_firsts, y_rests, y_heads, y_lasts, y_globals, ya, yb, yc, y_procedureForms, y_procedurePlaces, y_continuations, y_whats, y_withs, y_whereins, y_soFars, y_afters, y_found, y_foundNexts, y_arguments, y_prints, y_itemKinds, y_itemNumbers, y_pile) →
      pl + d ≤ 4 * co → en_R pl w ex →
      ∃ u' v', (∀ post : SX → Prop, post u' → wX_enterProcedure_49 post (cd_xl T n p) (d + 1) (cd_xl T n (p + 1 + i)) (nI i) x_textLength (nI px) (nI (pl + 10)) x_procedureCount x_continuationCount x_frameCount x_state (-1) x_form ex x_frame x_value x_applied (nI c) x_countedCount x_consCount x_entryCount x_outputCount x_itemCount x_text x_firsts x_rests xa xb xc x_procedureParts x_procedurePlaces x_continuationFrames x_frameTasks x_frameForms x_frameValues x_framePlaces x_frameNexts x_arguments x_outputs x_itemKinds x_itemNumbers x_openLists) ∧
        (∀ post : SY → Prop, post v' → wY_apply_55 post (nI kk) y_size y_pairs y_open y_formCount y_procedures y_continuationCount y_things y_foundCount (nI c) y_value y_form y_wherein y_next y_working (-1000000003) y_counts y_made y_entered y_printCount y_itemCount (d + 1) (cd_yl T n (p + 1 + i)) w (nI i) (nI pl) y_text y_firsts y_rests y_heads y_lasts y_globals ya yb yc y_procedureForms y_procedurePlaces y_continuations y_whats y_withs y_whereins y_soFars y_afters y_found y_foundNexts y_arguments y_prints y_itemKinds y_itemNumbers y_pile) ∧ sm_F T n co u' v' := by
  intro d
  induction d with
  | zero =>
    intro i hi pl w ex xa xb xc ya yb yc h hpl he
    have : i = c := by omega
    subst this
    have hr := h
    obtain ⟨a0, _, _, b0, c1, c2, _⟩ := hr
    have hR := a0.1
    obtain ⟨e1, e2, e3, e4, e5, e6⟩ := cd_cell c1 c2.1.2.2.2.2.2 hp h1 hl.2.2 (pz_CL_nD0 hl.2.1)
    obtain ⟨u', v', hX, hY, hF⟩ := sm_all (w := w) h rfl rfl hb he hf hf2 (ls_nx hR hl hp h1) hb1 hb2
    have hcl : (zv_c 2 (pz_AX T n 0 p)).toInt32.toNatClampNeg = pz_AX T n 0 p := zv_cl (by omega)
    have ek : (nI kk).toNatClampNeg = kk := nI_clamp (by omega)
    refine ⟨u', v', fun post hpo => ?_, fun post hpo => ?_, hF⟩
    · refine br_t (nI_le (Nat.le_refl _) (by have := hL.2.1; omega)) ?_
      rw [cd_xl_p hp h1]
      refine ⟨zv_in (by omega) (by decide), ?_⟩
      rw [hcl, e6]
      refine hX _ ?_
      obtain ⟨x_textLength, x_pairCount, x_placeCount, x_procedureCount, x_continuationCount, x_frameCount, x_state, x_ending, x_form, x_environment, x_frame, x_value, x_applied, x_argumentCount, x_countedCount, x_consCount, x_entryCount, x_outputCount, x_itemCount, x_text, x_firsts, x_rests, x_placeNames, x_placeValues, x_placeOuters, x_procedureParts, x_procedurePlaces, x_continuationFrames, x_frameTasks, x_frameForms, x_frameValues, x_framePlaces, x_frameNexts, x_arguments, x_outputs, x_itemKinds, x_itemNumbers, x_openLists⟩ := u'
      exact hpo
    · refine br_t (nI_le (Nat.le_refl _) (by have := hL.2.1; omega)) ⟨vp_in_nI hkk (by decide), ?_⟩
      rw [ek, hpf, cd_yl_p hp h1]
      refine ys_restOf (by omega) ?_
      rw [e4]
      refine hY _ ?_
      obtain ⟨y_size, y_pairs, y_open, y_formCount, y_places, y_procedures, y_continuationCount, y_things, y_foundCount, y_argumentCount, y_value, y_form, y_wherein, y_next, y_working, y_ending, y_counts, y_made, y_entered, y_printCount, y_itemCount, y_text, y_firsts, y_rests, y_heads, y_lasts, y_globals, y_placeNames, y_placeValues, y_placeNexts, y_procedureForms, y_procedurePlaces, y_continuations, y_whats, y_withs, y_whereins, y_soFars, y_afters, y_found, y_foundNexts, y_arguments, y_prints, y_itemKinds, y_itemNumbers, y_pile⟩ := v'
      exact hpo
  | succ d ih =>
    intro i hi pl w ex xa xb xc ya yb yc h hpl he
    have hr := h
    obtain ⟨a0, _, _, b0, c1, c2, _⟩ := hr
    have hR := a0.1
    have hn := hL.2.2.1 i (by omega)
    have hc4 := hL.2.1
    obtain ⟨q1, q2, q3, _⟩ := na_pos hR hp hl hL i (by omega)
    have q4 : T (p + 1 + i) ≠ 1 := by omega
    obtain ⟨e1, e2, e3, e4, e5, e6⟩ := cd_cell c1 c2.1.2.2.2.2.2 q1 q4 q2 q3
    have hnx : pz_nx T n (p + 1 + i) = p + 1 + (i + 1) := by rw [pz_nx_a (by omega)]; omega
    rw [hnx] at e4 e6
    have hxn : cd_xv T n (p + 1 + i) = zv_c 1 (T (p + 1 + i)) := by
      rw [cd_xv_a (by omega)]
      unfold zv_xA
      rw [if_neg (by omega), if_neg (by omega)]
    have hyn : cd_yv T n (p + 1 + i) = zv_c 4 (T (p + 1 + i)) := by
      rw [cd_yv_a (by omega)]
      unfold zv_yA
      rw [if_neg (by omega), if_neg (by omega)]
    rw [hxn] at e5
    rw [hyn] at e3
    have hin : vp_in (zv_c 2 (pz_AX T n 0 (p + 1 + i))).toInt32 1400 := zv_in (by omega) (by decide)
    have hcl : (zv_c 2 (pz_AX T n 0 (p + 1 + i))).toInt32.toNatClampNeg = pz_AX T n 0 (p + 1 + i) := zv_cl (by omega)
    have ei : (nI i).toNatClampNeg = i := nI_clamp (by omega)
    have ep : (nI pl).toNatClampNeg = pl := nI_clamp (by omega)
    have ep' : (nI (pl + 10)).toNatClampNeg = pl + 10 := nI_clamp (by omega)
    have hk := rk_place (k := T (p + 1 + i)) (ey := w) (ex := ex) h (by omega) hn.1 hn.2 (harg i (by omega)) he
    obtain ⟨u', v', hX, hY, hF⟩ := ih (i + 1) (by omega) (pl + 1) (nI pl) (nI (pl + 10)) _ _ _ _ _ _ (rk_ig hk) (by omega) (Or.inr ⟨pl, by omega, rfl, rfl⟩)
    have hip : vp_in (nI (pl + 10)) 2500 := vp_in_nI (by omega) (by decide)
    have hiq : vp_in (nI pl) 4000 := vp_in_nI (by omega) (by decide)
    refine ⟨u', v', fun post hpo => ?_, fun post hpo => ?_, hF⟩
    · rw [cd_xl_p q1 q4]
      refine br_f (nI_ge (by omega) (by omega)) ⟨hin, vp_in_nI (by omega) (by decide), ?_⟩
      rw [hcl, ei, e5, zv_lo 1]
      have hrec := hX post hpo
      rw [show pl + 1 + 10 = pl + 10 + 1 by omega] at hrec
      refine br_t (nI_lt (b := 2500) (by omega) (by decide)) (nm_r (nI_1 (pl + 10)) ⟨hip, nm_r (cl_I ep') ⟨hip, nm_r (cl_L ep') ⟨hip, nm_r (cl_I ep') ⟨hin, nm_r e6 (nm_r (nI_1 i) hrec)⟩⟩⟩⟩)
    · rw [cd_yl_p q1 q4]
      refine br_f (nI_ge (by omega) (by omega)) (ys_firstOf (by omega) ?_)
      rw [e3, zv_lo 4]
      refine ⟨hiq, nm_r (cl_I ep) ⟨vp_in_nI (by omega) (by decide), hiq, ?_⟩⟩
      rw [ei]
      refine nm_r (cl_L ep) ⟨hiq, nm_r (cl_I ep) (nm_r (nI_1 pl) (ys_restOf (by omega) ?_))⟩
      rw [e4]
      exact nm_r (nI_1 i) (hY post hpo)
theorem ap_proc {pl k ac : Nat} (h : sm_R T n M G px py pl np nc nf fo co cn et pc (x_textLength, x_pairCount, x_placeCount, x_procedureCount, x_continuationCount, x_frameCount, x_state, -1, x_form, x_environment, x_frame, x_value, x_applied, nI ac, x_countedCount, x_consCount, x_entryCount, x_outputCount, x_itemCount, x_text, x_firsts, x_rests, x_placeNames, x_placeValues, x_placeOuters, x_procedureParts, x_procedurePlaces, x_continuationFrames, x_frameTasks, x_frameForms, x_frameValues, x_framePlaces, x_frameNexts, x_arguments, x_outputs, x_itemKinds, x_itemNumbers, x_openLists) (y_size, y_pairs, y_open, y_formCount, y_places, y_procedures, y_continuationCount, y_things, y_foundCount, nI ac, y_value, y_form, y_wherein, y_next, y_working, -1000000003, y_counts, y_made, y_entered, y_printCount, y_itemCount, y_text, y_firsts, y_rests, y_heads, y_lasts, y_globals, y_placeNames, y_placeValues, y_placeNexts, y_procedureForms, y_procedurePlaces, y_continuations, y_whats, y_withs, y_whereins, y_soFars, y_afters, y_found, y_foundNexts, y_arguments, y_prints, y_itemKinds, y_itemNumbers, y_pile)) (hb : fo ≤ co + 1 ∧ nf ≤ co) (hpl : pl + 4 ≤ 4 * co) (hac : ac ≤ 800) (hf : x_frame = y_next) (hf2 : fm_N nf y_next) (hk : k < np) (harg : ∀ i, i < ac → zv_V M np nc (y_arguments i) (x_arguments i)) :
    ∃ u' v', (∀ post : SX → Prop, post u' → wpX_enterProcedure post (x_textLength, x_pairCount, x_placeCount, x_procedureCount, x_continuationCount, x_frameCount, x_state, -1, x_form, x_environment, x_frame, x_value, x_applied, nI ac, x_countedCount, x_consCount, x_entryCount, x_outputCount, x_itemCount, x_text, x_firsts, x_rests, x_placeNames, x_placeValues, x_placeOuters, x_procedureParts, x_procedurePlaces, x_continuationFrames, x_frameTasks, x_frameForms, x_frameValues, x_framePlaces, x_frameNexts, x_arguments, x_outputs, x_itemKinds, x_itemNumbers, x_openLists) (nI k)) ∧ (∀ post : SY → Prop, post v' → wpY_apply post (y_size, y_pairs, y_open, y_formCount, y_places, y_procedures, y_continuationCount, y_things, y_foundCount, nI ac, y_value, y_form, y_wherein, y_next, y_working, -1000000003, y_counts, y_made, y_entered, y_printCount, y_itemCount, y_text, y_firsts, y_rests, y_heads, y_lasts, y_globals, y_placeNames, y_placeValues, y_placeNexts, y_procedureForms, y_procedurePlaces, y_continuations, y_whats, y_withs, y_whereins, y_soFars, y_afters, y_found, y_foundNexts, y_arguments, y_prints, y_itemKinds, y_itemNumbers, y_pile) (zv_c 5 k)) ∧ sm_to T n co u' v' := by
  have hr := h
  obtain ⟨a0, ⟨n1, n2, n3, n4, n5, n6, n7, n8, n9, n10, n11⟩, ⟨m1, m2, m3, m4, m5, m6, m7, m8, m9, m10, m11⟩, b0, c1, c2, c3, c4, c5, c6, c7, c8⟩ := hr
  obtain ⟨g1, p, c, g2, g3, g4, g5, g6, g7, g8⟩ := c6 k hk
  have hR := a0.1
  have hbb := c2.1.2.2.2.2.2
  have h1 : T p ≠ 1 := by have := g6.1; omega
  have hc4 := g6.2.1
  obtain ⟨e1, e2, e3, e4, e5, e6⟩ := cd_cell c1 hbb g3 h1 g2.2.2 (pz_CL_nD0 g2.2.1)
  rw [cd_yv_0 g6.1] at e3
  rw [cd_xv_0 g6.1] at e5
  obtain ⟨d1, d2, d3, _⟩ := cd_in hR g3 g6.1 (ls_CF g2)
  have hLn := na_len hR g3 g2 g6 c 0 (by omega)
  rw [Nat.add_zero] at hLn
  have hchX := cd_chX hR c1 hbb c (p + 1) hLn d2 d3
  have hchY := cd_chY hR c1 hbb c (p + 1) hLn d2 d3
  have ek : (nI k).toNatClampNeg = k := nI_clamp (by omega)
  have hik : vp_in (nI k) 700 := vp_in_nI (by omega) (by decide)
  have hik' : vp_in (zv_c 5 k).toInt32 801 := zv_in (by omega) (by decide)
  have ek' : (zv_c 5 k).toInt32.toNatClampNeg = k := zv_cl (by omega)
  have hcl : (zv_c 2 (pz_AX T n 0 p)).toInt32.toNatClampNeg = pz_AX T n 0 p := zv_cl (by omega)
  have g5' := g5
  have g4' := g4
  rw [cd_xl_p g3 h1] at g5'
  rw [cd_yl_p g3 h1] at g4'
  subst n2 n3 m3
  by_cases hca : c = ac
  · subst hca
    obtain ⟨u', v', hX, hY, hF⟩ := pl_loop (kk := k) g6 g3 h1 g2 g7 g8 harg g4 (by omega) hb hf hf2 c 0 (by omega) pl (y_procedurePlaces k) (x_procedurePlaces k) _ _ _ _ _ _ (rk_ig h) (by omega) g1
    rw [Nat.add_zero] at hX hY
    refine ⟨u', v', fun post hp => ?_, fun post hp => ?_, Or.inr (Or.inl hF)⟩
    · refine ⟨hik, nm_r ((cl_R ek).trans g5') ⟨zv_in (by omega) (by decide), nm_r ((cl_R hcl).trans e5) (xs_len_ch (by omega) hchX (br_t rfl ⟨hik, nm_r (cl_R ek) ⟨c + 1, ?_⟩⟩))⟩⟩
      rw [← cd_xl_p g3 h1]
      exact hX post hp
    · unfold wpY_apply
      refine ys_tag (by decide) (by omega) (br_t rfl ⟨hik', ?_⟩)
      rw [ek', g4']
      refine ys_firstOf (by omega) ?_
      rw [e3]
      refine ys_len_ch (by omega) hchY (br_t rfl ⟨hik', nm_r rfl ⟨c + 1, ?_⟩⟩)
      rw [zv_lo]
      exact hY post hp
  · have hE := sm_E_R (e := 6) h (by decide) (by decide)
    refine ⟨_, _, fun post hp => ?_, fun post hp => ?_, Or.inl hE⟩
    · exact ⟨hik, nm_r ((cl_R ek).trans g5') ⟨zv_in (by omega) (by decide), nm_r ((cl_R hcl).trans e5) (xs_len_ch (by omega) hchX (br_f (ne_I hca (by omega) (by omega)) hp))⟩⟩
    · unfold wpY_apply
      refine ys_tag (by decide) (by omega) (br_t rfl ⟨hik', ?_⟩)
      rw [ek', g4']
      refine ys_firstOf (by omega) ?_
      rw [e3]
      exact ys_len_ch (by omega) hchY (br_f (ne_I hca (by omega) (by omega)) hp)
end
