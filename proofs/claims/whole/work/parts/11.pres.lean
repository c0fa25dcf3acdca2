/-! what the parts of the relation keep -/
section
variable {T : Nat → Nat} {n np nc np' nc' py px pl pl' nf nf' fo fo' : Nat} {M M' : Nat → Nat → Prop} {G G' : Nat → Nat} {FY RY FX RX fnd gl pv xv pf xp : Nat → Int64} {fnx pn pe xn xo pp xq cy cx : Nat → Int32}
variable {wh we so af tk pc nx : Nat → Int32} {wi fm vl : Nat → Int64}
theorem en_mono {y x : Int32} (h : pl ≤ pl') (a : en_R pl y x) : en_R pl' y x := by
  rcases a with a | ⟨e, a, c⟩
  · exact Or.inl a
  · exact Or.inr ⟨e, by omega, c⟩
theorem fm_mono {f : Int32} (h : nf ≤ nf') (a : fm_N nf f) : fm_N nf' f := by
  rcases a with a | ⟨e, a, c⟩
  · exact Or.inl a
  · exact Or.inr ⟨e, by omega, c⟩
theorem so_mono {y : Int32} {x : Int64} (h : fo ≤ fo') (hG : ∀ k, k < fo → G' k = G k) (a : so_R G fo y x) : so_R G' fo' y x := by
  rcases a with a | ⟨e, a, c, d⟩
  · exact Or.inl a
  · exact Or.inr ⟨e, by omega, c, by rw [hG e a]; exact d⟩
theorem ct_mono (h : nf ≤ nf') (a : ct_OK nc nf cy cx) : ct_OK nc nf' cy cx := fun i hi => ⟨(a i hi).1, fm_mono h (a i hi).2⟩
theorem ct_push {f : Int32} (a : ct_OK nc nf cy cx) (h : fm_N nf f) : ct_OK (nc + 1) nf (upd cy nc f) (upd cx nc f) := by
  intro i hi
  by_cases z : i = nc
  · subst z
    rw [pk_us, pk_us]
    exact ⟨rfl, h⟩
  · rw [pk_un z, pk_un z]
    exact a i (by omega)
theorem pc_mono (h : pl ≤ pl') (a : pc_OK T n pl np pf pp xp xq) : pc_OK T n pl' np pf pp xp xq := fun i hi => ⟨en_mono h (a i hi).1, (a i hi).2⟩
theorem pc_push {p c : Nat} {y x : Int32} (a : pc_OK T n pl np pf pp xp xq) (he : en_R pl y x) (h1 : ls_P T n p) (h2 : p < n) (h3 : na_L T p c) (h4 : pz_nx T n p < n) (h5 : T (pz_nx T n p) ≠ 1) :
    pc_OK T n pl (np + 1) (vp_updL pf np (cd_yl T n p)) (upd pp np y) (vp_updL xp np (cd_xl T n p)) (upd xq np x) := by
  intro i hi
  by_cases z : i = np
  · subst z
    rw [pk_us, pk_us, pk_uLs, pk_uLs]
    exact ⟨he, p, c, h1, h2, rfl, rfl, h3, h4, h5⟩
  · rw [pk_un z, pk_un z, pk_uLn z, pk_uLn z]
    exact a i (by omega)
theorem pl_mono (hM : ∀ p q, M p q → M' p q) (h1 : np ≤ np') (h2 : nc ≤ nc') (a : pl_OK M np nc pl gl pn pv pe xn xv xo) : pl_OK M' np' nc' pl gl pn pv pe xn xv xo := by
  refine ⟨fun k hk => ?_, fun e he => ?_⟩
  · rcases a.1 k hk with h | h
    · exact Or.inl h
    · exact Or.inr (zv_V_mono hM h1 h2 h)
  · obtain ⟨b1, b2, b3, b4⟩ := a.2 e he
    exact ⟨b1, b2, zv_V_mono hM h1 h2 b3, b4⟩
theorem pl_new {k : Nat} {y x : Int64} {ey ex : Int32} (a : pl_OK M np nc pl gl pn pv pe xn xv xo) (h1 : 30 ≤ k) (h2 : k ≤ 39) (hV : zv_V M np nc y x) (he : en_R pl ey ex) :
    pl_OK M np nc (pl + 1) gl (upd pn pl (nI k)) (vp_updL pv pl y) (upd pe pl ey) (upd xn (pl + 10) (nI k)) (vp_updL xv (pl + 10) x) (upd xo (pl + 10) ex) := by
  refine ⟨fun k hk => ?_, fun e h => ?_⟩
  · rw [pk_uLn (by omega)]
    exact a.1 k hk
  · by_cases z : e = pl
    · subst z
      rw [pk_us, pk_us, pk_us, pk_us, pk_uLs, pk_uLs]
      exact ⟨⟨k, h1, h2, rfl⟩, rfl, hV, he⟩
    · rw [pk_un z, pk_un z, pk_uLn z, pk_un (by omega), pk_un (by omega), pk_uLn (by omega)]
      exact a.2 e (by omega)
theorem pl_glob {k : Nat} {y x : Int64} (a : pl_OK M np nc pl gl pn pv pe xn xv xo) (hk : k < 10) (hV : zv_V M np nc y x) :
    pl_OK M np nc pl (vp_updL gl k y) pn pv pe xn (vp_updL xv k x) xo := by
  refine ⟨fun i hi => ?_, fun e h => ?_⟩
  · by_cases z : i = k
    · subst z
      rw [pk_uLs, pk_uLs]
      exact Or.inr hV
    · rw [pk_uLn z, pk_uLn z]
      exact a.1 i hi
  · rw [pk_uLn (by omega)]
    exact a.2 e h
theorem pl_loc {k : Nat} {y x : Int64} (a : pl_OK M np nc pl gl pn pv pe xn xv xo) (hV : zv_V M np nc y x) :
    pl_OK M np nc pl gl pn (vp_updL pv k y) pe xn (vp_updL xv (k + 10) x) xo := by
  refine ⟨fun i hi => ?_, fun e h => ?_⟩
  · rw [pk_uLn (by omega)]
    exact a.1 i hi
  · by_cases z : e = k
    · subst z
      rw [pk_uLs, pk_uLs]
      obtain ⟨b1, b2, b3, b4⟩ := a.2 e h
      exact ⟨b1, b2, hV, b4⟩
    · rw [pk_uLn z, pk_uLn (by omega)]
      exact a.2 e h
theorem fr_mono (h1 : fo ≤ fo') (hG : ∀ k, k < fo → G' k = G k) (h2 : pl ≤ pl') (a : fr_OK T n G nf fo pl wh wi we so af tk fm vl pc nx) : fr_OK T n G' nf fo' pl' wh wi we so af tk fm vl pc nx := by
  intro i hi
  obtain ⟨b1, b2, b3, b4⟩ := a i hi
  refine ⟨en_mono h2 b1, b2, b3, ?_⟩
  rcases b4 with c | c | ⟨p, c1, c2, c3, c4, c5, c6⟩
  · exact Or.inl c
  · exact Or.inr (Or.inl c)
  · exact Or.inr (Or.inr ⟨p, c1, c2, c3, c4, c5, so_mono h1 hG c6⟩)
/-- a new frame -/
theorem fr_push {w f : Int32} {fy fx : Int64} {ey ex sy : Int32} {sx : Int64} (a : fr_OK T n G nf fo pl wh wi we so af tk fm vl pc nx) (he : en_R pl ey ex) (hf : fm_N nf f)
    (h : (∃ z p, z < 2 ∧ w = nI z ∧ ls_P T n p ∧ p < n ∧ T p ≠ 1 ∧ fy = cd_yl T n p ∧ fx = cd_xl T n p) ∨
      (∃ z k, 2 ≤ z ∧ z < 4 ∧ w = nI z ∧ 30 ≤ k ∧ k ≤ 39 ∧ fy = zv_c 4 k ∧ fx = zv_c 1 k) ∨
      (∃ p, w = 4 ∧ ls_P T n p ∧ fy = cd_yl T n p ∧ fx = cd_xl T n p ∧ so_R G fo sy sx)) :
    fr_OK T n G (nf + 1) fo pl (upd wh nf w) (vp_updL wi nf fy) (upd we nf ey) (upd so nf sy) (upd af nf f) (upd tk nf w) (vp_updL fm nf fx) (vp_updL vl nf sx) (upd pc nf ex) (upd nx nf f) := by
  intro i hi
  by_cases z : i = nf
  · subst z
    rw [pk_us, pk_us, pk_us, pk_us, pk_us, pk_us, pk_us, pk_uLs, pk_uLs, pk_uLs]
    refine ⟨he, hf, rfl, ?_⟩
    rcases h with ⟨z, p, c1, c2, c3⟩ | ⟨z, k, c1, c2, c3, c4⟩ | ⟨p, c1, c2⟩
    · exact Or.inl ⟨z, p, c1, c2, c2, c3⟩
    · exact Or.inr (Or.inl ⟨z, k, c1, c2, c3, c3, c4⟩)
    · exact Or.inr (Or.inr ⟨p, c1, c1, c2⟩)
  · rw [pk_un z, pk_un z, pk_un z, pk_un z, pk_un z, pk_un z, pk_un z, pk_uLn z, pk_uLn z, pk_uLn z]
    exact a i (by omega)
theorem fd_mono (hM : ∀ p q, M p q → M' p q) (hM' : ∀ p q, M' p q → M p q ∨ q = px) (h1 : np ≤ np') (h2 : nc ≤ nc') (a : fd_OK T n M np nc G fo px FX RX fnd fnx) : fd_OK T n M' np' nc' G fo px FX RX fnd fnx := by
  intro k hk
  obtain ⟨b1, b2, b3, b4, b5⟩ := a k hk
  refine ⟨b1, fun p z => ?_, b3, zv_V_mono hM h1 h2 b4, b5⟩
  rcases hM' p _ z with c | c
  · exact b2 p c
  · omega
/-- X's new pair at px -/
theorem fd_up {a' b' : Int64} {px' : Nat} (h : px ≤ px') (a : fd_OK T n M np nc G fo px FX RX fnd fnx) : fd_OK T n M np nc G fo px' (vp_updL FX px a') (vp_updL RX px b') fnd fnx := by
  intro k hk
  obtain ⟨b1, b2, b3, b4, b5⟩ := a k hk
  rw [pk_uLn (by omega), pk_uLn (by omega)]
  exact ⟨by omega, b2, b3, b4, b5⟩
theorem fd_push {y x : Int64} {sy : Int32} {sx : Int64} (hp : hp_OK T n M np nc py px FY RY FX RX) (a : fd_OK T n M np nc G fo px FX RX fnd fnx) (hV : zv_V M np nc y x) (hs : so_R G fo sy sx) :
    fd_OK T n M np nc (fun k => if k = fo then px else G k) (fo + 1) (px + 1) (vp_updL FX px x) (vp_updL RX px sx) (vp_updL fnd fo y) (upd fnx fo sy) := by
  intro k hk
  by_cases z : k = fo
  · subst z
    have e : (fun i => if i = k then px else G i) k = px := if_pos rfl
    rw [e, pk_uLs, pk_uLs, pk_uLs, pk_us]
    refine ⟨by omega, fun p z => ?_, fun r j h z => ?_, hV, so_mono (Nat.le_refl _) (fun i hi => if_neg (by omega)) hs⟩
    · have := (hp.1 _ _ z).2; omega
    · have := (hp.2.2.2.2.2 r j h).2; omega
  · obtain ⟨b1, b2, b3, b4, b5⟩ := a k (by omega)
    have e : (fun i => if i = fo then px else G i) k = G k := if_neg z
    rw [e, pk_uLn z, pk_uLn (by omega), pk_uLn (by omega), pk_un z]
    exact ⟨by omega, b2, b3, b4, so_mono (Nat.le_refl _) (fun i hi => if_neg (by omega)) b5⟩
theorem hp_mono (h1 : np ≤ np') (h2 : nc ≤ nc') (a : hp_OK T n M np nc py px FY RY FX RX) : hp_OK T n M np' nc' py px FY RY FX RX := by
  obtain ⟨b1, b2, b3, b4, b5, b6⟩ := a
  exact ⟨b1, b2, b3, fun p q h => ⟨zv_V_mono (fun _ _ h => h) h1 h2 (b4 p q h).1, zv_V_mono (fun _ _ h => h) h1 h2 (b4 p q h).2⟩, b5, b6⟩
/-- a pair of X's own -/
theorem hp_own {a' b' : Int64} (a : hp_OK T n M np nc py px FY RY FX RX) : hp_OK T n M np nc py (px + 1) FY RY (vp_updL FX px a') (vp_updL RX px b') := by
  obtain ⟨b1, b2, b3, b4, b5, b6⟩ := a
  refine ⟨fun p q h => ?_, b2, b3, fun p q h => ?_, b5, fun r j h => ?_⟩
  · have := b1 p q h; omega
  · have := b1 p q h
    rw [pk_uLn (by omega), pk_uLn (by omega)]
    exact b4 p q h
  · have := b6 r j h; omega
theorem cd_own {a' b' : Int64} (hp : hp_OK T n M np nc py px FY RY FX RX) (a : cd_OK T n FY RY FX RX) : cd_OK T n FY RY (vp_updL FX px a') (vp_updL RX px b') := by
  refine ⟨fun p h1 h2 h3 h4 => ?_, fun j h1 h2 h3 => ?_⟩
  · have := (hp.2.2.2.2.2 0 p ⟨h1, Or.inl ⟨rfl, h2, h3⟩⟩).2
    rw [pk_uLn (by omega), pk_uLn (by omega)]
    exact a.1 p h1 h2 h3 h4
  · have := (hp.2.2.2.2.2 1 j ⟨h1, Or.inr ⟨Or.inl rfl, h2⟩⟩).2
    have := (hp.2.2.2.2.2 2 j ⟨h1, Or.inr ⟨Or.inr rfl, h2⟩⟩).2
    rw [pk_uLn (by omega), pk_uLn (by omega), pk_uLn (by omega), pk_uLn (by omega)]
    exact a.2 j h1 h2 h3
theorem cd_ownY {a' b' : Int64} (hp : hp_OK T n M np nc py px FY RY FX RX) (a : cd_OK T n FY RY FX RX) : cd_OK T n (vp_updL FY py a') (vp_updL RY py b') FX RX := by
  refine ⟨fun p h1 h2 h3 h4 => ?_, fun j h1 h2 h3 => ?_⟩
  · have := (hp.2.2.2.2.2 0 p ⟨h1, Or.inl ⟨rfl, h2, h3⟩⟩).1
    rw [pk_uLn (by omega), pk_uLn (by omega)]
    exact a.1 p h1 h2 h3 h4
  · have := (hp.2.2.2.2.2 1 j ⟨h1, Or.inr ⟨Or.inl rfl, h2⟩⟩).1
    have := (hp.2.2.2.2.2 2 j ⟨h1, Or.inr ⟨Or.inr rfl, h2⟩⟩).1
    rw [pk_uLn (by omega), pk_uLn (by omega), pk_uLn (by omega), pk_uLn (by omega)]
    exact a.2 j h1 h2 h3
theorem cd_own' {a b a' b' : Int64} (hp : hp_OK T n M np nc py px FY RY FX RX) (h : cd_OK T n FY RY FX RX) : cd_OK T n (vp_updL FY py a) (vp_updL RY py b) (vp_updL FX px a') (vp_updL RX px b') := by
  refine ⟨fun p h1 h2 h3 h4 => ?_, fun j h1 h2 h3 => ?_⟩
  · have := hp.2.2.2.2.2 0 p ⟨h1, Or.inl ⟨rfl, h2, h3⟩⟩
    rw [pk_uLn (by omega), pk_uLn (by omega), pk_uLn (by omega), pk_uLn (by omega)]
    exact h.1 p h1 h2 h3 h4
  · have := hp.2.2.2.2.2 1 j ⟨h1, Or.inr ⟨Or.inl rfl, h2⟩⟩
    have := hp.2.2.2.2.2 2 j ⟨h1, Or.inr ⟨Or.inr rfl, h2⟩⟩
    rw [pk_uLn (by omega), pk_uLn (by omega), pk_uLn (by omega), pk_uLn (by omega), pk_uLn (by omega), pk_uLn (by omega), pk_uLn (by omega), pk_uLn (by omega)]
    exact h.2 j h1 h2 h3
def hp_M (M : Nat → Nat → Prop) (py px p q : Nat) : Prop := M p q ∨ (p = py ∧ q = px)
/-- cons -/
theorem hp_cons {a b a' b' : Int64} (h : hp_OK T n M np nc py px FY RY FX RX) (hV : zv_V M np nc a a') (hW : zv_V M np nc b b') :
    hp_OK T n (hp_M M py px) np nc (py + 1) (px + 1) (vp_updL FY py a) (vp_updL RY py b) (vp_updL FX px a') (vp_updL RX px b') := by
  obtain ⟨b1, b2, b3, b4, b5, b6⟩ := h
  have hm : ∀ p q, M p q → hp_M M py px p q := fun p q h => Or.inl h
  refine ⟨fun p q h => ?_, fun p q q' h h' => ?_, fun p p' q h h' => ?_, fun p q h => ?_, fun r j h h' => ⟨fun q z => ?_, fun p z => ?_⟩, fun r j h => ?_⟩
  · rcases h with h | h
    · have := b1 p q h; omega
    · omega
  · rcases h with h | h
    · rcases h' with h' | h'
      · exact b2 p q q' h h'
      · have := b1 p q h; omega
    · rcases h' with h' | h'
      · have := b1 p q' h'; omega
      · omega
  · rcases h with h | h
    · rcases h' with h' | h'
      · exact b3 p p' q h h'
      · have := b1 p q h; omega
    · rcases h' with h' | h'
      · have := b1 p' q h'; omega
      · omega
  · rcases h with h | ⟨rfl, rfl⟩
    · have := b1 p q h
      rw [pk_uLn (by omega), pk_uLn (by omega), pk_uLn (by omega), pk_uLn (by omega)]
      exact ⟨zv_V_mono hm (Nat.le_refl _) (Nat.le_refl _) (b4 p q h).1, zv_V_mono hm (Nat.le_refl _) (Nat.le_refl _) (b4 p q h).2⟩
    · rw [pk_uLs, pk_uLs, pk_uLs, pk_uLs]
      exact ⟨zv_V_mono hm (Nat.le_refl _) (Nat.le_refl _) hV, zv_V_mono hm (Nat.le_refl _) (Nat.le_refl _) hW⟩
  · rcases z with z | z
    · exact (b5 r j h h').1 q z
    · have := b6 r j h; omega
  · rcases z with z | z
    · exact (b5 r j h h').2 p z
    · have := b6 r j h; omega
  · have := b6 r j h; omega
/-- setcar, setcdr: any change of a pair of data -/
theorem hp_set {p q : Nat} {a b a' b' : Int64} (h : hp_OK T n M np nc py px FY RY FX RX) (hM : M p q) (hV : zv_V M np nc a a') (hW : zv_V M np nc b b') :
    hp_OK T n M np nc py px (vp_updL FY p a) (vp_updL RY p b) (vp_updL FX q a') (vp_updL RX q b') := by
  obtain ⟨b1, b2, b3, b4, b5, b6⟩ := h
  refine ⟨b1, b2, b3, fun p' q' h => ?_, b5, b6⟩
  by_cases z : p' = p
  · subst z
    have := b2 _ _ _ hM h
    subst this
    rw [pk_uLs, pk_uLs, pk_uLs, pk_uLs]
    exact ⟨hV, hW⟩
  · have z' : q' ≠ q := fun w => z (b3 _ _ _ h (w ▸ hM))
    rw [pk_uLn z, pk_uLn z, pk_uLn z', pk_uLn z']
    exact b4 p' q' h
theorem cd_set {p q : Nat} {a b a' b' : Int64} (hp : hp_OK T n M np nc py px FY RY FX RX) (hM : M p q) (h : cd_OK T n FY RY FX RX) :
    cd_OK T n (vp_updL FY p a) (vp_updL RY p b) (vp_updL FX q a') (vp_updL RX q b') := by
  have key : ∀ r j, pz_Nd T n r j → ¬ pz_Dn T n r j → pz_AY T n r j ≠ p ∧ pz_AX T n r j ≠ q := by
    intro r j h1 h2
    obtain ⟨c1, c2⟩ := hp.2.2.2.2.1 r j h1 h2
    exact ⟨fun z => c1 q (z ▸ hM), fun z => c2 p (z ▸ hM)⟩
  refine ⟨fun i h1 h2 h3 h4 => ?_, fun j h1 h2 h3 => ?_⟩
  · obtain ⟨c1, c2⟩ := key 0 i ⟨h1, Or.inl ⟨rfl, h2, h3⟩⟩ (fun z => h4 (z.2.1 rfl))
    rw [pk_uLn c1, pk_uLn c1, pk_uLn c2, pk_uLn c2]
    exact h.1 i h1 h2 h3 h4
  · obtain ⟨c1, c2⟩ := key 1 j ⟨h1, Or.inr ⟨Or.inl rfl, h2⟩⟩ (fun z => z.2.2 (by omega) h3)
    obtain ⟨c3, c4⟩ := key 2 j ⟨h1, Or.inr ⟨Or.inr rfl, h2⟩⟩ (fun z => z.2.2 (by omega) h3)
    rw [pk_uLn c1, pk_uLn c1, pk_uLn c2, pk_uLn c2, pk_uLn c3, pk_uLn c3, pk_uLn c4, pk_uLn c4]
    exact h.2 j h1 h2 h3
theorem fd_set {p q : Nat} {a' b' : Int64} (hM : M p q) (a : fd_OK T n M np nc G fo px FX RX fnd fnx) : fd_OK T n M np nc G fo px (vp_updL FX q a') (vp_updL RX q b') fnd fnx := by
  intro k hk
  obtain ⟨b1, b2, b3, b4, b5⟩ := a k hk
  have z : G k ≠ q := fun z => b2 p (z ▸ hM)
  rw [pk_uLn z, pk_uLn z]
  exact ⟨b1, b2, b3, b4, b5⟩
end
