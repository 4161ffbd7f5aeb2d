section SPJL
variable {l : Launch} {D : va_G} {cid : Nat → ClassId} {Z : Nat → Prop} {f : HF}
theorem sp_max {x y : Int32} : CS l D cid m_J_max [.int x, .int y] f (fun v f' => v = some (.int (mx x y)) ∧ f' = f) := by
  intro X hX
  refine b_J_max_0 hX _ _ _ _ _ (i_iload rfl <| i_iload rfl <| i_cmp ?_ ?_)
  · intro h
    refine b_J_max_9 hX _ _ _ _ _ (i_iload rfl <| i_end ?_)
    refine b_J_max_10 hX _ _ _ _ _ (i_iret ?_)
    exact ⟨by rw [mx, if_pos h], rfl⟩
  · intro h
    refine b_J_max_5 hX _ _ _ _ _ (i_iload rfl <| i_end ?_)
    refine b_J_max_10 hX _ _ _ _ _ (i_iret ?_)
    exact ⟨by rw [mx, if_neg h], rfl⟩
theorem sp_min {x y : Int32} : CS l D cid m_J_min [.int x, .int y] f (fun v f' => v = some (.int (mn x y)) ∧ f' = f) := by
  intro X hX
  refine b_J_min_0 hX _ _ _ _ _ (i_iload rfl <| i_iload rfl <| i_cmp ?_ ?_)
  · intro h
    refine b_J_min_9 hX _ _ _ _ _ (i_iload rfl <| i_end ?_)
    refine b_J_min_10 hX _ _ _ _ _ (i_iret ?_)
    exact ⟨by rw [mn, if_pos h], rfl⟩
  · intro h
    refine b_J_min_5 hX _ _ _ _ _ (i_iload rfl <| i_end ?_)
    refine b_J_min_10 hX _ _ _ _ _ (i_iret ?_)
    exact ⟨by rw [mn, if_neg h], rfl⟩
theorem sp_floorMod {x y : Int32} (hy : ¬ y = 0) : CS l D cid m_J_floorMod [.int x, .int y] f (fun v f' => v = some (.int (fmod x y)) ∧ f' = f) := by
  intro X hX
  refine b_J_floorMod_0 hX _ _ _ _ _ (i_iload rfl <| i_iload rfl <| i_binz hy <| i_istore <| i_iload rfl <| i_iload rfl <| i_bin <| i_if ?_ ?_)
  · intro h
    refine b_J_floorMod_18 hX _ _ _ _ _ (i_iload rfl <| i_iret ?_)
    exact ⟨by rw [fmod, if_neg (fun q => Int32.not_le.mpr q.1 h)], rfl⟩
  · intro h
    refine b_J_floorMod_10 hX _ _ _ _ _ (i_iload rfl <| i_if ?_ ?_)
    · intro h0
      refine b_J_floorMod_18 hX _ _ _ _ _ (i_iload rfl <| i_iret ?_)
      exact ⟨by rw [fmod, if_neg (fun q => q.2 h0)], rfl⟩
    · intro h0
      refine b_J_floorMod_14 hX _ _ _ _ _ (i_iload rfl <| i_iload rfl <| i_bin <| i_iret ?_)
      exact ⟨by rw [fmod, if_pos ⟨Int32.not_le.mp h, h0⟩], rfl⟩
theorem sp_L_init {a : Nat} (hf : f a = some (.inl (0, df_L))) : CS l D cid m_L_init [.ref a] f (fun v f' => v = none ∧ f' = hup f a (.inl (0, [.null, .int 0, .int 0, .int 0, .int 0, .int 0]))) := by
  intro X hX
  refine b_L_init_0 hX _ _ _ _ _ (i_aload rfl <| i_obj <| i_aload rfl <| i_push <| i_putR hf rfl <| i_aload rfl <| i_push <| i_putI (hup_s _ _ _) rfl <| i_aload rfl <| i_push <| i_putI (hup_s _ _ _) rfl <| i_aload rfl <| i_push <| i_putI (hup_s _ _ _) rfl <| i_aload rfl <| i_push <| i_putI (hup_s _ _ _) rfl <| i_aload rfl <| i_push <| i_putI (hup_s _ _ _) rfl <| i_ret ?_)
  exact ⟨rfl, by simp only [hup_hup]; rfl⟩
theorem sp_L_init2 {a b : Nat} {c n v : Int32} {es : List Ent} (hf : f a = some (.inl (0, df_L))) (hne : b ≠ a) (h : LogR Z f es b) :
    CS l D cid m_L_init2 [.ref a, .ref b, .int c, .int n, .int v] f (fun w f' => w = none ∧ f' = hup f a (.inl (0, [.ref b, .int (nI (es.length + 1)), .int c, .int n, .int v, .int (tot ((c, n, v) :: es))]))) := by
  intro X hX
  obtain ⟨b', hb⟩ := h.cell
  refine b_L_init2_0 hX _ _ _ _ _ (i_aload rfl <| i_obj <| i_aload rfl <| i_aload rfl <| i_putR hf rfl <| i_aload rfl <| i_aload rfl <| i_getf ((hup_n hne).trans hb) rfl <| i_push <| i_bin <| i_putI (hup_s _ _ _) rfl <| i_aload rfl <| i_iload rfl <| i_putI (hup_s _ _ _) rfl <| i_aload rfl <| i_iload rfl <| i_putI (hup_s _ _ _) rfl <| i_aload rfl <| i_iload rfl <| i_putI (hup_s _ _ _) rfl <| i_aload rfl <| i_push <| i_aload rfl <| i_getf ((hup_n hne).trans ((hup_n hne).trans ((hup_n hne).trans ((hup_n hne).trans ((hup_n hne).trans hb))))) rfl <| i_bin <| i_iload rfl <| i_bin <| i_iload rfl <| i_bin <| i_putI (hup_s _ _ _) rfl <| i_ret ?_)
  refine ⟨rfl, ?_⟩
  simp only [hup_hup]
  rw [nI_succ]
  rfl
theorem sp_firstEntries {a : Nat} {c : Int32} {es : List Ent} {f0 : HF} (hF : ∀ a c, ¬ Z a → f0 a = some c → f a = some c) (h : LogR Z f0 es a) : CS l D cid m_L_firstEntries [.ref a, .int c] f (fun v f' => f' = f ∧ ∃ b, v = some (.ref b) ∧ LogR Z f0 (fse es c) b) := by
  intro X hX
  have loop : ∀ (es' : List Ent) (b : Nat), LogR Z f0 es' b → fse es' c = fse es c → ∀ bc bs, FR l D cid m_L_firstEntries X 2 [some (.ref a), some (.int c), some (.ref b)] [] f bc bs := by
    intro es'
    induction es' with
    | nil =>
      intro b hb he bc bs
      have hb2 := hF _ _ hb.1 hb.2
      refine b_L_firstEntries_2 hX _ _ _ _ _ (i_aload rfl <| i_getf hb2 rfl <| i_null_n ?_)
      refine b_L_firstEntries_25 hX _ _ _ _ _ (i_aload rfl <| i_aret ?_)
      exact ⟨rfl, b, rfl, by rw [← he]; exact hb⟩
    | cons e es' ih =>
      intro b hb he bc bs
      obtain ⟨hz, hl, hc, b', h1', h2⟩ := id hb
      have h1 := hF _ _ hz h1'
      refine b_L_firstEntries_2 hX _ _ _ _ _ (i_aload rfl <| i_getf h1 rfl <| i_null_r ?_)
      refine b_L_firstEntries_9 hX _ _ _ _ _ (i_aload rfl <| i_getf h1 rfl <| i_iload rfl <| i_cmp ?_ ?_)
      · intro hle
        refine b_L_firstEntries_25 hX _ _ _ _ _ (i_aload rfl <| i_aret ?_)
        refine ⟨rfl, b, rfl, ?_⟩
        rw [← he, fse, if_neg (Int32.not_lt.mpr hle)]
        exact hb
      · intro hgt
        refine b_L_firstEntries_17 hX _ _ _ _ _ (i_aload rfl <| i_getf h1 rfl <| i_astore <| i_end ?_)
        refine ih b' h2 ?_ _ _
        rw [← he, fse, if_pos (Int32.not_le.mp hgt)]
  refine b_L_firstEntries_0 hX _ _ _ _ _ (i_aload rfl <| i_astore <| i_end ?_)
  exact loop es a h rfl _ _
theorem sp_greatestNumber {a : Nat} {w : Int32} {es : List Ent} {f0 : HF} (hF : ∀ a c, ¬ Z a → f0 a = some c → f a = some c) (h : LogR Z f0 es a) : CS l D cid m_L_greatestNumber [.ref a, .int w] f (fun v f' => v = some (.int (gno es w 0)) ∧ f' = f) := by
  intro X hX
  have loop : ∀ (es' : List Ent) (b : Nat) (g : Int32), LogR Z f0 es' b → gno es' w g = gno es w 0 → ∀ bc bs, FR l D cid m_L_greatestNumber X 4 [some (.ref a), some (.int w), some (.int g), some (.ref b)] [] f bc bs := by
    intro es'
    induction es' with
    | nil =>
      intro b g hb he bc bs
      have hb2 := hF _ _ hb.1 hb.2
      have fin : ∀ g' : Int32, g' = gno es w 0 → ∀ bc bs, FR l D cid m_L_greatestNumber X 25 [some (.ref a), some (.int w), some (.int g'), some (.ref b)] [] f bc bs := by
        intro g' hg bc bs
        refine b_L_greatestNumber_25 hX _ _ _ _ _ (i_aload rfl <| i_getf hb2 rfl <| i_astore <| i_end ?_)
        refine b_L_greatestNumber_4 hX _ _ _ _ _ (i_aload rfl <| i_null_n ?_)
        refine b_L_greatestNumber_33 hX _ _ _ _ _ (i_iload rfl <| i_iret ?_)
        exact ⟨by rw [hg], rfl⟩
      refine b_L_greatestNumber_4 hX _ _ _ _ _ (i_aload rfl <| i_null_r ?_)
      refine b_L_greatestNumber_8 hX _ _ _ _ _ (i_aload rfl <| i_getf hb2 rfl <| i_iload rfl <| i_cmp ?_ ?_)
      · intro hne
        refine fin g ?_ _ _
        rw [← he, gno, if_neg hne]
      · intro heq
        refine b_L_greatestNumber_16 hX _ _ _ _ _ (i_iload rfl <| i_aload rfl <| i_getf hb2 rfl <| j_rdS (sp_max) rfl rfl <| i_istore <| i_end ?_)
        refine fin _ ?_ _ _
        rw [← he, gno, if_pos (Classical.not_not.mp heq)]
    | cons e es' ih =>
      intro b g hb he bc bs
      obtain ⟨hz, hl, hc, b', h1', h2⟩ := id hb
      have h1 := hF _ _ hz h1'
      refine b_L_greatestNumber_4 hX _ _ _ _ _ (i_aload rfl <| i_null_r ?_)
      refine b_L_greatestNumber_8 hX _ _ _ _ _ (i_aload rfl <| i_getf h1 rfl <| i_iload rfl <| i_cmp ?_ ?_)
      · intro hne
        refine b_L_greatestNumber_25 hX _ _ _ _ _ (i_aload rfl <| i_getf h1 rfl <| i_astore <| i_end ?_)
        refine ih b' g h2 ?_ _ _
        rw [← he, gno, if_neg hne]
      · intro heq
        refine b_L_greatestNumber_16 hX _ _ _ _ _ (i_iload rfl <| i_aload rfl <| i_getf h1 rfl <| j_rdS (sp_max) rfl rfl <| i_istore <| i_end ?_)
        refine b_L_greatestNumber_25 hX _ _ _ _ _ (i_aload rfl <| i_getf h1 rfl <| i_astore <| i_end ?_)
        refine ih b' _ h2 ?_ _ _
        rw [← he, gno, if_pos (Classical.not_not.mp heq)]
  refine b_L_greatestNumber_0 hX _ _ _ _ _ (i_push <| i_istore <| i_aload rfl <| i_astore <| i_end ?_)
  exact loop es a 0 h rfl _ _
theorem sp_find {a : Nat} {c n : Int32} {es : List Ent} {f0 : HF} (hF : ∀ a c, ¬ Z a → f0 a = some c → f a = some c) (h : LogR Z f0 es a) : CS l D cid m_L_find [.ref a, .int c, .int n] f (fun v f' => f' = f ∧ ((fnd es c n = none ∧ v = some .null) ∨ ∃ es' b, fnd es c n = some es' ∧ v = some (.ref b) ∧ LogR Z f0 es' b)) := by
  intro X hX
  have loop : ∀ (es' : List Ent) (b : Nat), LogR Z f0 es' b → fnd es' c n = fnd es c n → ∀ bc bs, FR l D cid m_L_find X 2 [some (.ref a), some (.int c), some (.int n), some (.ref b)] [] f bc bs := by
    intro es'
    induction es' with
    | nil =>
      intro b hb he bc bs
      have hb2 := hF _ _ hb.1 hb.2
      have fin : fnd es c n = none → ∀ bc bs, FR l D cid m_L_find X 24 [some (.ref a), some (.int c), some (.int n), some (.ref b)] [] f bc bs := by
        intro hn bc bs
        refine b_L_find_24 hX _ _ _ _ _ (i_aload rfl <| i_getf hb2 rfl <| i_astore <| i_end ?_)
        refine b_L_find_2 hX _ _ _ _ _ (i_aload rfl <| i_null_n ?_)
        refine b_L_find_32 hX _ _ _ _ _ (i_push <| i_aret ?_)
        exact ⟨rfl, Or.inl ⟨hn, rfl⟩⟩
      refine b_L_find_2 hX _ _ _ _ _ (i_aload rfl <| i_null_r ?_)
      refine b_L_find_6 hX _ _ _ _ _ (i_aload rfl <| i_getf hb2 rfl <| i_iload rfl <| i_cmp ?_ ?_)
      · intro hne
        refine fin ?_ _ _
        rw [← he, fnd, if_neg (fun q => hne q.1)]
      · intro heq
        refine b_L_find_14 hX _ _ _ _ _ (i_aload rfl <| i_getf hb2 rfl <| i_iload rfl <| i_cmp ?_ ?_)
        · intro hne
          refine fin ?_ _ _
          rw [← he, fnd, if_neg (fun q => hne q.2)]
        · intro heq2
          refine b_L_find_22 hX _ _ _ _ _ (i_aload rfl <| i_aret ?_)
          refine ⟨rfl, Or.inr ⟨[], b, ?_, rfl, hb⟩⟩
          rw [← he, fnd, if_pos ⟨Classical.not_not.mp heq, Classical.not_not.mp heq2⟩]
    | cons e es' ih =>
      intro b hb he bc bs
      obtain ⟨hz, hl, hc, b', h1', h2⟩ := id hb
      have h1 := hF _ _ hz h1'
      refine b_L_find_2 hX _ _ _ _ _ (i_aload rfl <| i_null_r ?_)
      refine b_L_find_6 hX _ _ _ _ _ (i_aload rfl <| i_getf h1 rfl <| i_iload rfl <| i_cmp ?_ ?_)
      · intro hne
        refine b_L_find_24 hX _ _ _ _ _ (i_aload rfl <| i_getf h1 rfl <| i_astore <| i_end ?_)
        refine ih b' h2 ?_ _ _
        rw [← he, fnd, if_neg (fun q => hne q.1)]
      · intro heq
        refine b_L_find_14 hX _ _ _ _ _ (i_aload rfl <| i_getf h1 rfl <| i_iload rfl <| i_cmp ?_ ?_)
        · intro hne
          refine b_L_find_24 hX _ _ _ _ _ (i_aload rfl <| i_getf h1 rfl <| i_astore <| i_end ?_)
          refine ih b' h2 ?_ _ _
          rw [← he, fnd, if_neg (fun q => hne q.2)]
        · intro heq2
          refine b_L_find_22 hX _ _ _ _ _ (i_aload rfl <| i_aret ?_)
          refine ⟨rfl, Or.inr ⟨e :: es', b, ?_, rfl, hb⟩⟩
          rw [← he, fnd, if_pos ⟨Classical.not_not.mp heq, Classical.not_not.mp heq2⟩]
  refine b_L_find_0 hX _ _ _ _ _ (i_aload rfl <| i_astore <| i_end ?_)
  exact loop es a h rfl _ _
end SPJL
