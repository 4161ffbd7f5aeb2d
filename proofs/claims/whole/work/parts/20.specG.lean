section SPG
variable {l : Launch} {D : va_G} {cid : Nat → ClassId} {Z : Nat → Prop} {f : HF} {A : Nat → Nat} {N i : Nat} {cs : Nat → PC} {R : RS} {S : GS}
abbrev gobj (A : Nat → Nat) (N : Nat) (S : GS) : List Value := [.int (nI N), .int (nI (N / 2)), .ref (A 1), .ref (A 2), .int (nI (gT S)), .int (gL S), .ref (A 3), .ref (A 4)]
theorem sp_isReplica {x : Int32} (hA : AI (5 + 5 * N) A) (h0 : cs 0 = .inl (3, gobj A N S)) : CS l D cid m_G_isReplica [.ref (A 0), .int x] (hC (5 + 5 * N) A f cs) (fun v f' => v = some (.int (bI (isR N x))) ∧ f' = hC (5 + 5 * N) A f cs) := by
  intro X hX
  refine b_G_isReplica_0 hX _ _ _ _ _ (i_iload rfl <| i_if ?_ ?_)
  · intro h
    refine b_G_isReplica_16 hX _ _ _ _ _ (i_push <| i_end ?_)
    refine b_G_isReplica_17 hX _ _ _ _ _ (i_zret ?_)
    exact ⟨by rw [show isR N x = false from decide_eq_false (fun q => q.1 h)]; rfl, rfl⟩
  · intro h
    refine b_G_isReplica_4 hX _ _ _ _ _ (i_iload rfl <| i_aload rfl <| i_getf (c_cell hA (by omega) h0) rfl <| i_cmp ?_ ?_)
    · intro h'
      refine b_G_isReplica_16 hX _ _ _ _ _ (i_push <| i_end ?_)
      refine b_G_isReplica_17 hX _ _ _ _ _ (i_zret ?_)
      exact ⟨by rw [show isR N x = false from decide_eq_false (fun q => Int32.not_lt.mpr h' q.2)]; rfl, rfl⟩
    · intro h'
      refine b_G_isReplica_12 hX _ _ _ _ _ (i_push <| i_end ?_)
      refine b_G_isReplica_17 hX _ _ _ _ _ (i_zret ?_)
      exact ⟨by rw [show isR N x = true from decide_eq_true ⟨h, Int32.not_le.mp h'⟩]; rfl, rfl⟩
theorem sp_isClient {F : HF} {x : Int32} : CS l D cid m_G_isClient [.int x] F (fun v f' => v = some (.int (bI (isCl x))) ∧ f' = F) := by
  intro X hX
  refine b_G_isClient_0 hX _ _ _ _ _ (i_iload rfl <| i_if ?_ ?_)
  · intro h
    refine b_G_isClient_13 hX _ _ _ _ _ (i_push <| i_end ?_)
    refine b_G_isClient_14 hX _ _ _ _ _ (i_zret ?_)
    exact ⟨by rw [show isCl x = false from decide_eq_false (fun q => q.1 h)]; rfl, rfl⟩
  · intro h
    refine b_G_isClient_4 hX _ _ _ _ _ (i_iload rfl <| i_push <| i_cmp ?_ ?_)
    · intro h'
      refine b_G_isClient_13 hX _ _ _ _ _ (i_push <| i_end ?_)
      refine b_G_isClient_14 hX _ _ _ _ _ (i_zret ?_)
      exact ⟨by rw [show isCl x = false from decide_eq_false (fun q => Int32.not_lt.mpr h' q.2)]; rfl, rfl⟩
    · intro h'
      refine b_G_isClient_9 hX _ _ _ _ _ (i_push <| i_end ?_)
      refine b_G_isClient_14 hX _ _ _ _ _ (i_zret ?_)
      exact ⟨by rw [show isCl x = true from decide_eq_true ⟨h, Int32.not_le.mp h'⟩]; rfl, rfl⟩
theorem sp_primaryOf {v : Int32} (hA : AI (5 + 5 * N) A) (hN : N = 3 ∨ N = 5) (h0 : cs 0 = .inl (3, gobj A N S)) : CS l D cid m_G_primaryOf [.ref (A 0), .int v] (hC (5 + 5 * N) A f cs) (fun w f' => w = some (.int (fmod v (nI N))) ∧ f' = hC (5 + 5 * N) A f cs) := by
  intro X hX
  refine b_G_primaryOf_0 hX _ _ _ _ _ (i_iload rfl <| i_aload rfl <| i_getf (c_cell hA (by omega) h0) rfl <| j_rdS (sp_floorMod (nN0 hN)) rfl rfl <| i_iret ?_)
  exact ⟨rfl, rfl⟩
theorem sp_leads {la va : Nat} (hA : AI (5 + 5 * N) A) (hN : N = 3 ∨ N = 5) (hi : i < N) (h0 : cs 0 = .inl (3, gobj A N S)) (h1 : cs (5 + 5 * i) = .inl (2, robj A i la va R)) : CS l D cid m_G_leads [.ref (A 0), .ref (A (5 + 5 * i))] (hC (5 + 5 * N) A f cs) (fun w f' => w = some (.int (bI (decide (leads N R i)))) ∧ f' = hC (5 + 5 * N) A f cs) := by
  intro X hX
  have h5 : 5 + 5 * i < 5 + 5 * N := by omega
  refine b_G_leads_0 hX _ _ _ _ _ (i_aload rfl <| i_getf (c_cell hA h5 h1) rfl <| i_if ?_ ?_)
  · intro h
    refine b_G_leads_26 hX _ _ _ _ _ (i_push <| i_end ?_)
    refine b_G_leads_27 hX _ _ _ _ _ (i_zret ?_)
    exact ⟨by rw [decide_eq_false (fun q : leads N R i => h q.1)]; rfl, rfl⟩
  · intro h
    have h' := Classical.not_not.mp h
    refine b_G_leads_7 hX _ _ _ _ _ (i_aload rfl <| i_aload rfl <| i_getf (c_cell hA h5 h1) rfl <| j_rdV (c_cell hA (by omega) h0) (sp_primaryOf hA hN h0) rfl rfl <| i_aload rfl <| i_getf (c_cell hA h5 h1) rfl <| i_cmp ?_ ?_)
    · intro hn
      refine b_G_leads_26 hX _ _ _ _ _ (i_push <| i_end ?_)
      refine b_G_leads_27 hX _ _ _ _ _ (i_zret ?_)
      exact ⟨by rw [decide_eq_false (fun q : leads N R i => hn q.2)]; rfl, rfl⟩
    · intro hn
      refine b_G_leads_22 hX _ _ _ _ _ (i_push <| i_end ?_)
      refine b_G_leads_27 hX _ _ _ _ _ (i_zret ?_)
      exact ⟨by rw [decide_eq_true (show leads N R i from ⟨h', Classical.not_not.mp hn⟩)]; rfl, rfl⟩
theorem sp_answerClient {la : Nat} {es : List Ent} (hE : En Z A N f) (hG : GRc Z f A N cs S) (hl : LogR Z f es la) :
    CS l D cid m_G_answerClient [.ref (A 0), .ref la] (hC (5 + 5 * N) A f cs) (fun v f' => v = none ∧ ∃ cs', f' = hC (5 + 5 * N) A f cs' ∧ (∀ k, k ≠ 3 → k ≠ 4 → cs' k = cs k) ∧ GRc Z f A N cs' (g_ans S es)) := by
  intro X hX
  have hA := hE.1
  obtain ⟨h0, h1, h2, ⟨g3, e3, n3⟩, ⟨g4, e4, n4⟩, h5⟩ := id hG
  obtain ⟨b, hb⟩ := hl.cell
  obtain ⟨c, hc, hcl⟩ := hl.cl
  have hlc := hE.im (cs := cs) _ _ hl.nz hb
  have hcc : (hd es).1.toNatClampNeg = c := by rw [hcl]; exact nI_clamp (by omega)
  refine b_G_answerClient_0 hX _ _ _ _ _ (i_aload rfl <| i_getf hlc rfl <| i_aload rfl <| i_getf (c_cell hA (by omega) h0) rfl <| i_aload rfl <| i_getf hlc rfl <| i_ald (c_cell hA (by omega) e3) ⟨hcl, hc, by omega⟩ <| i_cmp ?_ ?_)
  · intro h
    refine b_G_answerClient_42 hX _ _ _ _ _ (i_ret ?_)
    refine ⟨rfl, cs, rfl, fun _ _ _ => rfl, ?_⟩
    rw [g_ans, if_neg]
    · exact hG
    · rw [hcc, ← n3 c hc]
      exact Int32.not_le.mpr h
  · intro h
    refine b_G_answerClient_16 hX _ _ _ _ _ (i_aload rfl <| i_getf (c_cell hA (by omega) h0) rfl <| i_aload rfl <| i_getf hlc rfl <| i_aload rfl <| i_getf hlc rfl <| c_ast hA (by omega) e3 ⟨hcl, hc, by omega⟩ <| i_aload rfl <| i_getf (c_cell hA (by omega) ((va_n (by decide)).trans h0)) rfl <| i_aload rfl <| i_getf (hE.im _ _ hl.nz hb) rfl <| i_aload rfl <| i_getf (hE.im _ _ hl.nz hb) rfl <| c_ast hA (by omega) ((va_n (by decide)).trans e4) ⟨hcl, hc, by omega⟩ <| i_end ?_)
    refine b_G_answerClient_42 hX _ _ _ _ _ (i_ret ?_)
    refine ⟨rfl, _, rfl, fun k a b => (va_n b).trans (va_n a), ?_⟩
    rw [g_ans, if_pos]
    · refine ⟨(va_n (by decide)).trans ((va_n (by decide)).trans h0), ?_, ?_, ⟨_, (va_n (by decide)).trans (va_s _ _ _), fun t ht => ?_⟩, ⟨_, va_s _ _ _, fun t ht => ?_⟩, fun j hj => (h5 j hj).fm (ext_r f) (fun k hk => ?_)⟩
      · obtain ⟨g1, q1, q2⟩ := h1
        exact ⟨g1, (va_n (by decide)).trans ((va_n (by decide)).trans q1), q2⟩
      · obtain ⟨g1, q1, q2⟩ := h2
        exact ⟨g1, (va_n (by decide)).trans ((va_n (by decide)).trans q1), q2⟩
      · show upd g3 c (hd es).2.1 t = va_up (gN S) (hd es).1.toNatClampNeg (hd es).2.1 t
        rw [hcc]
        by_cases e : t = c
        · rw [e, upd_s, va_s]
        · rw [upd_n e, va_n e]
          exact n3 t ht
      · show upd g4 c (tot es) t = va_up (gA S) (hd es).1.toNatClampNeg (tot es) t
        rw [hcc]
        by_cases e : t = c
        · rw [e, upd_s, va_s]
        · rw [upd_n e, va_n e]
          exact n4 t ht
      · simp only [W5] at hk
        rw [va_n (by omega), va_n (by omega)]
    · rw [hcc, ← n3 c hc]
      exact Int32.not_lt.mp h
theorem sp_E_init {F : HF} {a p la va : Nat} {kind d : Int32} (ha : F a = some (.inl (1, df_E))) (hne : p ≠ a) (hp : F p = some (.inl (2, robj A i la va R))) :
    CS l D cid m_E_init [.ref a, .ref p, .int kind, .int d] F (fun v f' => v = none ∧ f' = hup F a (.inl (1, [.int kind, .int (nI i), .int d, .int (rV R), .int (rL R), .ref va, .ref la, .int (rC R)]))) := by
  intro X hX
  refine b_E_init_0 hX _ _ _ _ _ (i_aload rfl <| i_obj <| i_aload rfl <| i_iload rfl <| i_putI ha rfl <| i_aload rfl <| i_aload rfl <| i_getf ((hup_n hne).trans hp) rfl <| i_putI (hup_s _ _ _) rfl <| i_aload rfl <| i_iload rfl <| i_putI (hup_s _ _ _) rfl <| i_aload rfl <| i_aload rfl <| i_getf ((hup_n hne).trans ((hup_n hne).trans ((hup_n hne).trans hp))) rfl <| i_putI (hup_s _ _ _) rfl <| i_aload rfl <| i_aload rfl <| i_getf ((hup_n hne).trans ((hup_n hne).trans ((hup_n hne).trans ((hup_n hne).trans hp)))) rfl <| i_putI (hup_s _ _ _) rfl <| i_aload rfl <| i_aload rfl <| i_getf ((hup_n hne).trans ((hup_n hne).trans ((hup_n hne).trans ((hup_n hne).trans ((hup_n hne).trans hp))))) rfl <| i_putR (hup_s _ _ _) rfl <| i_aload rfl <| i_aload rfl <| i_getf ((hup_n hne).trans ((hup_n hne).trans ((hup_n hne).trans ((hup_n hne).trans ((hup_n hne).trans ((hup_n hne).trans hp)))))) rfl <| i_putR (hup_s _ _ _) rfl <| i_aload rfl <| i_aload rfl <| i_getf ((hup_n hne).trans ((hup_n hne).trans ((hup_n hne).trans ((hup_n hne).trans ((hup_n hne).trans ((hup_n hne).trans ((hup_n hne).trans hp))))))) rfl <| i_putI (hup_s _ _ _) rfl <| i_ret ?_)
  refine ⟨rfl, ?_⟩
  simp only [hup_hup]
  rfl
end SPG
