section QREL
variable {s s' : QS} {N : Nat}
theorem QS_ext (h1 : ∀ j x, s.1 j x = s'.1 j x) (h2 : s.2 = s'.2) : s = s' := Prod.ext (funext fun j => funext fun x => h1 j x) h2
def cp (s : QS) (a b L : Nat) : QS := (fun j x => if j = 2 ∧ x = b then s.1 2 a else if (3 ≤ j ∧ j ≤ 5) ∧ 24 * b ≤ x ∧ x < 24 * b + L then s.1 j (24 * a + (x - 24 * b)) else s.1 j x, s.2)
theorem cp_a (s : QS) (a b L j x : Nat) : (cp s a b L).1 j x = if j = 2 ∧ x = b then s.1 2 a else if (3 ≤ j ∧ j ≤ 5) ∧ 24 * b ≤ x ∧ x < 24 * b + L then s.1 j (24 * a + (x - 24 * b)) else s.1 j x := rfl
theorem cp_0 (s : QS) (a b : Nat) : qw s 2 b (s.1 2 a) = cp s a b 0 := by
  refine QS_ext (fun j x => ?_) rfl
  rw [qw_a, cp_a, if_neg (c := (3 ≤ j ∧ j ≤ 5) ∧ 24 * b ≤ x ∧ x < 24 * b + 0) (by omega)]
theorem cp_r {a b k j : Nat} (hk : k < 24) (hj : 3 ≤ j ∧ j ≤ 5) : (cp s a b k).1 j (24 * a + k) = s.1 j (24 * a + k) := by
  rw [cp_a, if_neg (by omega), if_neg (by omega)]
theorem cp_s {a b k : Nat} (hk : k < 24) : qw (qw (qw (cp s a b k) 3 (24 * b + k) ((cp s a b k).1 3 (24 * a + k))) 4 (24 * b + k) ((cp s a b k).1 4 (24 * a + k))) 5 (24 * b + k) ((cp s a b k).1 5 (24 * a + k)) = cp s a b (k + 1) := by
  refine QS_ext (fun j x => ?_) rfl
  rw [cp_r hk (by omega), cp_r hk (by omega), cp_r hk (by omega)]
  simp only [qw_a, cp_a]
  by_cases hx : x = 24 * b + k
  · subst hx
    have e : 24 * a + (24 * b + k - 24 * b) = 24 * a + k := by omega
    rw [e]
    by_cases h3 : j = 3
    · subst h3; simp
    · by_cases h4 : j = 4
      · subst h4; simp
      · by_cases h5 : j = 5
        · subst h5; simp
        · have n1 : ¬ (3 ≤ j ∧ j ≤ 5) := by omega
          simp [h3, h4, h5, n1]
  · have e : ((3 ≤ j ∧ j ≤ 5) ∧ 24 * b ≤ x ∧ x < 24 * b + (k + 1)) = ((3 ≤ j ∧ j ≤ 5) ∧ 24 * b ≤ x ∧ x < 24 * b + k) := propext ⟨fun h => ⟨h.1, h.2.1, by omega⟩, fun h => ⟨h.1, h.2.1, by omega⟩⟩
    simp only [hx, and_false, if_false, e]
def fg (s : QS) (r n : Nat) : QS := (fun j x => if (j = 14 ∨ j = 16) ∧ 5 * r ≤ x ∧ x < 5 * r + n then 0 else s.1 j x, s.2)
theorem fg_a (s : QS) (r n j x : Nat) : (fg s r n).1 j x = if (j = 14 ∨ j = 16) ∧ 5 * r ≤ x ∧ x < 5 * r + n then 0 else s.1 j x := rfl
theorem fg_0 (s : QS) (r : Nat) : fg s r 0 = s := by
  refine QS_ext (fun j x => ?_) rfl
  rw [fg_a, if_neg (by omega)]
theorem fg_s (s : QS) (r n : Nat) : qw (qw (fg s r n) 14 (5 * r + n) 0) 16 (5 * r + n) 0 = fg s r (n + 1) := by
  refine QS_ext (fun j x => ?_) rfl
  simp only [qw_a, fg_a]
  grind
def vz (s : QS) (r n : Nat) : QS := (fun j x => if (j = 10 ∨ j = 11) ∧ 5 * r ≤ x ∧ x < 5 * r + n then 0 else s.1 j x, s.2)
theorem vz_a (s : QS) (r n j x : Nat) : (vz s r n).1 j x = if (j = 10 ∨ j = 11) ∧ 5 * r ≤ x ∧ x < 5 * r + n then 0 else s.1 j x := rfl
theorem vz_0 (s : QS) (r : Nat) : vz s r 0 = s := by
  refine QS_ext (fun j x => ?_) rfl
  rw [vz_a, if_neg (by omega)]
theorem vz_s (s : QS) (r n : Nat) : qw (qw (vz s r n) 10 (5 * r + n) 0) 11 (5 * r + n) 0 = vz s r (n + 1) := by
  refine QS_ext (fun j x => ?_) rfl
  simp only [qw_a, vz_a]
  grind
def spt (s : QS) (m r n : Nat) : QS := (fun j x => if j = 27 ∧ 5 * m ≤ x ∧ x < 5 * m + n then s.1 10 (5 * r + (x - 5 * m)) else s.1 j x, s.2)
theorem spt_a (s : QS) (m r n j x : Nat) : (spt s m r n).1 j x = if j = 27 ∧ 5 * m ≤ x ∧ x < 5 * m + n then s.1 10 (5 * r + (x - 5 * m)) else s.1 j x := rfl
theorem spt_0 (s : QS) (m r : Nat) : spt s m r 0 = s := by
  refine QS_ext (fun j x => ?_) rfl
  rw [spt_a, if_neg (by omega)]
theorem spt_s (s : QS) (m r n : Nat) : qw (spt s m r n) 27 (5 * m + n) ((spt s m r n).1 10 (5 * r + n)) = spt s m r (n + 1) := by
  refine QS_ext (fun j x => ?_) rfl
  have e : (spt s m r n).1 10 (5 * r + n) = s.1 10 (5 * r + n) := by rw [spt_a, if_neg (by omega)]
  rw [e]
  simp only [qw_a, spt_a]
  grind
def hdr (s : QS) (m r d : Nat) (what : Int32) : QS := qw (qw (qw (qw (qw (qw s 21 m (nI r)) 22 m (nI d)) 23 m what) 24 m (s.1 7 r)) 25 m (s.1 8 r)) 26 m (s.1 9 r)
def q_send (s : QS) (r d : Nat) (what : Int32) (L T : Nat) : QS := ((cp (spt (hdr s (T % 64) r d what) (T % 64) r 5) r (5 + T % 64) L).1, nI T + 1, s.2.2)
def CelQ (s : QS) (row : Nat) : List Ent → Prop
  | [] => True
  | e :: es => s.1 3 (24 * row + es.length) = e.1 ∧ s.1 4 (24 * row + es.length) = e.2.1 ∧ s.1 5 (24 * row + es.length) = e.2.2 ∧ CelQ s row es
def RowQ (s : QS) (row : Nat) (es : List Ent) : Prop := s.1 2 row = nI es.length ∧ es.length ≤ 24 ∧ CelQ s row es
theorem CelQ.mv {a b : Nat} : ∀ {es : List Ent}, (∀ j k, 3 ≤ j → j ≤ 5 → k < es.length → s'.1 j (24 * b + k) = s.1 j (24 * a + k)) → CelQ s a es → CelQ s' b es
  | [], _, _ => trivial
  | e :: es, h, ⟨h1, h2, h3, h4⟩ => ⟨(h 3 es.length (by omega) (by omega) (by simp)).trans h1, (h 4 es.length (by omega) (by omega) (by simp)).trans h2, (h 5 es.length (by omega) (by omega) (by simp)).trans h3, CelQ.mv (fun j k a b c => h j k a b (by simp only [List.length_cons]; omega)) h4⟩
theorem RowQ.mv {a b : Nat} {es : List Ent} (h2 : s'.1 2 b = s.1 2 a) (h3 : ∀ j k, 3 ≤ j → j ≤ 5 → k < 24 → s'.1 j (24 * b + k) = s.1 j (24 * a + k)) (h : RowQ s a es) : RowQ s' b es :=
  ⟨h2.trans h.1, h.2.1, CelQ.mv (fun j k a b c => h3 j k a b (Nat.lt_of_lt_of_le c h.2.1)) h.2.2⟩
theorem RowQ.cpy {a b : Nat} {es : List Ent} (h : RowQ s a es) : RowQ (cp s a b es.length) b es := by
  refine ⟨?_, h.2.1, CelQ.mv (fun j k h1 h2 h3 => ?_) h.2.2⟩
  · rw [cp_a, if_pos ⟨rfl, rfl⟩]
    exact h.1
  · rw [cp_a, if_neg (by omega), if_pos (by omega), show 24 * a + (24 * b + k - 24 * b) = 24 * a + k by omega]
def VoQ (s : QS) (x t : Nat) : Option Msg → Prop
  | none => s.1 14 x = 0
  | some m => s.1 14 x = 1 ∧ s.1 15 x = mX m t
def ShQ (s : QS) (x t : Nat) : Option Msg → Prop
  | none => s.1 16 x = 0
  | some m => s.1 16 x = 1 ∧ s.1 17 x = mX m t ∧ s.1 18 x = mV m ∧ s.1 19 x = mL m ∧ s.1 20 x = mC m ∧ RowQ s (70 + x) (mG m)
def kepE (R : RS) : KM := if rS R = 2 then rR R else rE R
def RepQ (s : QS) (N i : Nat) (R : RS) : Prop := s.1 6 i = rS R ∧ s.1 7 i = rV R ∧ s.1 8 i = rL R ∧ s.1 9 i = rC R ∧ RowQ s i (rG R) ∧ (∀ t, t < N → s.1 10 (5 * i + t) = rX R t) ∧ (∀ t, t < N → s.1 11 (5 * i + t) = rA R t) ∧ s.1 12 i = rP R ∧ s.1 13 i = rN R ∧ (∀ t, t < N → VoQ s (5 * i + t) t (rO R t)) ∧ (∀ t, t < N → ShQ s (5 * i + t) t (kepE R t))
def MsgQ (s : QS) (N m : Nat) (M : Msg) : Prop := s.1 21 m = nI (mS M) ∧ s.1 23 m = mK M ∧ s.1 24 m = mV M ∧ s.1 25 m = mL M ∧ s.1 26 m = mC M ∧ (∀ t, t < N → s.1 27 (5 * m + t) = mX M t) ∧ RowQ s (5 + m) (mG M)
def Rel (N : Nat) (s : QS) (S : GS) (o : Option Msg) : Prop := s.2.1 = nI (gT S) ∧ s.2.2 = gL S ∧ (∀ c, c < 4 → s.1 30 c = gN S c ∧ s.1 31 c = gA S c) ∧ (∀ i, i < N → RepQ s N i (gR S i)) ∧
  (∀ k, k < gT S → gT S ≤ k + 64 → MsgQ s N (k % 64) (gM S k) ∧ s.1 22 (k % 64) = nI (mD (gM S k))) ∧ (∀ M, o = some M → MsgQ s N 64 M)
def inR (i j x : Nat) : Prop := (((6 ≤ j ∧ j ≤ 9) ∨ j = 12 ∨ j = 13) ∧ x = i) ∨ ((j = 10 ∨ j = 11 ∨ (14 ≤ j ∧ j ≤ 20)) ∧ 5 * i ≤ x ∧ x < 5 * i + 5) ∨ (j = 2 ∧ (x = i ∨ (70 + 5 * i ≤ x ∧ x < 75 + 5 * i))) ∨ ((3 ≤ j ∧ j ≤ 5) ∧ ((24 * i ≤ x ∧ x < 24 * i + 24) ∨ (24 * (70 + 5 * i) ≤ x ∧ x < 24 * (75 + 5 * i))))
def inM (m j x : Nat) : Prop := ((21 ≤ j ∧ j ≤ 26) ∧ x = m) ∨ (j = 27 ∧ 5 * m ≤ x ∧ x < 5 * m + 5) ∨ (j = 2 ∧ x = 5 + m) ∨ ((3 ≤ j ∧ j ≤ 5) ∧ 24 * (5 + m) ≤ x ∧ x < 24 * (5 + m) + 24)
theorem inR_M {i m j x : Nat} (hi : i < 5) (hm : m ≤ 64) (h : inR i j x) : ¬ inM m j x := by
  simp only [inR, inM] at *
  omega
theorem inR_R {i i' j x : Nat} (hi : i < 5) (hi' : i' < 5) (n : i ≠ i') (h : inR i j x) : ¬ inR i' j x := by
  simp only [inR] at *
  omega
theorem inM_M {m m' j x : Nat} (n : m ≠ m') (h : inM m j x) : ¬ inM m' j x := by
  simp only [inM] at *
  omega
theorem VoQ.cg {x t : Nat} {o : Option Msg} (h14 : s'.1 14 x = s.1 14 x) (h15 : s'.1 15 x = s.1 15 x) (h : VoQ s x t o) : VoQ s' x t o := by
  cases o with
  | none => exact h14.trans h
  | some m => exact ⟨h14.trans h.1, h15.trans h.2⟩
theorem ShQ.cg {x t : Nat} {o : Option Msg} (hj : ∀ j, 16 ≤ j → j ≤ 20 → s'.1 j x = s.1 j x) (hr : ∀ es, RowQ s (70 + x) es → RowQ s' (70 + x) es) (h : ShQ s x t o) : ShQ s' x t o := by
  cases o with
  | none => exact (hj 16 (by omega) (by omega)).trans h
  | some m => exact ⟨(hj 16 (by omega) (by omega)).trans h.1, (hj 17 (by omega) (by omega)).trans h.2.1, (hj 18 (by omega) (by omega)).trans h.2.2.1, (hj 19 (by omega) (by omega)).trans h.2.2.2.1, (hj 20 (by omega) (by omega)).trans h.2.2.2.2.1, hr _ h.2.2.2.2.2⟩
theorem RepQ.cg {i : Nat} {R : RS} (hN : N ≤ 5) (hs : ∀ j x, inR i j x → s'.1 j x = s.1 j x) (h : RepQ s N i R) : RepQ s' N i R := by
  obtain ⟨a1, a2, a3, a4, a5, a6, a7, a8, a9, a10, a11⟩ := h
  refine ⟨(hs 6 i (by unfold inR; omega)).trans a1, (hs 7 i (by unfold inR; omega)).trans a2, (hs 8 i (by unfold inR; omega)).trans a3, (hs 9 i (by unfold inR; omega)).trans a4, a5.mv (hs 2 i (by unfold inR; omega)) (fun j k h1 h2 h3 => hs j _ (by unfold inR; omega)),
    fun t ht => (hs 10 _ (by unfold inR; omega)).trans (a6 t ht), fun t ht => (hs 11 _ (by unfold inR; omega)).trans (a7 t ht), (hs 12 i (by unfold inR; omega)).trans a8, (hs 13 i (by unfold inR; omega)).trans a9,
    fun t ht => (a10 t ht).cg (hs 14 _ (by unfold inR; omega)) (hs 15 _ (by unfold inR; omega)), fun t ht => (a11 t ht).cg (fun j h1 h2 => hs j _ (by unfold inR; omega)) (fun es he => he.mv (hs 2 _ (by unfold inR; omega)) (fun j k h1 h2 h3 => hs j _ (by unfold inR; omega)))⟩
theorem MsgQ.cg {m : Nat} {M : Msg} (hN : N ≤ 5) (hs : ∀ j x, inM m j x → s'.1 j x = s.1 j x) (h : MsgQ s N m M) : MsgQ s' N m M := by
  obtain ⟨a1, a2, a3, a4, a5, a6, a7⟩ := h
  exact ⟨(hs 21 m (by unfold inM; omega)).trans a1, (hs 23 m (by unfold inM; omega)).trans a2, (hs 24 m (by unfold inM; omega)).trans a3, (hs 25 m (by unfold inM; omega)).trans a4, (hs 26 m (by unfold inM; omega)).trans a5, fun t ht => (hs 27 _ (by unfold inM; omega)).trans (a6 t ht), a7.mv (hs 2 _ (by unfold inM; omega)) (fun j k h1 h2 h3 => hs j _ (by unfold inM; omega))⟩
theorem Rel.rep {S : GS} {o : Option Msg} {i : Nat} {R : RS} (hN : N ≤ 5) (hi : i < N) (h : Rel N s S o) (h2 : s'.2 = s.2) (hs : ∀ j x, ¬ inR i j x → s'.1 j x = s.1 j x) (hR : RepQ s' N i R) : Rel N s' (g_rep S i R) o := by
  obtain ⟨a1, a2, a3, a4, a5, a6⟩ := h
  refine ⟨by rw [h2]; exact a1, by rw [h2]; exact a2, fun c hc => ?_, fun k hk => ?_, fun k hk hk2 => ?_, fun M hM => ?_⟩
  · rw [hs 30 c (by unfold inR; omega), hs 31 c (by unfold inR; omega)]
    exact a3 c hc
  · by_cases e : k = i
    · subst e
      show RepQ s' N k (va_up (gR S) k R k)
      rw [va_s]
      exact hR
    · show RepQ s' N k (va_up (gR S) i R k)
      rw [va_n e]
      exact (a4 k hk).cg hN (fun j x hx => hs j x (inR_R (by omega) (by omega) e hx))
  · obtain ⟨b1, b2⟩ := a5 k hk hk2
    have hm : k % 64 ≤ 64 := by omega
    exact ⟨b1.cg hN (fun j x hx => hs j x (fun q => inR_M (by omega) hm q hx)), (hs 22 _ (by unfold inR; omega)).trans b2⟩
  · exact (a6 M hM).cg hN (fun j x hx => hs j x (fun q => inR_M (by omega) (Nat.le_refl 64) q hx))
theorem hdr_a (s : QS) (m r d : Nat) (what : Int32) (j x : Nat) : (hdr s m r d what).1 j x = if x = m ∧ 21 ≤ j ∧ j ≤ 26 then (if j = 21 then nI r else if j = 22 then nI d else if j = 23 then what else if j = 24 then s.1 7 r else if j = 25 then s.1 8 r else s.1 9 r) else s.1 j x := by
  simp only [hdr, qw_a]
  grind
theorem q_send_o {r d L T j x : Nat} {what : Int32} (hL : L ≤ 24) (h : ¬ inM (T % 64) j x) : (q_send s r d what L T).1 j x = s.1 j x := by
  show (cp (spt (hdr s (T % 64) r d what) (T % 64) r 5) r (5 + T % 64) L).1 j x = s.1 j x
  simp only [inM] at h
  rw [cp_a, if_neg (by omega), if_neg (by omega), spt_a, if_neg (by omega), hdr_a, if_neg (by omega)]
theorem rel_send {S : GS} {o : Option Msg} {i d : Nat} {what : Int32} (hN : N ≤ 5) (hi : i < N) (h : Rel N s S o) : Rel N (q_send s i d what (rG (gR S i)).length (gT S)) (g_send S i what d) o := by
  obtain ⟨a1, a2, a3, a4, a5, a6⟩ := h
  have hL : (rG (gR S i)).length ≤ 24 := (a4 i hi).2.2.2.2.1.2.1
  have hm : gT S % 64 < 64 := by omega
  refine ⟨?_, a2, fun c hc => ?_, fun k hk => ?_, fun k hk hk2 => ?_, fun M hM => ?_⟩
  · show nI (gT S) + 1 = nI (gT S + 1)
    exact (nI_succ _).symm
  · rw [q_send_o hL (by unfold inM; omega), q_send_o hL (by unfold inM; omega)]
    exact a3 c hc
  · exact (a4 k hk).cg hN (fun j x hx => q_send_o hL (inR_M (by omega) (by omega) hx))
  · by_cases e : k = gT S
    · subst e
      show MsgQ _ N _ (va_up (gM S) (gT S) (mkM (gR S i) i what d) (gT S)) ∧ _ = nI (mD (va_up (gM S) (gT S) (mkM (gR S i) i what d) (gT S)))
      rw [va_s]
      obtain ⟨b1, b2, b3, b4, b5, b6, b7, b8, b9, b10, b11⟩ := a4 i hi
      have hd : ∀ j, 21 ≤ j → j ≤ 26 → (q_send s i d what (rG (gR S i)).length (gT S)).1 j (gT S % 64) = (hdr s (gT S % 64) i d what).1 j (gT S % 64) := fun j h1 h2 => by
        show (cp (spt (hdr s (gT S % 64) i d what) (gT S % 64) i 5) i (5 + gT S % 64) _).1 j _ = _
        rw [cp_a, if_neg (by omega), if_neg (by omega), spt_a, if_neg (by omega)]
      refine ⟨⟨?_, ?_, ?_, ?_, ?_, fun t ht => ?_, ?_⟩, ?_⟩
      · rw [hd 21 (by omega) (by omega), hdr_a, if_pos (by omega), if_pos rfl]; rfl
      · rw [hd 23 (by omega) (by omega), hdr_a, if_pos (by omega)]; rfl
      · rw [hd 24 (by omega) (by omega), hdr_a, if_pos (by omega)]; exact b2
      · rw [hd 25 (by omega) (by omega), hdr_a, if_pos (by omega)]; exact b3
      · rw [hd 26 (by omega) (by omega), hdr_a, if_pos (by omega)]; exact b4
      · show (cp (spt (hdr s (gT S % 64) i d what) (gT S % 64) i 5) i (5 + gT S % 64) (rG (gR S i)).length).1 27 _ = _
        rw [cp_a, if_neg (by omega), if_neg (by omega), spt_a, if_pos (by omega), hdr_a, if_neg (by omega), show 5 * i + (5 * (gT S % 64) + t - 5 * (gT S % 64)) = 5 * i + t by omega]
        exact b6 t ht
      · have hrow : RowQ (spt (hdr s (gT S % 64) i d what) (gT S % 64) i 5) i (rG (gR S i)) := b5.mv (by rw [spt_a, if_neg (by omega), hdr_a, if_neg (by omega)]) (fun j k h1 h2 h3 => by rw [spt_a, if_neg (by omega), hdr_a, if_neg (by omega)])
        exact RowQ.mv (s := cp (spt (hdr s (gT S % 64) i d what) (gT S % 64) i 5) i (5 + gT S % 64) (rG (gR S i)).length) rfl (fun j k h1 h2 h3 => rfl) (hrow.cpy (b := 5 + gT S % 64))
      · rw [hd 22 (by omega) (by omega), hdr_a, if_pos (by omega)]; rfl
    · have hk' : k < gT S := by
        have : k < gT S + 1 := hk
        omega
      have hk2' : gT S + 1 ≤ k + 64 := hk2
      show MsgQ _ N _ (va_up (gM S) (gT S) (mkM (gR S i) i what d) k) ∧ _ = nI (mD (va_up (gM S) (gT S) (mkM (gR S i) i what d) k))
      rw [va_n e]
      obtain ⟨b1, b2⟩ := a5 k hk' (by omega)
      have hne : k % 64 ≠ gT S % 64 := by omega
      exact ⟨b1.cg hN (fun j x hx => q_send_o hL (inM_M hne hx)), (q_send_o hL (by unfold inM; omega)).trans b2⟩
  · exact (a6 M hM).cg hN (fun j x hx => q_send_o hL (inM_M (by omega) hx))
end QREL
